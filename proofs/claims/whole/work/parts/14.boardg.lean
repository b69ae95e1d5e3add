def f_X4_valueFrom_B_j66 (fu : Nat) (rec : (Nat → Int32) → Int32 → (Nat → Int32) → (Nat → Int32) → (Nat → Int32) → (Nat → Int32) → (Nat → Int32) → Int32 → Int32 → Int32 → Int32 → Int32 → Int32 → (Option (Int32 × (Nat → Int32) × (Nat → Int32)))) (f_sizes : Nat → Int32) (f_dangers : Int32) (a_courage : Nat → Int32) (a_weight : Nat → Int32) (a_liked : Nat → Int32) (a_count : Int32) (a_living : Int32) (a_pride : Int32) (x1 : Int32) (x2 : Int32) (x3 : Int32) (a_medals : Nat → Int32) (a_votes : Nat → Int32) (x4 : Int32) (x5 : Int32) (s1 : Int32) : Option (Int32 × (Nat → Int32) × (Nat → Int32)) := (rdI f_sizes 4 x3).bind fun y_12 => (f_X0_stands fu a_courage a_medals a_count a_pride s1 y_12).bind fun z_13 => (if z_13 = 0 then some (x5, a_medals, a_votes) else (f_X4_valueIfStood fu rec f_sizes f_dangers a_courage a_weight a_medals a_liked a_votes a_count a_living a_pride x1 x2 x3).bind fun z_15 => (if x4 = 0 then some (if z_15.1 < x5 then z_15.1 else x5, z_15.2.1, z_15.2.2) else some (if x5 < z_15.1 then z_15.1 else x5, z_15.2.1, z_15.2.2)))
def f_X4_valueFrom_B_j39 (fu : Nat) (rec : (Nat → Int32) → Int32 → (Nat → Int32) → (Nat → Int32) → (Nat → Int32) → (Nat → Int32) → (Nat → Int32) → Int32 → Int32 → Int32 → Int32 → Int32 → Int32 → (Option (Int32 × (Nat → Int32) × (Nat → Int32)))) (f_sizes : Nat → Int32) (f_dangers : Int32) (a_courage : Nat → Int32) (a_weight : Nat → Int32) (a_liked : Nat → Int32) (a_count : Int32) (a_living : Int32) (a_pride : Int32) (x1 : Int32) (x2 : Int32) (x3 : Int32) (a_medals : Nat → Int32) (a_votes : Nat → Int32) (s0 : Int32) : Option (Int32 × (Nat → Int32) × (Nat → Int32)) := (rec f_sizes f_dangers a_courage a_weight a_medals a_liked a_votes a_count a_living a_pride x1 x2 (x3 + 1)).bind fun z_17 => (if s0 = 0 then f_X4_valueFrom_B_j66 fu rec f_sizes f_dangers a_courage a_weight a_liked a_count a_living a_pride x1 x2 x3 z_17.2.1 z_17.2.2 s0 z_17.1 x2 else f_X4_valueFrom_B_j66 fu rec f_sizes f_dangers a_courage a_weight a_liked a_count a_living a_pride x1 x2 x3 z_17.2.1 z_17.2.2 s0 z_17.1 x1)
def f_X4_valueFrom_B (fu : Nat) (rec : (Nat → Int32) → Int32 → (Nat → Int32) → (Nat → Int32) → (Nat → Int32) → (Nat → Int32) → (Nat → Int32) → Int32 → Int32 → Int32 → Int32 → Int32 → Int32 → (Option (Int32 × (Nat → Int32) × (Nat → Int32)))) (f_sizes : Nat → Int32) (f_dangers : Int32) (a_courage : Nat → Int32) (a_weight : Nat → Int32) (a_medals : Nat → Int32) (a_liked : Nat → Int32) (a_votes : Nat → Int32) (a_count : Int32) (a_living : Int32) (a_pride : Int32) (x1 : Int32) (x2 : Int32) (x3 : Int32) : Option (Int32 × (Nat → Int32) × (Nat → Int32)) := (if x3 < f_dangers then (if (x3 - x3 / 2 * 2) = 0 then f_X4_valueFrom_B_j39 fu rec f_sizes f_dangers a_courage a_weight a_liked a_count a_living a_pride x1 x2 x3 a_medals a_votes 1 else f_X4_valueFrom_B_j39 fu rec f_sizes f_dangers a_courage a_weight a_liked a_count a_living a_pride x1 x2 x3 a_medals a_votes 0) else (rdI a_medals 8 x1).bind fun y_21 => (rdI a_medals 8 x2).bind fun y_22 => some (y_21 - y_22, a_medals, a_votes))
abbrev rm_X4_valueFrom_B (F L : Nat) : Room := { frames := F + 3, cells := 0, slots := 0, locals := L + 76 }
set_option maxHeartbeats 4000000 in
set_option maxRecDepth 100000 in
theorem c_X4_valueFrom_B (l : Launch) (D : va_G) (cy : Nat → ClassId) (fu : Nat) (rec : (Nat → Int32) → Int32 → (Nat → Int32) → (Nat → Int32) → (Nat → Int32) → (Nat → Int32) → (Nat → Int32) → Int32 → Int32 → Int32 → Int32 → Int32 → Int32 → (Option (Int32 × (Nat → Int32) × (Nat → Int32)))) (F L : Nat) (hrec : ∀ (A_f : Nat → Nat) (f_sizes : Nat → Int32) (f_dangers : Int32) (A_a : Nat → Nat) (a_name : Nat → Int64) (a_courage : Nat → Int32) (a_weight : Nat → Int32) (a_medals : Nat → Int32) (a_stood : Nat → Int32) (a_fled : Nat → Int32) (a_liked : Nat → Int32) (a_votes : Nat → Int32) (a_count : Int32) (a_living : Int32) (a_pride : Int32) (a_quota : Int32) (a_melted : Int32) (a_lost : Int32) (x1 : Int32) (x2 : Int32) (x3 : Int32) (res : Int32 × (Nat → Int32) × (Nat → Int32)) (h : rec f_sizes f_dangers a_courage a_weight a_medals a_liked a_votes a_count a_living a_pride x1 x2 x3 = some res) (A : Nat → Prop) (hA : A = adr [bl_X4 cy A_f (A_a 0) f_sizes f_dangers, bl_X0 cy A_a a_name a_courage a_weight a_medals a_stood a_fled a_liked a_votes a_count a_living a_pride a_quota a_melted a_lost]) (W1 : List va_W) (hW1 : W1 = [bl_X4 cy A_f (A_a 0) f_sizes f_dangers, bl_X0 cy A_a a_name a_courage a_weight res.2.1 a_stood a_fled a_liked res.2.2 a_count a_living a_pride a_quota a_melted a_lost]), Met l yX4_valueFrom (WW yX4_valueFrom cX4_valueFrom 7 (some .int)) { frames := F, cells := 0, slots := 0, locals := L } (Ed D cy [.ref (A_f 0), .int x1, .int x2, .int x3] [bl_X4 cy A_f (A_a 0) f_sizes f_dangers, bl_X0 cy A_a a_name a_courage a_weight a_medals a_stood a_fled a_liked a_votes a_count a_living a_pride a_quota a_melted a_lost]) (Qei D res.1 A W1) 0 0 A) (A_f : Nat → Nat) (f_sizes : Nat → Int32) (f_dangers : Int32) (A_a : Nat → Nat) (a_name : Nat → Int64) (a_courage : Nat → Int32) (a_weight : Nat → Int32) (a_medals : Nat → Int32) (a_stood : Nat → Int32) (a_fled : Nat → Int32) (a_liked : Nat → Int32) (a_votes : Nat → Int32) (a_count : Int32) (a_living : Int32) (a_pride : Int32) (a_quota : Int32) (a_melted : Int32) (a_lost : Int32) (x1 : Int32) (x2 : Int32) (x3 : Int32) (res : Int32 × (Nat → Int32) × (Nat → Int32)) (h : f_X4_valueFrom_B fu rec f_sizes f_dangers a_courage a_weight a_medals a_liked a_votes a_count a_living a_pride x1 x2 x3 = some res) (A : Nat → Prop) (hA : A = adr [bl_X4 cy A_f (A_a 0) f_sizes f_dangers, bl_X0 cy A_a a_name a_courage a_weight a_medals a_stood a_fled a_liked a_votes a_count a_living a_pride a_quota a_melted a_lost]) (W1 : List va_W) (hW1 : W1 = [bl_X4 cy A_f (A_a 0) f_sizes f_dangers, bl_X0 cy A_a a_name a_courage a_weight res.2.1 a_stood a_fled a_liked res.2.2 a_count a_living a_pride a_quota a_melted a_lost]) : Met l yX4_valueFrom (WW yX4_valueFrom cX4_valueFrom 7 (some .int)) (rm_X4_valueFrom_B F L) (Ed D cy [.ref (A_f 0), .int x1, .int x2, .int x3] [bl_X4 cy A_f (A_a 0) f_sizes f_dangers, bl_X0 cy A_a a_name a_courage a_weight a_medals a_stood a_fled a_liked a_votes a_count a_living a_pride a_quota a_melted a_lost]) (Qei D res.1 A W1) 0 0 A := by
  refine Met.ofW (cc := cX4_valueFrom) (maxL := 7) (ret := (some .int)) (by decide) rfl ?_
  intro p e s m args below meth c s₁ B hml hv
  obtain ⟨hargs, hP, hX, hD0⟩ := hv
  have hx := B.exec
  have hb := B.bytes
  have hr := B.returns
  have ht : ∀ w ∈ lw_gd, w.before args s = true := fun w hw => atoms_spec (ws := WW yX4_valueFrom cX4_valueFrom 7 (some .int)) B.pre w (List.mem_cons_of_mem _ hw)
  have hown : s.vm.findClass RX4 = some m.cls := findClass_of_methodNamed B.named
  have hlocks := B.notSynchronized
  have hP : PD D A [bl_X4 cy A_f (A_a 0) f_sizes f_dangers, bl_X0 cy A_a a_name a_courage a_weight a_medals a_stood a_fled a_liked a_votes a_count a_living a_pride a_quota a_melted a_lost] s.heap := ⟨hP, by rw [hA]; exact hD0.own⟩
  have hS : va_S A s.heap s.heap [] := va_S.rf
  obtain ⟨ls, hl, hent⟩ := ent (m := m) (n := 7) hargs (Nat.le_of_ble_eq_true rfl) (lv := [(0, .ref (A_f 0)), (1, .int x1), (2, .int x2), (3, .int x3)]) rfl
  rw [hent]
  clear hent
  have j66 : ∀ (a_medals : Nat → Int32) (a_votes : Nat → Int32) (x4 : Int32) (x5 : Int32) (s1 : Int32) (H : Heap) (locs : List Loc) (_ : PD D A [bl_X4 cy A_f (A_a 0) f_sizes f_dangers, bl_X0 cy A_a a_name a_courage a_weight a_medals a_stood a_fled a_liked a_votes a_count a_living a_pride a_quota a_melted a_lost] H) (_ : va_S A s.heap H locs) (ls : Array Slot), lv_has ls 7 [(0, .ref (A_f 0)), (1, .int x1), (2, .int x2), (3, .int x3), (4, .int x4), (5, .int x5)] → f_X4_valueFrom_B_j66 fu rec f_sizes f_dangers a_courage a_weight a_liked a_count a_living a_pride x1 x2 x3 a_medals a_votes x4 x5 s1 = some res → W p l e (headSpec (WW yX4_valueFrom cX4_valueFrom 7 (some .int)) (rm_X4_valueFrom_B F L)).room s m args below meth c H locs 0 0 (MQ below (Qei D res.1 A W1) args s 0 0 A) (F0 m 66 ls [.int s1, .ref (A_a 0)]) := by
    intro a_medals a_votes x4 x5 s1 H locs hP hS ls hl h
    unfold f_X4_valueFrom_B_j66 at h
    refine lv_aload_n hx hb dX4_valueFrom_66 rfl (lv_at hl 0 rfl) ?_
    refine xget (i := 0) (j := 0) (k := 1) (T := TX4) hx hb ht tb_iX4 hown hX hP.1 rfl rfl rfl (by decide) tb_369 rfl dX4_valueFrom_67 ?_
    refine lv_iload_n hx hb dX4_valueFrom_70 rfl (lv_at hl 3 rfl) ?_
    obtain ⟨y_12, e_y_12, h⟩ := bi h
    refine xiald (i0 := 0) (j0 := 1) hx hb hX hP.1 rfl rfl e_y_12 dX4_valueFrom_71 ?_
    obtain ⟨z_13, e_z_13, h⟩ := bi h
    refine roVi (rest := []) ⟨hx, hb, hml, hown, ht⟩ (c_X0_stands l D cy fu A_a a_name a_courage a_weight a_medals a_stood a_fled a_liked a_votes a_count a_living a_pride a_quota a_melted a_lost s1 y_12 z_13 e_z_13) (cV ht mv_X0_stands tb_1034 rfl rfl ⟨by show 2 + 1 ≤ F + 3; omega, by show 8 + (3 + 11) + (44) ≤ L + 76; omega⟩) (P_sub hP.1 [1] rfl) hX rfl rfl rfl hl.1 rfl (Nat.le_of_ble_eq_true rfl) dX4_valueFrom_72 ⟨Nat.le_of_ble_eq_true rfl, Nat.le_of_ble_eq_true rfl⟩ ?_
    refine lv_if_ne (tgt := 81) hx hb dX4_valueFrom_75 (by decide) (fun c_14 => ?_) (fun c_14 => ?_)
    · have h := ie c_14 h
      refine lv_aload_n hx hb dX4_valueFrom_81 rfl (lv_at hl 0 rfl) ?_
      refine lv_iload_n hx hb dX4_valueFrom_82 rfl (lv_at hl 1 rfl) ?_
      refine lv_iload_n hx hb dX4_valueFrom_83 rfl (lv_at hl 2 rfl) ?_
      refine lv_iload_n hx hb dX4_valueFrom_84 rfl (lv_at hl 3 rfl) ?_
      obtain ⟨z_15, e_z_15, h⟩ := bi h
      refine efVi (rest := []) ⟨hx, hb, hml, hown, ht⟩ (c_X4_valueIfStood l D cy fu rec F L hrec A_f f_sizes f_dangers A_a a_name a_courage a_weight a_medals a_stood a_fled a_liked a_votes a_count a_living a_pride a_quota a_melted a_lost x1 x2 x3 z_15 e_z_15 _ rfl _ rfl) (cV ht mv_X4_valueIfStood tb_1114 rfl rfl ⟨by show F + 2 + 1 ≤ F + 3; omega, by show 8 + (7 + 11) + (L + 50) ≤ L + 76; omega⟩) hP hS hX [0, 1] rfl rfl rfl rfl rfl rfl hl.1 rfl (Nat.le_of_ble_eq_true rfl) dX4_valueFrom_85 ⟨Nat.le_of_ble_eq_true rfl, Nat.le_of_ble_eq_true rfl⟩ (fun H locs hP hS => ?_)
      have hP : PD D A [bl_X4 cy A_f (A_a 0) f_sizes f_dangers, bl_X0 cy A_a a_name a_courage a_weight z_15.2.1 a_stood a_fled a_liked z_15.2.2 a_count a_living a_pride a_quota a_melted a_lost] H := hP
      refine lv_istore (lv' := [(6, .int z_15.1), (0, .ref (A_f 0)), (1, .int x1), (2, .int x2), (3, .int x3), (4, .int x4), (5, .int x5)]) hx hb dX4_valueFrom_88 hl (by decide) rfl (fun ls hl => ?_)
      refine lv_iload hx hb dX4_valueFrom_90 (lv_at hl 5 rfl) ?_
      refine lv_if_eq (tgt := 105) hx hb dX4_valueFrom_92 (by decide) (fun c_16 => ?_) (fun c_16 => ?_)
      · have h := it c_16 h
        refine lv_iload hx hb dX4_valueFrom_105 (lv_at hl 6 rfl) ?_
        refine lv_iload hx hb dX4_valueFrom_107 (lv_at hl 0 rfl) ?_
        refine va_mmin hx hb (hml.trans hl.1.symm) hown (ht _ tb_996) (ht _ tb_583) (ht _ tb_19) (ht _ tb_584) (by show 1 ≤ F + 3; omega) (by show 0 + 13 ≤ L + 76; omega) (Nat.le_of_ble_eq_true rfl) (Nat.le_of_ble_eq_true rfl) dX4_valueFrom_109 ?_
        cases h
        subst hW1
        exact W.iret hx hb hr (fun _ ht9 _ => ⟨⟨_, (), rfl, rfl, hPt ht9 hP.1⟩, hS.F ht9⟩) hS.2.2 dX4_valueFrom_112
      · have h := ie c_16 h
        refine lv_iload hx hb dX4_valueFrom_95 (lv_at hl 6 rfl) ?_
        refine lv_iload hx hb dX4_valueFrom_97 (lv_at hl 0 rfl) ?_
        refine va_mmax hx hb (hml.trans hl.1.symm) hown (ht _ tb_997) (ht _ tb_586) (ht _ tb_19) (ht _ tb_587) (by show 1 ≤ F + 3; omega) (by show 0 + 13 ≤ L + 76; omega) (Nat.le_of_ble_eq_true rfl) (Nat.le_of_ble_eq_true rfl) dX4_valueFrom_99 ?_
        refine lv_goto (tgt := 112) hx hb dX4_valueFrom_102 (by decide) ?_
        cases h
        subst hW1
        exact W.iret hx hb hr (fun _ ht9 _ => ⟨⟨_, (), rfl, rfl, hPt ht9 hP.1⟩, hS.F ht9⟩) hS.2.2 dX4_valueFrom_112
    · have h := it c_14 h
      refine lv_iload hx hb dX4_valueFrom_78 (lv_at hl 5 rfl) ?_
      cases h
      subst hW1
      exact W.iret hx hb hr (fun _ ht9 _ => ⟨⟨_, (), rfl, rfl, hPt ht9 hP.1⟩, hS.F ht9⟩) hS.2.2 dX4_valueFrom_80
  have j39 : ∀ (a_medals : Nat → Int32) (a_votes : Nat → Int32) (s0 : Int32) (H : Heap) (locs : List Loc) (_ : PD D A [bl_X4 cy A_f (A_a 0) f_sizes f_dangers, bl_X0 cy A_a a_name a_courage a_weight a_medals a_stood a_fled a_liked a_votes a_count a_living a_pride a_quota a_melted a_lost] H) (_ : va_S A s.heap H locs) (ls : Array Slot), lv_has ls 7 [(0, .ref (A_f 0)), (1, .int x1), (2, .int x2), (3, .int x3)] → f_X4_valueFrom_B_j39 fu rec f_sizes f_dangers a_courage a_weight a_liked a_count a_living a_pride x1 x2 x3 a_medals a_votes s0 = some res → W p l e (headSpec (WW yX4_valueFrom cX4_valueFrom 7 (some .int)) (rm_X4_valueFrom_B F L)).room s m args below meth c H locs 0 0 (MQ below (Qei D res.1 A W1) args s 0 0 A) (F0 m 39 ls [.int s0]) := by
    intro a_medals a_votes s0 H locs hP hS ls hl h
    unfold f_X4_valueFrom_B_j39 at h
    refine lv_istore (lv' := [(4, .int s0), (0, .ref (A_f 0)), (1, .int x1), (2, .int x2), (3, .int x3)]) hx hb dX4_valueFrom_39 hl (by decide) rfl (fun ls hl => ?_)
    refine lv_aload_n hx hb dX4_valueFrom_41 rfl (lv_at hl 1 rfl) ?_
    refine lv_iload_n hx hb dX4_valueFrom_42 rfl (lv_at hl 2 rfl) ?_
    refine lv_iload_n hx hb dX4_valueFrom_43 rfl (lv_at hl 3 rfl) ?_
    refine lv_iload_n hx hb dX4_valueFrom_44 rfl (lv_at hl 4 rfl) ?_
    refine lv_iconst (v := 1) hx hb dX4_valueFrom_45 (by decide) ?_
    refine lv_iadd hx hb dX4_valueFrom_46 ?_
    obtain ⟨z_17, e_z_17, h⟩ := bi h
    refine efVi (rest := []) ⟨hx, hb, hml, hown, ht⟩ (hrec A_f f_sizes f_dangers A_a a_name a_courage a_weight a_medals a_stood a_fled a_liked a_votes a_count a_living a_pride a_quota a_melted a_lost x1 x2 (x3 + 1) z_17 e_z_17 _ rfl _ rfl) (cV ht mv_X4_valueFrom tb_1110 rfl rfl ⟨by show F + 1 ≤ F + 3; omega, by show 8 + (7 + 11) + (L) ≤ L + 76; omega⟩) hP hS hX [0, 1] rfl rfl rfl rfl rfl rfl hl.1 rfl (Nat.le_of_ble_eq_true rfl) dX4_valueFrom_47 ⟨Nat.le_of_ble_eq_true rfl, Nat.le_of_ble_eq_true rfl⟩ (fun H locs hP hS => ?_)
    have hP : PD D A [bl_X4 cy A_f (A_a 0) f_sizes f_dangers, bl_X0 cy A_a a_name a_courage a_weight z_17.2.1 a_stood a_fled a_liked z_17.2.2 a_count a_living a_pride a_quota a_melted a_lost] H := hP
    refine lv_istore (lv' := [(5, .int z_17.1), (4, .int s0), (0, .ref (A_f 0)), (1, .int x1), (2, .int x2), (3, .int x3)]) hx hb dX4_valueFrom_50 hl (by decide) rfl (fun ls hl => ?_)
    refine lv_aload_n hx hb dX4_valueFrom_52 rfl (lv_at hl 2 rfl) ?_
    refine xget (i := 0) (j := 0) (k := 0) (T := TX4) hx hb ht tb_iX4 hown hX hP.1 rfl rfl rfl (by decide) tb_368 rfl dX4_valueFrom_53 ?_
    refine lv_iload hx hb dX4_valueFrom_56 (lv_at hl 1 rfl) ?_
    refine lv_if_eq (tgt := 65) hx hb dX4_valueFrom_58 (by decide) (fun c_18 => ?_) (fun c_18 => ?_)
    · have h := it c_18 h
      refine lv_iload_n hx hb dX4_valueFrom_65 rfl (lv_at hl 4 rfl) ?_
      exact j66 z_17.2.1 z_17.2.2 s0 z_17.1 x2 _ _ hP hS ls (lv_sub hl [2, 3, 4, 5, 1, 0] rfl) h
    · have h := ie c_18 h
      refine lv_iload_n hx hb dX4_valueFrom_61 rfl (lv_at hl 3 rfl) ?_
      refine lv_goto (tgt := 66) hx hb dX4_valueFrom_62 (by decide) ?_
      exact j66 z_17.2.1 z_17.2.2 s0 z_17.1 x1 _ _ hP hS ls (lv_sub hl [2, 3, 4, 5, 1, 0] rfl) h
  unfold f_X4_valueFrom_B at h
  refine lv_iload_n hx hb dX4_valueFrom_0 rfl (lv_at hl 3 rfl) ?_
  refine lv_aload_n hx hb dX4_valueFrom_1 rfl (lv_at hl 0 rfl) ?_
  refine xget (i := 0) (j := 0) (k := 2) (T := TX4) hx hb ht tb_iX4 hown hX hP.1 rfl rfl rfl (by decide) tb_370 rfl dX4_valueFrom_2 ?_
  refine lv_icmp_lt (tgt := 28) hx hb dX4_valueFrom_5 (by decide) (fun c_19 => ?_) (fun c_19 => ?_)
  · have h := it c_19 h
    refine lv_iload_n hx hb dX4_valueFrom_28 rfl (lv_at hl 3 rfl) ?_
    refine lv_iconst (v := 2) hx hb dX4_valueFrom_29 (by decide) ?_
    refine lv_irem hx hb dX4_valueFrom_30 (by decide) ?_
    refine lv_if_ne (tgt := 38) hx hb dX4_valueFrom_31 (by decide) (fun c_20 => ?_) (fun c_20 => ?_)
    · have h := ie c_20 h
      refine lv_iconst (v := 0) hx hb dX4_valueFrom_38 (by decide) ?_
      exact j39 a_medals a_votes 0 _ _ hP hS ls (lv_sub hl [0, 1, 2, 3] rfl) h
    · have h := it c_20 h
      refine lv_iconst (v := 1) hx hb dX4_valueFrom_34 (by decide) ?_
      refine lv_goto (tgt := 39) hx hb dX4_valueFrom_35 (by decide) ?_
      exact j39 a_medals a_votes 1 _ _ hP hS ls (lv_sub hl [0, 1, 2, 3] rfl) h
  · have h := ie c_19 h
    refine lv_aload_n hx hb dX4_valueFrom_8 rfl (lv_at hl 0 rfl) ?_
    refine xget (i := 0) (j := 0) (k := 0) (T := TX4) hx hb ht tb_iX4 hown hX hP.1 rfl rfl rfl (by decide) tb_368 rfl dX4_valueFrom_9 ?_
    refine xget (i := 1) (j := 0) (k := 3) (T := TX0) hx hb ht tb_iX0 hown hX hP.1 rfl rfl rfl (by decide) tb_44 rfl dX4_valueFrom_12 ?_
    refine lv_iload_n hx hb dX4_valueFrom_15 rfl (lv_at hl 1 rfl) ?_
    obtain ⟨y_21, e_y_21, h⟩ := bi h
    refine xiald (i0 := 1) (j0 := 4) hx hb hX hP.1 rfl rfl e_y_21 dX4_valueFrom_16 ?_
    refine lv_aload_n hx hb dX4_valueFrom_17 rfl (lv_at hl 0 rfl) ?_
    refine xget (i := 0) (j := 0) (k := 0) (T := TX4) hx hb ht tb_iX4 hown hX hP.1 rfl rfl rfl (by decide) tb_368 rfl dX4_valueFrom_18 ?_
    refine xget (i := 1) (j := 0) (k := 3) (T := TX0) hx hb ht tb_iX0 hown hX hP.1 rfl rfl rfl (by decide) tb_44 rfl dX4_valueFrom_21 ?_
    refine lv_iload_n hx hb dX4_valueFrom_24 rfl (lv_at hl 2 rfl) ?_
    obtain ⟨y_22, e_y_22, h⟩ := bi h
    refine xiald (i0 := 1) (j0 := 4) hx hb hX hP.1 rfl rfl e_y_22 dX4_valueFrom_25 ?_
    refine lv_isub hx hb dX4_valueFrom_26 ?_
    cases h
    subst hW1
    exact W.iret hx hb hr (fun _ ht9 _ => ⟨⟨_, (), rfl, rfl, hPt ht9 hP.1⟩, hS.F ht9⟩) hS.2.2 dX4_valueFrom_27
def f_X4_valueFrom (fu : Nat) : Nat → (Nat → Int32) → Int32 → (Nat → Int32) → (Nat → Int32) → (Nat → Int32) → (Nat → Int32) → (Nat → Int32) → Int32 → Int32 → Int32 → Int32 → Int32 → Int32 → (Option (Int32 × (Nat → Int32) × (Nat → Int32)))
  | 0, _, _, _, _, _, _, _, _, _, _, _, _, _ => none
  | d + 1, f_sizes, f_dangers, a_courage, a_weight, a_medals, a_liked, a_votes, a_count, a_living, a_pride, x1, x2, x3 => f_X4_valueFrom_B fu (f_X4_valueFrom fu d) f_sizes f_dangers a_courage a_weight a_medals a_liked a_votes a_count a_living a_pride x1 x2 x3
set_option maxHeartbeats 4000000 in
set_option maxRecDepth 100000 in
theorem c_X4_valueFrom (l : Launch) (D : va_G) (cy : Nat → ClassId) (fu : Nat) (d : Nat) : ∀ (A_f : Nat → Nat) (f_sizes : Nat → Int32) (f_dangers : Int32) (A_a : Nat → Nat) (a_name : Nat → Int64) (a_courage : Nat → Int32) (a_weight : Nat → Int32) (a_medals : Nat → Int32) (a_stood : Nat → Int32) (a_fled : Nat → Int32) (a_liked : Nat → Int32) (a_votes : Nat → Int32) (a_count : Int32) (a_living : Int32) (a_pride : Int32) (a_quota : Int32) (a_melted : Int32) (a_lost : Int32) (x1 : Int32) (x2 : Int32) (x3 : Int32) (res : Int32 × (Nat → Int32) × (Nat → Int32)) (h : f_X4_valueFrom fu d f_sizes f_dangers a_courage a_weight a_medals a_liked a_votes a_count a_living a_pride x1 x2 x3 = some res) (A : Nat → Prop) (hA : A = adr [bl_X4 cy A_f (A_a 0) f_sizes f_dangers, bl_X0 cy A_a a_name a_courage a_weight a_medals a_stood a_fled a_liked a_votes a_count a_living a_pride a_quota a_melted a_lost]) (W1 : List va_W) (hW1 : W1 = [bl_X4 cy A_f (A_a 0) f_sizes f_dangers, bl_X0 cy A_a a_name a_courage a_weight res.2.1 a_stood a_fled a_liked res.2.2 a_count a_living a_pride a_quota a_melted a_lost]), Met l yX4_valueFrom (WW yX4_valueFrom cX4_valueFrom 7 (some .int)) { frames := 3 * d, cells := 0, slots := 0, locals := 76 * d } (Ed D cy [.ref (A_f 0), .int x1, .int x2, .int x3] [bl_X4 cy A_f (A_a 0) f_sizes f_dangers, bl_X0 cy A_a a_name a_courage a_weight a_medals a_stood a_fled a_liked a_votes a_count a_living a_pride a_quota a_melted a_lost]) (Qei D res.1 A W1) 0 0 A := by
  induction d with
  | zero => intro A_f f_sizes f_dangers A_a a_name a_courage a_weight a_medals a_stood a_fled a_liked a_votes a_count a_living a_pride a_quota a_melted a_lost x1 x2 x3 res h A hA W1 hW1; cases h
  | succ d ih => intro A_f f_sizes f_dangers A_a a_name a_courage a_weight a_medals a_stood a_fled a_liked a_votes a_count a_living a_pride a_quota a_melted a_lost x1 x2 x3 res h A hA W1 hW1; exact c_X4_valueFrom_B l D cy fu (f_X4_valueFrom fu d) (3 * d) (76 * d) ih A_f f_sizes f_dangers A_a a_name a_courage a_weight a_medals a_stood a_fled a_liked a_votes a_count a_living a_pride a_quota a_melted a_lost x1 x2 x3 res h A hA W1 hW1
def f_X4_valueIfStood_C (fu : Nat) (f_sizes : Nat → Int32) (f_dangers : Int32) (a_courage : Nat → Int32) (a_weight : Nat → Int32) (a_medals : Nat → Int32) (a_liked : Nat → Int32) (a_votes : Nat → Int32) (a_count : Int32) (a_living : Int32) (a_pride : Int32) (x1 : Int32) (x2 : Int32) (x3 : Int32) : Option (Int32 × (Nat → Int32) × (Nat → Int32)) := f_X4_valueIfStood fu (f_X4_valueFrom fu 6) f_sizes f_dangers a_courage a_weight a_medals a_liked a_votes a_count a_living a_pride x1 x2 x3
abbrev c_X4_valueIfStood_C (l : Launch) (D : va_G) (cy : Nat → ClassId) (fu : Nat) := c_X4_valueIfStood l D cy fu (f_X4_valueFrom fu 6) (3 * 6) (76 * 6) (c_X4_valueFrom l D cy fu 6)
theorem dX4_valueFor_0 : decode cX4_valueFor 0 = .ok (.aload_n 0, 1) := by decide +kernel
theorem dX4_valueFor_1 : decode cX4_valueFor 1 = .ok (.getfield 12, 3) := by decide +kernel
theorem dX4_valueFor_4 : decode cX4_valueFor 4 = .ok (.iload_n 1, 1) := by decide +kernel
theorem dX4_valueFor_5 : decode cX4_valueFor 5 = .ok (.invokevirtual 45, 3) := by decide +kernel
theorem dX4_valueFor_8 : decode cX4_valueFor 8 = .ok (.ifCond .eq 24, 3) := by decide +kernel
theorem dX4_valueFor_11 : decode cX4_valueFor 11 = .ok (.aload_n 0, 1) := by decide +kernel
theorem dX4_valueFor_12 : decode cX4_valueFor 12 = .ok (.getfield 12, 3) := by decide +kernel
theorem dX4_valueFor_15 : decode cX4_valueFor 15 = .ok (.iload_n 2, 1) := by decide +kernel
theorem dX4_valueFor_16 : decode cX4_valueFor 16 = .ok (.invokevirtual 45, 3) := by decide +kernel
theorem dX4_valueFor_19 : decode cX4_valueFor 19 = .ok (.ifCond .eq 13, 3) := by decide +kernel
theorem dX4_valueFor_22 : decode cX4_valueFor 22 = .ok (.aload_n 0, 1) := by decide +kernel
theorem dX4_valueFor_23 : decode cX4_valueFor 23 = .ok (.iload_n 1, 1) := by decide +kernel
theorem dX4_valueFor_24 : decode cX4_valueFor 24 = .ok (.iload_n 2, 1) := by decide +kernel
theorem dX4_valueFor_25 : decode cX4_valueFor 25 = .ok (.iconst 0, 1) := by decide +kernel
theorem dX4_valueFor_26 : decode cX4_valueFor 26 = .ok (.invokevirtual 86, 3) := by decide +kernel
theorem dX4_valueFor_29 : decode cX4_valueFor 29 = .ok (.goto 4, 3) := by decide +kernel
theorem dX4_valueFor_32 : decode cX4_valueFor 32 = .ok (.iconst 0, 1) := by decide +kernel
theorem dX4_valueFor_33 : decode cX4_valueFor 33 = .ok (.ireturn, 1) := by decide +kernel
theorem mv_X4_valueFor : MV yX4_valueFor RX4 cX4_valueFor 3 (some .int) 2 := ⟨tb_1109, tb_1107, tb_1108, tb_13, by decide +kernel, by decide +kernel, by decide +kernel⟩
def f_X4_valueFor (fu : Nat) (f_sizes : Nat → Int32) (f_dangers : Int32) (a_courage : Nat → Int32) (a_weight : Nat → Int32) (a_medals : Nat → Int32) (a_liked : Nat → Int32) (a_votes : Nat → Int32) (a_count : Int32) (a_living : Int32) (a_pride : Int32) (x1 : Int32) (x2 : Int32) : Option (Int32 × (Nat → Int32) × (Nat → Int32)) := (f_X0_isMan fu a_count x1).bind fun z_6 => (if z_6 = 0 then some (0, a_medals, a_votes) else (f_X0_isMan fu a_count x2).bind fun z_8 => (if z_8 = 0 then some (0, a_medals, a_votes) else (f_X4_valueFrom fu 6 f_sizes f_dangers a_courage a_weight a_medals a_liked a_votes a_count a_living a_pride x1 x2 0).bind fun z_10 => some (z_10.1, z_10.2.1, z_10.2.2)))
abbrev rm_X4_valueFor : Room := { frames := 19, cells := 0, slots := 0, locals := 482 }
set_option maxHeartbeats 4000000 in
set_option maxRecDepth 100000 in
theorem c_X4_valueFor (l : Launch) (D : va_G) (cy : Nat → ClassId) (fu : Nat) (A_f : Nat → Nat) (f_sizes : Nat → Int32) (f_dangers : Int32) (A_a : Nat → Nat) (a_name : Nat → Int64) (a_courage : Nat → Int32) (a_weight : Nat → Int32) (a_medals : Nat → Int32) (a_stood : Nat → Int32) (a_fled : Nat → Int32) (a_liked : Nat → Int32) (a_votes : Nat → Int32) (a_count : Int32) (a_living : Int32) (a_pride : Int32) (a_quota : Int32) (a_melted : Int32) (a_lost : Int32) (x1 : Int32) (x2 : Int32) (res : Int32 × (Nat → Int32) × (Nat → Int32)) (h : f_X4_valueFor fu f_sizes f_dangers a_courage a_weight a_medals a_liked a_votes a_count a_living a_pride x1 x2 = some res) (A : Nat → Prop) (hA : A = adr [bl_X4 cy A_f (A_a 0) f_sizes f_dangers, bl_X0 cy A_a a_name a_courage a_weight a_medals a_stood a_fled a_liked a_votes a_count a_living a_pride a_quota a_melted a_lost]) (W1 : List va_W) (hW1 : W1 = [bl_X4 cy A_f (A_a 0) f_sizes f_dangers, bl_X0 cy A_a a_name a_courage a_weight res.2.1 a_stood a_fled a_liked res.2.2 a_count a_living a_pride a_quota a_melted a_lost]) : Met l yX4_valueFor (WW yX4_valueFor cX4_valueFor 3 (some .int)) rm_X4_valueFor (Ed D cy [.ref (A_f 0), .int x1, .int x2] [bl_X4 cy A_f (A_a 0) f_sizes f_dangers, bl_X0 cy A_a a_name a_courage a_weight a_medals a_stood a_fled a_liked a_votes a_count a_living a_pride a_quota a_melted a_lost]) (Qei D res.1 A W1) 0 0 A := by
  refine Met.ofW (cc := cX4_valueFor) (maxL := 3) (ret := (some .int)) (by decide) rfl ?_
  intro p e s m args below meth c s₁ B hml hv
  obtain ⟨hargs, hP, hX, hD0⟩ := hv
  have hx := B.exec
  have hb := B.bytes
  have hr := B.returns
  have ht : ∀ w ∈ lw_gd, w.before args s = true := fun w hw => atoms_spec (ws := WW yX4_valueFor cX4_valueFor 3 (some .int)) B.pre w (List.mem_cons_of_mem _ hw)
  have hown : s.vm.findClass RX4 = some m.cls := findClass_of_methodNamed B.named
  have hlocks := B.notSynchronized
  have hP : PD D A [bl_X4 cy A_f (A_a 0) f_sizes f_dangers, bl_X0 cy A_a a_name a_courage a_weight a_medals a_stood a_fled a_liked a_votes a_count a_living a_pride a_quota a_melted a_lost] s.heap := ⟨hP, by rw [hA]; exact hD0.own⟩
  have hS : va_S A s.heap s.heap [] := va_S.rf
  obtain ⟨ls, hl, hent⟩ := ent (m := m) (n := 3) hargs (Nat.le_of_ble_eq_true rfl) (lv := [(0, .ref (A_f 0)), (1, .int x1), (2, .int x2)]) rfl
  rw [hent]
  clear hent
  unfold f_X4_valueFor at h
  refine lv_aload_n hx hb dX4_valueFor_0 rfl (lv_at hl 0 rfl) ?_
  refine xget (i := 0) (j := 0) (k := 0) (T := TX4) hx hb ht tb_iX4 hown hX hP.1 rfl rfl rfl (by decide) tb_368 rfl dX4_valueFor_1 ?_
  refine lv_iload_n hx hb dX4_valueFor_4 rfl (lv_at hl 1 rfl) ?_
  obtain ⟨z_6, e_z_6, h⟩ := bi h
  refine roVi (rest := []) ⟨hx, hb, hml, hown, ht⟩ (c_X0_isMan l D cy fu A_a a_name a_courage a_weight a_medals a_stood a_fled a_liked a_votes a_count a_living a_pride a_quota a_melted a_lost x1 z_6 e_z_6) (cV ht mv_X0_isMan tb_1003 rfl rfl ⟨Nat.le_of_ble_eq_true rfl, Nat.le_of_ble_eq_true rfl⟩) (P_sub hP.1 [1] rfl) hX rfl rfl rfl hl.1 rfl (Nat.le_of_ble_eq_true rfl) dX4_valueFor_5 ⟨Nat.le_of_ble_eq_true rfl, Nat.le_of_ble_eq_true rfl⟩ ?_
  refine lv_if_eq (tgt := 32) hx hb dX4_valueFor_8 (by decide) (fun c_7 => ?_) (fun c_7 => ?_)
  · have h := it c_7 h
    refine lv_iconst (v := 0) hx hb dX4_valueFor_32 (by decide) ?_
    cases h
    subst hW1
    exact W.iret hx hb hr (fun _ ht9 _ => ⟨⟨_, (), rfl, rfl, hPt ht9 hP.1⟩, hS.F ht9⟩) hS.2.2 dX4_valueFor_33
  · have h := ie c_7 h
    refine lv_aload_n hx hb dX4_valueFor_11 rfl (lv_at hl 0 rfl) ?_
    refine xget (i := 0) (j := 0) (k := 0) (T := TX4) hx hb ht tb_iX4 hown hX hP.1 rfl rfl rfl (by decide) tb_368 rfl dX4_valueFor_12 ?_
    refine lv_iload_n hx hb dX4_valueFor_15 rfl (lv_at hl 2 rfl) ?_
    obtain ⟨z_8, e_z_8, h⟩ := bi h
    refine roVi (rest := []) ⟨hx, hb, hml, hown, ht⟩ (c_X0_isMan l D cy fu A_a a_name a_courage a_weight a_medals a_stood a_fled a_liked a_votes a_count a_living a_pride a_quota a_melted a_lost x2 z_8 e_z_8) (cV ht mv_X0_isMan tb_1003 rfl rfl ⟨Nat.le_of_ble_eq_true rfl, Nat.le_of_ble_eq_true rfl⟩) (P_sub hP.1 [1] rfl) hX rfl rfl rfl hl.1 rfl (Nat.le_of_ble_eq_true rfl) dX4_valueFor_16 ⟨Nat.le_of_ble_eq_true rfl, Nat.le_of_ble_eq_true rfl⟩ ?_
    refine lv_if_eq (tgt := 32) hx hb dX4_valueFor_19 (by decide) (fun c_9 => ?_) (fun c_9 => ?_)
    · have h := it c_9 h
      refine lv_iconst (v := 0) hx hb dX4_valueFor_32 (by decide) ?_
      cases h
      subst hW1
      exact W.iret hx hb hr (fun _ ht9 _ => ⟨⟨_, (), rfl, rfl, hPt ht9 hP.1⟩, hS.F ht9⟩) hS.2.2 dX4_valueFor_33
    · have h := ie c_9 h
      refine lv_aload_n hx hb dX4_valueFor_22 rfl (lv_at hl 0 rfl) ?_
      refine lv_iload_n hx hb dX4_valueFor_23 rfl (lv_at hl 1 rfl) ?_
      refine lv_iload_n hx hb dX4_valueFor_24 rfl (lv_at hl 2 rfl) ?_
      refine lv_iconst (v := 0) hx hb dX4_valueFor_25 (by decide) ?_
      obtain ⟨z_10, e_z_10, h⟩ := bi h
      refine efVi (rest := []) ⟨hx, hb, hml, hown, ht⟩ (c_X4_valueFrom l D cy fu 6 A_f f_sizes f_dangers A_a a_name a_courage a_weight a_medals a_stood a_fled a_liked a_votes a_count a_living a_pride a_quota a_melted a_lost x1 x2 0 z_10 e_z_10 _ rfl _ rfl) (cV ht mv_X4_valueFrom tb_1110 rfl rfl ⟨Nat.le_of_ble_eq_true rfl, Nat.le_of_ble_eq_true rfl⟩) hP hS hX [0, 1] rfl rfl rfl rfl rfl rfl hl.1 rfl (Nat.le_of_ble_eq_true rfl) dX4_valueFor_26 ⟨Nat.le_of_ble_eq_true rfl, Nat.le_of_ble_eq_true rfl⟩ (fun H locs hP hS => ?_)
      have hP : PD D A [bl_X4 cy A_f (A_a 0) f_sizes f_dangers, bl_X0 cy A_a a_name a_courage a_weight z_10.2.1 a_stood a_fled a_liked z_10.2.2 a_count a_living a_pride a_quota a_melted a_lost] H := hP
      refine lv_goto (tgt := 33) hx hb dX4_valueFor_29 (by decide) ?_
      cases h
      subst hW1
      exact W.iret hx hb hr (fun _ ht9 _ => ⟨⟨_, (), rfl, rfl, hPt ht9 hP.1⟩, hS.F ht9⟩) hS.2.2 dX4_valueFor_33
def f_X11_gameRefusal_n3_j32 (fu : Nat) (a_count : Int32) (x1 : Int32) (x2 : Int32) (x4 : Int32) (s0 : Int32) : Option (Int32) := (if s0 = 0 then some (1) else some (1))
def f_X11_gameRefusal_n3 (fu : Nat) (a_count : Int32) (x1 : Int32) (x2 : Int32) (x4 : Int32) : Option (Int32) := (f_X0_isMan fu a_count x1).bind fun z_8 => (if z_8 = 0 then f_X11_gameRefusal_n3_j32 fu a_count x1 x2 x4 0 else (f_X0_isMan fu a_count x2).bind fun z_10 => (if z_10 = 0 then f_X11_gameRefusal_n3_j32 fu a_count x1 x2 x4 0 else (if x1 = x2 then f_X11_gameRefusal_n3_j32 fu a_count x1 x2 x4 0 else f_X11_gameRefusal_n3_j32 fu a_count x1 x2 x4 1)))
abbrev rm_X11_gameRefusal_n3 : Room := { frames := 1, cells := 0, slots := 0, locals := 21 }
set_option maxHeartbeats 4000000 in
set_option maxRecDepth 100000 in
theorem c_X11_gameRefusal_n3 (l : Launch) (D : va_G) (cy : Nat → ClassId) (fu : Nat) (A_b : Nat → Nat) (r_b_trays : Nat) (r_b_war : Nat) (r_b_draftArmy : Nat) (r_b_draftWar : Nat) (r_b_reader : Nat) (r_b_armyReader : Nat) (r_b_warReader : Nat) (r_b_markedArmies : Nat) (r_b_markedWars : Nat) (r_b_latest : Nat) (r_b_trial : Nat) (r_b_foresight : Nat) (r_b_pairs : Nat) (b_latestStatus : Int32) (b_fractionTop : Int64) (b_fractionBottom : Int64) (b_marks : Int32) (A_a : Nat → Nat) (a_name : Nat → Int64) (a_courage : Nat → Int32) (a_weight : Nat → Int32) (a_medals : Nat → Int32) (a_stood : Nat → Int32) (a_fled : Nat → Int32) (a_liked : Nat → Int32) (a_votes : Nat → Int32) (a_count : Int32) (a_living : Int32) (a_pride : Int32) (a_quota : Int32) (a_melted : Int32) (a_lost : Int32) (x1 : Int32) (x2 : Int32) (x4 : Int32) (res : Int32) (h : f_X11_gameRefusal_n3 fu a_count x1 x2 x4 = some res) : Met l yX11_gameRefusal (WW yX11_gameRefusal cX11_gameRefusal 7 (some .int)) rm_X11_gameRefusal_n3 (Rd D cy [.ref (A_b 0), .int x1, .int x2, .null, .int x4] [bl_X11 cy A_b r_b_trays (A_a 0) r_b_war r_b_draftArmy r_b_draftWar r_b_reader r_b_armyReader r_b_warReader r_b_markedArmies r_b_markedWars r_b_latest r_b_trial r_b_foresight r_b_pairs b_latestStatus b_fractionTop b_fractionBottom b_marks, bl_X0 cy A_a a_name a_courage a_weight a_medals a_stood a_fled a_liked a_votes a_count a_living a_pride a_quota a_melted a_lost]) (vp_Si (fun v => v = res)) 0 0 (fun _ => False) := by
  refine Met.ofW (cc := cX11_gameRefusal) (maxL := 7) (ret := (some .int)) (by decide) rfl ?_
  intro p e s m args below meth c s₁ B hml hv
  obtain ⟨hargs, hP, hX⟩ := hv
  have hx := B.exec
  have hb := B.bytes
  have hr := B.returns
  have ht : ∀ w ∈ lw_gd, w.before args s = true := fun w hw => atoms_spec (ws := WW yX11_gameRefusal cX11_gameRefusal 7 (some .int)) B.pre w (List.mem_cons_of_mem _ hw)
  have hown : s.vm.findClass RX11 = some m.cls := findClass_of_methodNamed B.named
  have hlocks := B.notSynchronized
  have hP : PB D [bl_X11 cy A_b r_b_trays (A_a 0) r_b_war r_b_draftArmy r_b_draftWar r_b_reader r_b_armyReader r_b_warReader r_b_markedArmies r_b_markedWars r_b_latest r_b_trial r_b_foresight r_b_pairs b_latestStatus b_fractionTop b_fractionBottom b_marks, bl_X0 cy A_a a_name a_courage a_weight a_medals a_stood a_fled a_liked a_votes a_count a_living a_pride a_quota a_melted a_lost] s.heap := hP
  obtain ⟨ls, hl, hent⟩ := ent (m := m) (n := 7) hargs (Nat.le_of_ble_eq_true rfl) (lv := [(0, .ref (A_b 0)), (1, .int x1), (2, .int x2), (3, .null), (4, .int x4)]) rfl
  rw [hent]
  clear hent
  have j32 : ∀ (s0 : Int32) (ls : Array Slot), lv_has ls 7 [(0, .ref (A_b 0)), (1, .int x1), (2, .int x2), (3, .null), (4, .int x4)] → f_X11_gameRefusal_n3_j32 fu a_count x1 x2 x4 s0 = some res → W p l e (headSpec (WW yX11_gameRefusal cX11_gameRefusal 7 (some .int)) rm_X11_gameRefusal_n3).room s m args below meth c s.heap [] 0 0 (MQ below (vp_Si (fun v => v = res)) args s 0 0 (fun _ => False)) (F0 m 32 ls [.int s0]) := by
    intro s0 ls hl h
    unfold f_X11_gameRefusal_n3_j32 at h
    refine lv_istore (lv' := [(5, .int s0), (0, .ref (A_b 0)), (1, .int x1), (2, .int x2), (3, .null), (4, .int x4)]) hx hb dX11_gameRefusal_32 hl (by decide) rfl (fun ls hl => ?_)
    refine lv_iload hx hb dX11_gameRefusal_34 (lv_at hl 0 rfl) ?_
    refine lv_if_eq (tgt := 53) hx hb dX11_gameRefusal_36 (by decide) (fun c_7 => ?_) (fun c_7 => ?_)
    · have h := it c_7 h
      refine lv_iconst (v := 1) hx hb dX11_gameRefusal_53 (by decide) ?_
      cases h
      exact W.iret hx hb hr (fun _ ht9 _ => ⟨_, rfl, rfl, ht9⟩) (fun _ hq => by cases hq) dX11_gameRefusal_54
    · have h := ie c_7 h
      refine lv_aload_nN hx hb dX11_gameRefusal_39 rfl (lv_at hl 4 rfl) ?_
      refine lv_ifnullN (tgt := 53) hx hb dX11_gameRefusal_40 (by decide) ?_
      refine lv_iconst (v := 1) hx hb dX11_gameRefusal_53 (by decide) ?_
      cases h
      exact W.iret hx hb hr (fun _ ht9 _ => ⟨_, rfl, rfl, ht9⟩) (fun _ hq => by cases hq) dX11_gameRefusal_54
  unfold f_X11_gameRefusal_n3 at h
  refine lv_aload_n hx hb dX11_gameRefusal_0 rfl (lv_at hl 0 rfl) ?_
  refine xget (i := 0) (j := 0) (k := 4) (T := TX11) hx hb ht tb_iX11 hown hX hP rfl rfl rfl (by decide) tb_433 rfl dX11_gameRefusal_1 ?_
  refine lv_iload_n hx hb dX11_gameRefusal_4 rfl (lv_at hl 1 rfl) ?_
  obtain ⟨z_8, e_z_8, h⟩ := bi h
  refine roVi (rest := []) ⟨hx, hb, hml, hown, ht⟩ (c_X0_isMan l D cy fu A_a a_name a_courage a_weight a_medals a_stood a_fled a_liked a_votes a_count a_living a_pride a_quota a_melted a_lost x1 z_8 e_z_8) (cV ht mv_X0_isMan tb_774 rfl rfl ⟨Nat.le_of_ble_eq_true rfl, Nat.le_of_ble_eq_true rfl⟩) (P_sub hP [1] rfl) hX rfl rfl rfl hl.1 rfl (Nat.le_of_ble_eq_true rfl) dX11_gameRefusal_5 ⟨Nat.le_of_ble_eq_true rfl, Nat.le_of_ble_eq_true rfl⟩ ?_
  refine lv_if_eq (tgt := 31) hx hb dX11_gameRefusal_8 (by decide) (fun c_9 => ?_) (fun c_9 => ?_)
  · have h := it c_9 h
    refine lv_iconst (v := 0) hx hb dX11_gameRefusal_31 (by decide) ?_
    exact j32 0 ls (lv_sub hl [0, 1, 2, 3, 4] rfl) h
  · have h := ie c_9 h
    refine lv_aload_n hx hb dX11_gameRefusal_11 rfl (lv_at hl 0 rfl) ?_
    refine xget (i := 0) (j := 0) (k := 4) (T := TX11) hx hb ht tb_iX11 hown hX hP rfl rfl rfl (by decide) tb_433 rfl dX11_gameRefusal_12 ?_
    refine lv_iload_n hx hb dX11_gameRefusal_15 rfl (lv_at hl 2 rfl) ?_
    obtain ⟨z_10, e_z_10, h⟩ := bi h
    refine roVi (rest := []) ⟨hx, hb, hml, hown, ht⟩ (c_X0_isMan l D cy fu A_a a_name a_courage a_weight a_medals a_stood a_fled a_liked a_votes a_count a_living a_pride a_quota a_melted a_lost x2 z_10 e_z_10) (cV ht mv_X0_isMan tb_774 rfl rfl ⟨Nat.le_of_ble_eq_true rfl, Nat.le_of_ble_eq_true rfl⟩) (P_sub hP [1] rfl) hX rfl rfl rfl hl.1 rfl (Nat.le_of_ble_eq_true rfl) dX11_gameRefusal_16 ⟨Nat.le_of_ble_eq_true rfl, Nat.le_of_ble_eq_true rfl⟩ ?_
    refine lv_if_eq (tgt := 31) hx hb dX11_gameRefusal_19 (by decide) (fun c_11 => ?_) (fun c_11 => ?_)
    · have h := it c_11 h
      refine lv_iconst (v := 0) hx hb dX11_gameRefusal_31 (by decide) ?_
      exact j32 0 ls (lv_sub hl [0, 1, 2, 3, 4] rfl) h
    · have h := ie c_11 h
      refine lv_iload_n hx hb dX11_gameRefusal_22 rfl (lv_at hl 1 rfl) ?_
      refine lv_iload_n hx hb dX11_gameRefusal_23 rfl (lv_at hl 2 rfl) ?_
      refine lv_icmp_eq (tgt := 31) hx hb dX11_gameRefusal_24 (by decide) (fun c_12 => ?_) (fun c_12 => ?_)
      · have h := it c_12 h
        refine lv_iconst (v := 0) hx hb dX11_gameRefusal_31 (by decide) ?_
        exact j32 0 ls (lv_sub hl [0, 1, 2, 3, 4] rfl) h
      · have h := ie c_12 h
        refine lv_iconst (v := 1) hx hb dX11_gameRefusal_27 (by decide) ?_
        refine lv_goto (tgt := 32) hx hb dX11_gameRefusal_28 (by decide) ?_
        exact j32 1 ls (lv_sub hl [0, 1, 2, 3, 4] rfl) h
theorem dX11_game_0 : decode cX11_game 0 = .ok (.aload_n 0, 1) := by decide +kernel
theorem dX11_game_1 : decode cX11_game 1 = .ok (.iload_n 3, 1) := by decide +kernel
theorem dX11_game_2 : decode cX11_game 2 = .ok (.invokevirtual 111, 3) := by decide +kernel
theorem dX11_game_5 : decode cX11_game 5 = .ok (.astore 5, 2) := by decide +kernel
theorem dX11_game_7 : decode cX11_game 7 = .ok (.aload_n 0, 1) := by decide +kernel
theorem dX11_game_8 : decode cX11_game 8 = .ok (.iload_n 1, 1) := by decide +kernel
theorem dX11_game_9 : decode cX11_game 9 = .ok (.iload_n 2, 1) := by decide +kernel
theorem dX11_game_10 : decode cX11_game 10 = .ok (.aload 5, 2) := by decide +kernel
theorem dX11_game_12 : decode cX11_game 12 = .ok (.iload 4, 2) := by decide +kernel
theorem dX11_game_14 : decode cX11_game 14 = .ok (.invokevirtual 379, 3) := by decide +kernel
theorem dX11_game_17 : decode cX11_game 17 = .ok (.istore 6, 2) := by decide +kernel
theorem dX11_game_19 : decode cX11_game 19 = .ok (.iload 6, 2) := by decide +kernel
theorem dX11_game_21 : decode cX11_game 21 = .ok (.ifCond .eq 10, 3) := by decide +kernel
theorem dX11_game_24 : decode cX11_game 24 = .ok (.aload_n 0, 1) := by decide +kernel
theorem dX11_game_25 : decode cX11_game 25 = .ok (.iload 6, 2) := by decide +kernel
theorem dX11_game_27 : decode cX11_game 27 = .ok (.invokevirtual 143, 3) := by decide +kernel
theorem dX11_game_30 : decode cX11_game 30 = .ok (.ireturn, 1) := by decide +kernel
theorem dX11_game_31 : decode cX11_game 31 = .ok (.aload_n 0, 1) := by decide +kernel
theorem dX11_game_32 : decode cX11_game 32 = .ok (.getfield 97, 3) := by decide +kernel
theorem dX11_game_35 : decode cX11_game 35 = .ok (.aload_n 0, 1) := by decide +kernel
theorem dX11_game_36 : decode cX11_game 36 = .ok (.getfield 29, 3) := by decide +kernel
theorem dX11_game_39 : decode cX11_game 39 = .ok (.aload 5, 2) := by decide +kernel
theorem dX11_game_41 : decode cX11_game 41 = .ok (.iload 4, 2) := by decide +kernel
theorem dX11_game_43 : decode cX11_game 43 = .ok (.invokevirtual 342, 3) := by decide +kernel
theorem dX11_game_46 : decode cX11_game 46 = .ok (.aload_n 0, 1) := by decide +kernel
theorem dX11_game_47 : decode cX11_game 47 = .ok (.aload_n 0, 1) := by decide +kernel
theorem dX11_game_48 : decode cX11_game 48 = .ok (.getfield 97, 3) := by decide +kernel
theorem dX11_game_51 : decode cX11_game 51 = .ok (.iload_n 1, 1) := by decide +kernel
theorem dX11_game_52 : decode cX11_game 52 = .ok (.iload_n 2, 1) := by decide +kernel
theorem dX11_game_53 : decode cX11_game 53 = .ok (.invokevirtual 383, 3) := by decide +kernel
theorem dX11_game_56 : decode cX11_game 56 = .ok (.invokevirtual 193, 3) := by decide +kernel
theorem dX11_game_59 : decode cX11_game 59 = .ok (.ireturn, 1) := by decide +kernel
theorem mv_X11_game : MV yX11_game RX11 cX11_game 7 (some .int) 4 := ⟨tb_1101, tb_1099, tb_1100, tb_1, by decide +kernel, by decide +kernel, by decide +kernel⟩
def f_X11_game (fu : Nat) (b_latestStatus : Int32) (y0_row : Nat → Int64) (y0_missing : Int32) (y0_many : Int32) (y1_row : Nat → Int64) (y1_missing : Int32) (y1_many : Int32) (y2_row : Nat → Int64) (y2_missing : Int32) (y2_many : Int32) (y3_row : Nat → Int64) (y3_missing : Int32) (y3_many : Int32) (a_name : Nat → Int64) (a_courage : Nat → Int32) (a_weight : Nat → Int32) (a_medals : Nat → Int32) (a_stood : Nat → Int32) (a_fled : Nat → Int32) (a_liked : Nat → Int32) (a_count : Int32) (a_living : Int32) (a_pride : Int32) (a_quota : Int32) (a_melted : Int32) (a_lost : Int32) (f_sizes : Nat → Int32) (f_dangers : Int32) (n_name : Nat → Int64) (n_courage : Nat → Int32) (n_weight : Nat → Int32) (n_medals : Nat → Int32) (n_stood : Nat → Int32) (n_fled : Nat → Int32) (n_liked : Nat → Int32) (n_votes : Nat → Int32) (n_count : Int32) (n_living : Int32) (n_pride : Int32) (n_quota : Int32) (n_melted : Int32) (n_lost : Int32) (x1 : Int32) (x2 : Int32) (x3 : Int32) (x4 : Int32) : Option (Int32 × Int32 × (Nat → Int32) × Int32 × (Nat → Int64) × (Nat → Int32) × (Nat → Int32) × (Nat → Int32) × (Nat → Int32) × (Nat → Int32) × (Nat → Int32) × (Nat → Int32) × Int32 × Int32 × Int32 × Int32 × Int32 × Int32) := (if x3 = 0 then (f_X11_gameRefusal fu y0_row y0_missing y0_many a_count a_living x1 x2 x4).bind fun z_36 => (if z_36 = 0 then (f_X4_look fu f_sizes f_dangers n_name n_courage n_weight n_medals n_stood n_fled n_liked n_count n_living n_pride n_quota n_melted n_lost a_name a_courage a_weight a_medals a_stood a_fled a_liked a_count a_living a_pride a_quota a_melted a_lost y0_row y0_many x4).bind fun z_38 => (f_X4_valueFor fu z_38.1 z_38.2.1 z_38.2.2.2.1 z_38.2.2.2.2.1 z_38.2.2.2.2.2.1 z_38.2.2.2.2.2.2.2.2.1 n_votes z_38.2.2.2.2.2.2.2.2.2.1 z_38.2.2.2.2.2.2.2.2.2.2.1 z_38.2.2.2.2.2.2.2.2.2.2.2.1 x1 x2).bind fun z_39 => (f_X11_answer fu b_latestStatus z_39.1).bind fun z_40 => some (z_40.1, z_40.2, z_38.1, z_38.2.1, z_38.2.2.1, z_38.2.2.2.1, z_38.2.2.2.2.1, z_39.2.1, z_38.2.2.2.2.2.2.1, z_38.2.2.2.2.2.2.2.1, z_38.2.2.2.2.2.2.2.2.1, z_39.2.2, z_38.2.2.2.2.2.2.2.2.2.1, z_38.2.2.2.2.2.2.2.2.2.2.1, z_38.2.2.2.2.2.2.2.2.2.2.2.1, z_38.2.2.2.2.2.2.2.2.2.2.2.2.1, z_38.2.2.2.2.2.2.2.2.2.2.2.2.2.1, z_38.2.2.2.2.2.2.2.2.2.2.2.2.2.2) else (f_X11_refuse fu b_latestStatus z_36).bind fun z_41 => some (z_41.1, z_41.2, f_sizes, f_dangers, n_name, n_courage, n_weight, n_medals, n_stood, n_fled, n_liked, n_votes, n_count, n_living, n_pride, n_quota, n_melted, n_lost)) else (if x3 = 1 then (f_X11_gameRefusal fu y1_row y1_missing y1_many a_count a_living x1 x2 x4).bind fun z_43 => (if z_43 = 0 then (f_X4_look fu f_sizes f_dangers n_name n_courage n_weight n_medals n_stood n_fled n_liked n_count n_living n_pride n_quota n_melted n_lost a_name a_courage a_weight a_medals a_stood a_fled a_liked a_count a_living a_pride a_quota a_melted a_lost y1_row y1_many x4).bind fun z_45 => (f_X4_valueFor fu z_45.1 z_45.2.1 z_45.2.2.2.1 z_45.2.2.2.2.1 z_45.2.2.2.2.2.1 z_45.2.2.2.2.2.2.2.2.1 n_votes z_45.2.2.2.2.2.2.2.2.2.1 z_45.2.2.2.2.2.2.2.2.2.2.1 z_45.2.2.2.2.2.2.2.2.2.2.2.1 x1 x2).bind fun z_46 => (f_X11_answer fu b_latestStatus z_46.1).bind fun z_47 => some (z_47.1, z_47.2, z_45.1, z_45.2.1, z_45.2.2.1, z_45.2.2.2.1, z_45.2.2.2.2.1, z_46.2.1, z_45.2.2.2.2.2.2.1, z_45.2.2.2.2.2.2.2.1, z_45.2.2.2.2.2.2.2.2.1, z_46.2.2, z_45.2.2.2.2.2.2.2.2.2.1, z_45.2.2.2.2.2.2.2.2.2.2.1, z_45.2.2.2.2.2.2.2.2.2.2.2.1, z_45.2.2.2.2.2.2.2.2.2.2.2.2.1, z_45.2.2.2.2.2.2.2.2.2.2.2.2.2.1, z_45.2.2.2.2.2.2.2.2.2.2.2.2.2.2) else (f_X11_refuse fu b_latestStatus z_43).bind fun z_48 => some (z_48.1, z_48.2, f_sizes, f_dangers, n_name, n_courage, n_weight, n_medals, n_stood, n_fled, n_liked, n_votes, n_count, n_living, n_pride, n_quota, n_melted, n_lost)) else (if x3 = 2 then (f_X11_gameRefusal fu y2_row y2_missing y2_many a_count a_living x1 x2 x4).bind fun z_50 => (if z_50 = 0 then (f_X4_look fu f_sizes f_dangers n_name n_courage n_weight n_medals n_stood n_fled n_liked n_count n_living n_pride n_quota n_melted n_lost a_name a_courage a_weight a_medals a_stood a_fled a_liked a_count a_living a_pride a_quota a_melted a_lost y2_row y2_many x4).bind fun z_52 => (f_X4_valueFor fu z_52.1 z_52.2.1 z_52.2.2.2.1 z_52.2.2.2.2.1 z_52.2.2.2.2.2.1 z_52.2.2.2.2.2.2.2.2.1 n_votes z_52.2.2.2.2.2.2.2.2.2.1 z_52.2.2.2.2.2.2.2.2.2.2.1 z_52.2.2.2.2.2.2.2.2.2.2.2.1 x1 x2).bind fun z_53 => (f_X11_answer fu b_latestStatus z_53.1).bind fun z_54 => some (z_54.1, z_54.2, z_52.1, z_52.2.1, z_52.2.2.1, z_52.2.2.2.1, z_52.2.2.2.2.1, z_53.2.1, z_52.2.2.2.2.2.2.1, z_52.2.2.2.2.2.2.2.1, z_52.2.2.2.2.2.2.2.2.1, z_53.2.2, z_52.2.2.2.2.2.2.2.2.2.1, z_52.2.2.2.2.2.2.2.2.2.2.1, z_52.2.2.2.2.2.2.2.2.2.2.2.1, z_52.2.2.2.2.2.2.2.2.2.2.2.2.1, z_52.2.2.2.2.2.2.2.2.2.2.2.2.2.1, z_52.2.2.2.2.2.2.2.2.2.2.2.2.2.2) else (f_X11_refuse fu b_latestStatus z_50).bind fun z_55 => some (z_55.1, z_55.2, f_sizes, f_dangers, n_name, n_courage, n_weight, n_medals, n_stood, n_fled, n_liked, n_votes, n_count, n_living, n_pride, n_quota, n_melted, n_lost)) else (if x3 = 3 then (f_X11_gameRefusal fu y3_row y3_missing y3_many a_count a_living x1 x2 x4).bind fun z_57 => (if z_57 = 0 then (f_X4_look fu f_sizes f_dangers n_name n_courage n_weight n_medals n_stood n_fled n_liked n_count n_living n_pride n_quota n_melted n_lost a_name a_courage a_weight a_medals a_stood a_fled a_liked a_count a_living a_pride a_quota a_melted a_lost y3_row y3_many x4).bind fun z_59 => (f_X4_valueFor fu z_59.1 z_59.2.1 z_59.2.2.2.1 z_59.2.2.2.2.1 z_59.2.2.2.2.2.1 z_59.2.2.2.2.2.2.2.2.1 n_votes z_59.2.2.2.2.2.2.2.2.2.1 z_59.2.2.2.2.2.2.2.2.2.2.1 z_59.2.2.2.2.2.2.2.2.2.2.2.1 x1 x2).bind fun z_60 => (f_X11_answer fu b_latestStatus z_60.1).bind fun z_61 => some (z_61.1, z_61.2, z_59.1, z_59.2.1, z_59.2.2.1, z_59.2.2.2.1, z_59.2.2.2.2.1, z_60.2.1, z_59.2.2.2.2.2.2.1, z_59.2.2.2.2.2.2.2.1, z_59.2.2.2.2.2.2.2.2.1, z_60.2.2, z_59.2.2.2.2.2.2.2.2.2.1, z_59.2.2.2.2.2.2.2.2.2.2.1, z_59.2.2.2.2.2.2.2.2.2.2.2.1, z_59.2.2.2.2.2.2.2.2.2.2.2.2.1, z_59.2.2.2.2.2.2.2.2.2.2.2.2.2.1, z_59.2.2.2.2.2.2.2.2.2.2.2.2.2.2) else (f_X11_refuse fu b_latestStatus z_57).bind fun z_62 => some (z_62.1, z_62.2, f_sizes, f_dangers, n_name, n_courage, n_weight, n_medals, n_stood, n_fled, n_liked, n_votes, n_count, n_living, n_pride, n_quota, n_melted, n_lost)) else (f_X11_gameRefusal_n3 fu a_count x1 x2 x4).bind fun z_63 => (if z_63 = 0 then (f_X4_look_n2 fu f_dangers n_name n_courage n_weight n_medals n_stood n_fled n_liked n_count n_living n_pride n_quota n_melted n_lost a_name a_courage a_weight a_medals a_stood a_fled a_liked a_count a_living a_pride a_quota a_melted a_lost x4).bind fun z_65 => (f_X4_valueFor fu f_sizes z_65.1 z_65.2.2.1 z_65.2.2.2.1 z_65.2.2.2.2.1 z_65.2.2.2.2.2.2.2.1 n_votes z_65.2.2.2.2.2.2.2.2.1 z_65.2.2.2.2.2.2.2.2.2.1 z_65.2.2.2.2.2.2.2.2.2.2.1 x1 x2).bind fun z_66 => (f_X11_answer fu b_latestStatus z_66.1).bind fun z_67 => some (z_67.1, z_67.2, f_sizes, z_65.1, z_65.2.1, z_65.2.2.1, z_65.2.2.2.1, z_66.2.1, z_65.2.2.2.2.2.1, z_65.2.2.2.2.2.2.1, z_65.2.2.2.2.2.2.2.1, z_66.2.2, z_65.2.2.2.2.2.2.2.2.1, z_65.2.2.2.2.2.2.2.2.2.1, z_65.2.2.2.2.2.2.2.2.2.2.1, z_65.2.2.2.2.2.2.2.2.2.2.2.1, z_65.2.2.2.2.2.2.2.2.2.2.2.2.1, z_65.2.2.2.2.2.2.2.2.2.2.2.2.2) else (f_X11_refuse fu b_latestStatus z_63).bind fun z_68 => some (z_68.1, z_68.2, f_sizes, f_dangers, n_name, n_courage, n_weight, n_medals, n_stood, n_fled, n_liked, n_votes, n_count, n_living, n_pride, n_quota, n_melted, n_lost))))))
abbrev rm_X11_game : Room := { frames := 20, cells := 0, slots := 0, locals := 504 }
set_option maxHeartbeats 4000000 in
set_option maxRecDepth 100000 in
theorem c_X11_game (l : Launch) (D : va_G) (cy : Nat → ClassId) (fu : Nat) (A_b : Nat → Nat) (r_b_war : Nat) (r_b_draftArmy : Nat) (r_b_draftWar : Nat) (r_b_reader : Nat) (r_b_armyReader : Nat) (r_b_warReader : Nat) (r_b_markedArmies : Nat) (r_b_markedWars : Nat) (r_b_latest : Nat) (r_b_trial : Nat) (r_b_pairs : Nat) (b_latestStatus : Int32) (b_fractionTop : Int64) (b_fractionBottom : Int64) (b_marks : Int32) (A_T : Nat → Nat) (A_y0 : Nat → Nat) (y0_row : Nat → Int64) (y0_missing : Int32) (y0_sort : Int32) (y0_many : Int32) (A_y1 : Nat → Nat) (y1_row : Nat → Int64) (y1_missing : Int32) (y1_sort : Int32) (y1_many : Int32) (A_y2 : Nat → Nat) (y2_row : Nat → Int64) (y2_missing : Int32) (y2_sort : Int32) (y2_many : Int32) (A_y3 : Nat → Nat) (y3_row : Nat → Int64) (y3_missing : Int32) (y3_sort : Int32) (y3_many : Int32) (A_a : Nat → Nat) (a_name : Nat → Int64) (a_courage : Nat → Int32) (a_weight : Nat → Int32) (a_medals : Nat → Int32) (a_stood : Nat → Int32) (a_fled : Nat → Int32) (a_liked : Nat → Int32) (a_votes : Nat → Int32) (a_count : Int32) (a_living : Int32) (a_pride : Int32) (a_quota : Int32) (a_melted : Int32) (a_lost : Int32) (A_f : Nat → Nat) (f_sizes : Nat → Int32) (f_dangers : Int32) (A_n : Nat → Nat) (n_name : Nat → Int64) (n_courage : Nat → Int32) (n_weight : Nat → Int32) (n_medals : Nat → Int32) (n_stood : Nat → Int32) (n_fled : Nat → Int32) (n_liked : Nat → Int32) (n_votes : Nat → Int32) (n_count : Int32) (n_living : Int32) (n_pride : Int32) (n_quota : Int32) (n_melted : Int32) (n_lost : Int32) (x1 : Int32) (x2 : Int32) (x3 : Int32) (x4 : Int32) (res : Int32 × Int32 × (Nat → Int32) × Int32 × (Nat → Int64) × (Nat → Int32) × (Nat → Int32) × (Nat → Int32) × (Nat → Int32) × (Nat → Int32) × (Nat → Int32) × (Nat → Int32) × Int32 × Int32 × Int32 × Int32 × Int32 × Int32) (h : f_X11_game fu b_latestStatus y0_row y0_missing y0_many y1_row y1_missing y1_many y2_row y2_missing y2_many y3_row y3_missing y3_many a_name a_courage a_weight a_medals a_stood a_fled a_liked a_count a_living a_pride a_quota a_melted a_lost f_sizes f_dangers n_name n_courage n_weight n_medals n_stood n_fled n_liked n_votes n_count n_living n_pride n_quota n_melted n_lost x1 x2 x3 x4 = some res) (A : Nat → Prop) (hA : A = adr [bl_X11 cy A_b (A_T 0) (A_a 0) r_b_war r_b_draftArmy r_b_draftWar r_b_reader r_b_armyReader r_b_warReader r_b_markedArmies r_b_markedWars r_b_latest r_b_trial (A_f 0) r_b_pairs b_latestStatus b_fractionTop b_fractionBottom b_marks, [(A_T 0, .inl (cy 4, 4, .inr (.inr (.inr (.inr (trf4 (A_y0 0) (A_y1 0) (A_y2 0) (A_y3 0)))))))], bl_X8 cy A_y0 y0_row y0_missing y0_sort y0_many, bl_X8 cy A_y1 y1_row y1_missing y1_sort y1_many, bl_X8 cy A_y2 y2_row y2_missing y2_sort y2_many, bl_X8 cy A_y3 y3_row y3_missing y3_sort y3_many, bl_X0 cy A_a a_name a_courage a_weight a_medals a_stood a_fled a_liked a_votes a_count a_living a_pride a_quota a_melted a_lost, bl_X4 cy A_f (A_n 0) f_sizes f_dangers, bl_X0 cy A_n n_name n_courage n_weight n_medals n_stood n_fled n_liked n_votes n_count n_living n_pride n_quota n_melted n_lost]) (W1 : List va_W) (hW1 : W1 = [bl_X11 cy A_b (A_T 0) (A_a 0) r_b_war r_b_draftArmy r_b_draftWar r_b_reader r_b_armyReader r_b_warReader r_b_markedArmies r_b_markedWars r_b_latest r_b_trial (A_f 0) r_b_pairs res.2.1 b_fractionTop b_fractionBottom b_marks, [(A_T 0, .inl (cy 4, 4, .inr (.inr (.inr (.inr (trf4 (A_y0 0) (A_y1 0) (A_y2 0) (A_y3 0)))))))], bl_X8 cy A_y0 y0_row y0_missing y0_sort y0_many, bl_X8 cy A_y1 y1_row y1_missing y1_sort y1_many, bl_X8 cy A_y2 y2_row y2_missing y2_sort y2_many, bl_X8 cy A_y3 y3_row y3_missing y3_sort y3_many, bl_X0 cy A_a a_name a_courage a_weight a_medals a_stood a_fled a_liked a_votes a_count a_living a_pride a_quota a_melted a_lost, bl_X4 cy A_f (A_n 0) res.2.2.1 res.2.2.2.1, bl_X0 cy A_n res.2.2.2.2.1 res.2.2.2.2.2.1 res.2.2.2.2.2.2.1 res.2.2.2.2.2.2.2.1 res.2.2.2.2.2.2.2.2.1 res.2.2.2.2.2.2.2.2.2.1 res.2.2.2.2.2.2.2.2.2.2.1 res.2.2.2.2.2.2.2.2.2.2.2.1 res.2.2.2.2.2.2.2.2.2.2.2.2.1 res.2.2.2.2.2.2.2.2.2.2.2.2.2.1 res.2.2.2.2.2.2.2.2.2.2.2.2.2.2.1 res.2.2.2.2.2.2.2.2.2.2.2.2.2.2.2.1 res.2.2.2.2.2.2.2.2.2.2.2.2.2.2.2.2.1 res.2.2.2.2.2.2.2.2.2.2.2.2.2.2.2.2.2]) : Met l yX11_game (WW yX11_game cX11_game 7 (some .int)) rm_X11_game (Ed D cy [.ref (A_b 0), .int x1, .int x2, .int x3, .int x4] [bl_X11 cy A_b (A_T 0) (A_a 0) r_b_war r_b_draftArmy r_b_draftWar r_b_reader r_b_armyReader r_b_warReader r_b_markedArmies r_b_markedWars r_b_latest r_b_trial (A_f 0) r_b_pairs b_latestStatus b_fractionTop b_fractionBottom b_marks, [(A_T 0, .inl (cy 4, 4, .inr (.inr (.inr (.inr (trf4 (A_y0 0) (A_y1 0) (A_y2 0) (A_y3 0)))))))], bl_X8 cy A_y0 y0_row y0_missing y0_sort y0_many, bl_X8 cy A_y1 y1_row y1_missing y1_sort y1_many, bl_X8 cy A_y2 y2_row y2_missing y2_sort y2_many, bl_X8 cy A_y3 y3_row y3_missing y3_sort y3_many, bl_X0 cy A_a a_name a_courage a_weight a_medals a_stood a_fled a_liked a_votes a_count a_living a_pride a_quota a_melted a_lost, bl_X4 cy A_f (A_n 0) f_sizes f_dangers, bl_X0 cy A_n n_name n_courage n_weight n_medals n_stood n_fled n_liked n_votes n_count n_living n_pride n_quota n_melted n_lost]) (Qei D res.1 A W1) 0 0 A := by
  refine Met.ofW (cc := cX11_game) (maxL := 7) (ret := (some .int)) (by decide) rfl ?_
  intro p e s m args below meth c s₁ B hml hv
  obtain ⟨hargs, hP, hX, hD0⟩ := hv
  have hx := B.exec
  have hb := B.bytes
  have hr := B.returns
  have ht : ∀ w ∈ lw_gd, w.before args s = true := fun w hw => atoms_spec (ws := WW yX11_game cX11_game 7 (some .int)) B.pre w (List.mem_cons_of_mem _ hw)
  have hown : s.vm.findClass RX11 = some m.cls := findClass_of_methodNamed B.named
  have hlocks := B.notSynchronized
  have hP : PD D A [bl_X11 cy A_b (A_T 0) (A_a 0) r_b_war r_b_draftArmy r_b_draftWar r_b_reader r_b_armyReader r_b_warReader r_b_markedArmies r_b_markedWars r_b_latest r_b_trial (A_f 0) r_b_pairs b_latestStatus b_fractionTop b_fractionBottom b_marks, [(A_T 0, .inl (cy 4, 4, .inr (.inr (.inr (.inr (trf4 (A_y0 0) (A_y1 0) (A_y2 0) (A_y3 0)))))))], bl_X8 cy A_y0 y0_row y0_missing y0_sort y0_many, bl_X8 cy A_y1 y1_row y1_missing y1_sort y1_many, bl_X8 cy A_y2 y2_row y2_missing y2_sort y2_many, bl_X8 cy A_y3 y3_row y3_missing y3_sort y3_many, bl_X0 cy A_a a_name a_courage a_weight a_medals a_stood a_fled a_liked a_votes a_count a_living a_pride a_quota a_melted a_lost, bl_X4 cy A_f (A_n 0) f_sizes f_dangers, bl_X0 cy A_n n_name n_courage n_weight n_medals n_stood n_fled n_liked n_votes n_count n_living n_pride n_quota n_melted n_lost] s.heap := ⟨hP, by rw [hA]; exact hD0.own⟩
  have hS : va_S A s.heap s.heap [] := va_S.rf
  obtain ⟨ls, hl, hent⟩ := ent (m := m) (n := 7) hargs (Nat.le_of_ble_eq_true rfl) (lv := [(0, .ref (A_b 0)), (1, .int x1), (2, .int x2), (3, .int x3), (4, .int x4)]) rfl
  rw [hent]
  clear hent
  unfold f_X11_game at h
  refine lv_aload_n hx hb dX11_game_0 rfl (lv_at hl 0 rfl) ?_
  refine lv_iload_n hx hb dX11_game_1 rfl (lv_at hl 3 rfl) ?_
  by_cases c_35 : x3 = 0
  · have h := it c_35 h
    refine roVq (rest := []) ⟨hx, hb, hml, hown, ht⟩ (c_X11_trayAt l D cy fu A_b (A_a 0) r_b_war r_b_draftArmy r_b_draftWar r_b_reader r_b_armyReader r_b_warReader r_b_markedArmies r_b_markedWars r_b_latest r_b_trial (A_f 0) r_b_pairs b_latestStatus b_fractionTop b_fractionBottom b_marks A_T (trf4 (A_y0 0) (A_y1 0) (A_y2 0) (A_y3 0)) x3 (some (A_y0 0)) (tray_0 c_35)) (cV ht mv_X11_trayAt tb_500 rfl rfl ⟨Nat.le_of_ble_eq_true rfl, Nat.le_of_ble_eq_true rfl⟩) (P_sub hP.1 [0, 1] rfl) hX rfl rfl rfl hl.1 rfl (Nat.le_of_ble_eq_true rfl) dX11_game_2 ⟨Nat.le_of_ble_eq_true rfl, Nat.le_of_ble_eq_true rfl⟩ ?_
    refine lv_astore (lv' := [(5, .ref (A_y0 0)), (0, .ref (A_b 0)), (1, .int x1), (2, .int x2), (3, .int x3), (4, .int x4)]) hx hb dX11_game_5 hl (by decide) rfl (fun ls hl => ?_)
    refine lv_aload_n hx hb dX11_game_7 rfl (lv_at hl 1 rfl) ?_
    refine lv_iload_n hx hb dX11_game_8 rfl (lv_at hl 2 rfl) ?_
    refine lv_iload_n hx hb dX11_game_9 rfl (lv_at hl 3 rfl) ?_
    refine lv_aload hx hb dX11_game_10 (lv_at hl 0 rfl) ?_
    refine lv_iload hx hb dX11_game_12 (lv_at hl 5 rfl) ?_
    obtain ⟨z_36, e_z_36, h⟩ := bi h
    refine roVi (rest := []) ⟨hx, hb, hml, hown, ht⟩ (c_X11_gameRefusal l D cy fu A_b (A_T 0) r_b_war r_b_draftArmy r_b_draftWar r_b_reader r_b_armyReader r_b_warReader r_b_markedArmies r_b_markedWars r_b_latest r_b_trial (A_f 0) r_b_pairs b_latestStatus b_fractionTop b_fractionBottom b_marks A_y0 y0_row y0_missing y0_sort y0_many A_a a_name a_courage a_weight a_medals a_stood a_fled a_liked a_votes a_count a_living a_pride a_quota a_melted a_lost x1 x2 x4 z_36 e_z_36) (cV ht mv_X11_gameRefusal tb_1102 rfl rfl ⟨Nat.le_of_ble_eq_true rfl, Nat.le_of_ble_eq_true rfl⟩) (P_sub hP.1 [0, 2, 6] rfl) hX rfl rfl rfl hl.1 rfl (Nat.le_of_ble_eq_true rfl) dX11_game_14 ⟨Nat.le_of_ble_eq_true rfl, Nat.le_of_ble_eq_true rfl⟩ ?_
    refine lv_istore (lv' := [(6, .int z_36), (5, .ref (A_y0 0)), (0, .ref (A_b 0)), (1, .int x1), (2, .int x2), (3, .int x3), (4, .int x4)]) hx hb dX11_game_17 hl (by decide) rfl (fun ls hl => ?_)
    refine lv_iload hx hb dX11_game_19 (lv_at hl 0 rfl) ?_
    refine lv_if_eq (tgt := 31) hx hb dX11_game_21 (by decide) (fun c_37 => ?_) (fun c_37 => ?_)
    · have h := it c_37 h
      refine lv_aload_n hx hb dX11_game_31 rfl (lv_at hl 2 rfl) ?_
      refine xget (i := 0) (j := 0) (k := 16) (T := TX11) hx hb ht tb_iX11 hown hX hP.1 rfl rfl rfl (by decide) tb_445 rfl dX11_game_32 ?_
      refine lv_aload_n hx hb dX11_game_35 rfl (lv_at hl 2 rfl) ?_
      refine xget (i := 0) (j := 0) (k := 4) (T := TX11) hx hb ht tb_iX11 hown hX hP.1 rfl rfl rfl (by decide) tb_433 rfl dX11_game_36 ?_
      refine lv_aload hx hb dX11_game_39 (lv_at hl 1 rfl) ?_
      refine lv_iload hx hb dX11_game_41 (lv_at hl 6 rfl) ?_
      obtain ⟨z_38, e_z_38, h⟩ := bi h
      refine efVv (rest := []) ⟨hx, hb, hml, hown, ht⟩ (c_X4_look l D cy fu A_f f_sizes f_dangers A_n n_name n_courage n_weight n_medals n_stood n_fled n_liked n_votes n_count n_living n_pride n_quota n_melted n_lost A_a a_name a_courage a_weight a_medals a_stood a_fled a_liked a_votes a_count a_living a_pride a_quota a_melted a_lost A_y0 y0_row y0_missing y0_sort y0_many x4 z_38 e_z_38 _ rfl _ rfl) (cV ht mv_X4_look tb_991 rfl rfl ⟨Nat.le_of_ble_eq_true rfl, Nat.le_of_ble_eq_true rfl⟩) hP hS hX [7, 8, 6, 2] rfl rfl rfl rfl rfl rfl hl.1 rfl (Nat.le_of_ble_eq_true rfl) dX11_game_43 ⟨Nat.le_of_ble_eq_true rfl, Nat.le_of_ble_eq_true rfl⟩ (fun H locs hP hS => ?_)
      have hP : PD D A [bl_X11 cy A_b (A_T 0) (A_a 0) r_b_war r_b_draftArmy r_b_draftWar r_b_reader r_b_armyReader r_b_warReader r_b_markedArmies r_b_markedWars r_b_latest r_b_trial (A_f 0) r_b_pairs b_latestStatus b_fractionTop b_fractionBottom b_marks, [(A_T 0, .inl (cy 4, 4, .inr (.inr (.inr (.inr (trf4 (A_y0 0) (A_y1 0) (A_y2 0) (A_y3 0)))))))], bl_X8 cy A_y0 y0_row y0_missing y0_sort y0_many, bl_X8 cy A_y1 y1_row y1_missing y1_sort y1_many, bl_X8 cy A_y2 y2_row y2_missing y2_sort y2_many, bl_X8 cy A_y3 y3_row y3_missing y3_sort y3_many, bl_X0 cy A_a a_name a_courage a_weight a_medals a_stood a_fled a_liked a_votes a_count a_living a_pride a_quota a_melted a_lost, bl_X4 cy A_f (A_n 0) z_38.1 z_38.2.1, bl_X0 cy A_n z_38.2.2.1 z_38.2.2.2.1 z_38.2.2.2.2.1 z_38.2.2.2.2.2.1 z_38.2.2.2.2.2.2.1 z_38.2.2.2.2.2.2.2.1 z_38.2.2.2.2.2.2.2.2.1 n_votes z_38.2.2.2.2.2.2.2.2.2.1 z_38.2.2.2.2.2.2.2.2.2.2.1 z_38.2.2.2.2.2.2.2.2.2.2.2.1 z_38.2.2.2.2.2.2.2.2.2.2.2.2.1 z_38.2.2.2.2.2.2.2.2.2.2.2.2.2.1 z_38.2.2.2.2.2.2.2.2.2.2.2.2.2.2] H := hP
      refine lv_aload_n hx hb dX11_game_46 rfl (lv_at hl 2 rfl) ?_
      refine lv_aload_n hx hb dX11_game_47 rfl (lv_at hl 2 rfl) ?_
      refine xget (i := 0) (j := 0) (k := 16) (T := TX11) hx hb ht tb_iX11 hown hX hP.1 rfl rfl rfl (by decide) tb_445 rfl dX11_game_48 ?_
      refine lv_iload_n hx hb dX11_game_51 rfl (lv_at hl 3 rfl) ?_
      refine lv_iload_n hx hb dX11_game_52 rfl (lv_at hl 4 rfl) ?_
      obtain ⟨z_39, e_z_39, h⟩ := bi h
      refine efVi (rest := [.ref (A_b 0)]) ⟨hx, hb, hml, hown, ht⟩ (c_X4_valueFor l D cy fu A_f z_38.1 z_38.2.1 A_n z_38.2.2.1 z_38.2.2.2.1 z_38.2.2.2.2.1 z_38.2.2.2.2.2.1 z_38.2.2.2.2.2.2.1 z_38.2.2.2.2.2.2.2.1 z_38.2.2.2.2.2.2.2.2.1 n_votes z_38.2.2.2.2.2.2.2.2.2.1 z_38.2.2.2.2.2.2.2.2.2.2.1 z_38.2.2.2.2.2.2.2.2.2.2.2.1 z_38.2.2.2.2.2.2.2.2.2.2.2.2.1 z_38.2.2.2.2.2.2.2.2.2.2.2.2.2.1 z_38.2.2.2.2.2.2.2.2.2.2.2.2.2.2 x1 x2 z_39 e_z_39 _ rfl _ rfl) (cV ht mv_X4_valueFor tb_1106 rfl rfl ⟨Nat.le_of_ble_eq_true rfl, Nat.le_of_ble_eq_true rfl⟩) hP hS hX [7, 8] rfl rfl rfl rfl rfl rfl hl.1 rfl (Nat.le_of_ble_eq_true rfl) dX11_game_53 ⟨Nat.le_of_ble_eq_true rfl, Nat.le_of_ble_eq_true rfl⟩ (fun H locs hP hS => ?_)
      have hP : PD D A [bl_X11 cy A_b (A_T 0) (A_a 0) r_b_war r_b_draftArmy r_b_draftWar r_b_reader r_b_armyReader r_b_warReader r_b_markedArmies r_b_markedWars r_b_latest r_b_trial (A_f 0) r_b_pairs b_latestStatus b_fractionTop b_fractionBottom b_marks, [(A_T 0, .inl (cy 4, 4, .inr (.inr (.inr (.inr (trf4 (A_y0 0) (A_y1 0) (A_y2 0) (A_y3 0)))))))], bl_X8 cy A_y0 y0_row y0_missing y0_sort y0_many, bl_X8 cy A_y1 y1_row y1_missing y1_sort y1_many, bl_X8 cy A_y2 y2_row y2_missing y2_sort y2_many, bl_X8 cy A_y3 y3_row y3_missing y3_sort y3_many, bl_X0 cy A_a a_name a_courage a_weight a_medals a_stood a_fled a_liked a_votes a_count a_living a_pride a_quota a_melted a_lost, bl_X4 cy A_f (A_n 0) z_38.1 z_38.2.1, bl_X0 cy A_n z_38.2.2.1 z_38.2.2.2.1 z_38.2.2.2.2.1 z_39.2.1 z_38.2.2.2.2.2.2.1 z_38.2.2.2.2.2.2.2.1 z_38.2.2.2.2.2.2.2.2.1 z_39.2.2 z_38.2.2.2.2.2.2.2.2.2.1 z_38.2.2.2.2.2.2.2.2.2.2.1 z_38.2.2.2.2.2.2.2.2.2.2.2.1 z_38.2.2.2.2.2.2.2.2.2.2.2.2.1 z_38.2.2.2.2.2.2.2.2.2.2.2.2.2.1 z_38.2.2.2.2.2.2.2.2.2.2.2.2.2.2] H := hP
      obtain ⟨z_40, e_z_40, h⟩ := bi h
      refine efVi (rest := []) ⟨hx, hb, hml, hown, ht⟩ (c_X11_answer l D cy fu A_b (A_T 0) (A_a 0) r_b_war r_b_draftArmy r_b_draftWar r_b_reader r_b_armyReader r_b_warReader r_b_markedArmies r_b_markedWars r_b_latest r_b_trial (A_f 0) r_b_pairs b_latestStatus b_fractionTop b_fractionBottom b_marks z_39.1 z_40 e_z_40 _ rfl _ rfl) (cV ht mv_X11_answer tb_696 rfl rfl ⟨Nat.le_of_ble_eq_true rfl, Nat.le_of_ble_eq_true rfl⟩) hP hS hX [0] rfl rfl rfl rfl rfl rfl hl.1 rfl (Nat.le_of_ble_eq_true rfl) dX11_game_56 ⟨Nat.le_of_ble_eq_true rfl, Nat.le_of_ble_eq_true rfl⟩ (fun H locs hP hS => ?_)
      have hP : PD D A [bl_X11 cy A_b (A_T 0) (A_a 0) r_b_war r_b_draftArmy r_b_draftWar r_b_reader r_b_armyReader r_b_warReader r_b_markedArmies r_b_markedWars r_b_latest r_b_trial (A_f 0) r_b_pairs z_40.2 b_fractionTop b_fractionBottom b_marks, [(A_T 0, .inl (cy 4, 4, .inr (.inr (.inr (.inr (trf4 (A_y0 0) (A_y1 0) (A_y2 0) (A_y3 0)))))))], bl_X8 cy A_y0 y0_row y0_missing y0_sort y0_many, bl_X8 cy A_y1 y1_row y1_missing y1_sort y1_many, bl_X8 cy A_y2 y2_row y2_missing y2_sort y2_many, bl_X8 cy A_y3 y3_row y3_missing y3_sort y3_many, bl_X0 cy A_a a_name a_courage a_weight a_medals a_stood a_fled a_liked a_votes a_count a_living a_pride a_quota a_melted a_lost, bl_X4 cy A_f (A_n 0) z_38.1 z_38.2.1, bl_X0 cy A_n z_38.2.2.1 z_38.2.2.2.1 z_38.2.2.2.2.1 z_39.2.1 z_38.2.2.2.2.2.2.1 z_38.2.2.2.2.2.2.2.1 z_38.2.2.2.2.2.2.2.2.1 z_39.2.2 z_38.2.2.2.2.2.2.2.2.2.1 z_38.2.2.2.2.2.2.2.2.2.2.1 z_38.2.2.2.2.2.2.2.2.2.2.2.1 z_38.2.2.2.2.2.2.2.2.2.2.2.2.1 z_38.2.2.2.2.2.2.2.2.2.2.2.2.2.1 z_38.2.2.2.2.2.2.2.2.2.2.2.2.2.2] H := hP
      cases h
      subst hW1
      exact W.iret hx hb hr (fun _ ht9 _ => ⟨⟨_, (), rfl, rfl, hPt ht9 hP.1⟩, hS.F ht9⟩) hS.2.2 dX11_game_59
    · have h := ie c_37 h
      refine lv_aload_n hx hb dX11_game_24 rfl (lv_at hl 2 rfl) ?_
      refine lv_iload hx hb dX11_game_25 (lv_at hl 0 rfl) ?_
      obtain ⟨z_41, e_z_41, h⟩ := bi h
      refine efVi (rest := []) ⟨hx, hb, hml, hown, ht⟩ (c_X11_refuse l D cy fu A_b (A_T 0) (A_a 0) r_b_war r_b_draftArmy r_b_draftWar r_b_reader r_b_armyReader r_b_warReader r_b_markedArmies r_b_markedWars r_b_latest r_b_trial (A_f 0) r_b_pairs b_latestStatus b_fractionTop b_fractionBottom b_marks z_36 z_41 e_z_41 _ rfl _ rfl) (cV ht mv_X11_refuse tb_543 rfl rfl ⟨Nat.le_of_ble_eq_true rfl, Nat.le_of_ble_eq_true rfl⟩) hP hS hX [0] rfl rfl rfl rfl rfl rfl hl.1 rfl (Nat.le_of_ble_eq_true rfl) dX11_game_27 ⟨Nat.le_of_ble_eq_true rfl, Nat.le_of_ble_eq_true rfl⟩ (fun H locs hP hS => ?_)
      have hP : PD D A [bl_X11 cy A_b (A_T 0) (A_a 0) r_b_war r_b_draftArmy r_b_draftWar r_b_reader r_b_armyReader r_b_warReader r_b_markedArmies r_b_markedWars r_b_latest r_b_trial (A_f 0) r_b_pairs z_41.2 b_fractionTop b_fractionBottom b_marks, [(A_T 0, .inl (cy 4, 4, .inr (.inr (.inr (.inr (trf4 (A_y0 0) (A_y1 0) (A_y2 0) (A_y3 0)))))))], bl_X8 cy A_y0 y0_row y0_missing y0_sort y0_many, bl_X8 cy A_y1 y1_row y1_missing y1_sort y1_many, bl_X8 cy A_y2 y2_row y2_missing y2_sort y2_many, bl_X8 cy A_y3 y3_row y3_missing y3_sort y3_many, bl_X0 cy A_a a_name a_courage a_weight a_medals a_stood a_fled a_liked a_votes a_count a_living a_pride a_quota a_melted a_lost, bl_X4 cy A_f (A_n 0) f_sizes f_dangers, bl_X0 cy A_n n_name n_courage n_weight n_medals n_stood n_fled n_liked n_votes n_count n_living n_pride n_quota n_melted n_lost] H := hP
      cases h
      subst hW1
      exact W.iret hx hb hr (fun _ ht9 _ => ⟨⟨_, (), rfl, rfl, hPt ht9 hP.1⟩, hS.F ht9⟩) hS.2.2 dX11_game_30
  have h := ie c_35 h
  by_cases c_42 : x3 = 1
  · have h := it c_42 h
    refine roVq (rest := []) ⟨hx, hb, hml, hown, ht⟩ (c_X11_trayAt l D cy fu A_b (A_a 0) r_b_war r_b_draftArmy r_b_draftWar r_b_reader r_b_armyReader r_b_warReader r_b_markedArmies r_b_markedWars r_b_latest r_b_trial (A_f 0) r_b_pairs b_latestStatus b_fractionTop b_fractionBottom b_marks A_T (trf4 (A_y0 0) (A_y1 0) (A_y2 0) (A_y3 0)) x3 (some (A_y1 0)) (tray_1 c_42)) (cV ht mv_X11_trayAt tb_500 rfl rfl ⟨Nat.le_of_ble_eq_true rfl, Nat.le_of_ble_eq_true rfl⟩) (P_sub hP.1 [0, 1] rfl) hX rfl rfl rfl hl.1 rfl (Nat.le_of_ble_eq_true rfl) dX11_game_2 ⟨Nat.le_of_ble_eq_true rfl, Nat.le_of_ble_eq_true rfl⟩ ?_
    refine lv_astore (lv' := [(5, .ref (A_y1 0)), (0, .ref (A_b 0)), (1, .int x1), (2, .int x2), (3, .int x3), (4, .int x4)]) hx hb dX11_game_5 hl (by decide) rfl (fun ls hl => ?_)
    refine lv_aload_n hx hb dX11_game_7 rfl (lv_at hl 1 rfl) ?_
    refine lv_iload_n hx hb dX11_game_8 rfl (lv_at hl 2 rfl) ?_
    refine lv_iload_n hx hb dX11_game_9 rfl (lv_at hl 3 rfl) ?_
    refine lv_aload hx hb dX11_game_10 (lv_at hl 0 rfl) ?_
    refine lv_iload hx hb dX11_game_12 (lv_at hl 5 rfl) ?_
    obtain ⟨z_43, e_z_43, h⟩ := bi h
    refine roVi (rest := []) ⟨hx, hb, hml, hown, ht⟩ (c_X11_gameRefusal l D cy fu A_b (A_T 0) r_b_war r_b_draftArmy r_b_draftWar r_b_reader r_b_armyReader r_b_warReader r_b_markedArmies r_b_markedWars r_b_latest r_b_trial (A_f 0) r_b_pairs b_latestStatus b_fractionTop b_fractionBottom b_marks A_y1 y1_row y1_missing y1_sort y1_many A_a a_name a_courage a_weight a_medals a_stood a_fled a_liked a_votes a_count a_living a_pride a_quota a_melted a_lost x1 x2 x4 z_43 e_z_43) (cV ht mv_X11_gameRefusal tb_1102 rfl rfl ⟨Nat.le_of_ble_eq_true rfl, Nat.le_of_ble_eq_true rfl⟩) (P_sub hP.1 [0, 3, 6] rfl) hX rfl rfl rfl hl.1 rfl (Nat.le_of_ble_eq_true rfl) dX11_game_14 ⟨Nat.le_of_ble_eq_true rfl, Nat.le_of_ble_eq_true rfl⟩ ?_
    refine lv_istore (lv' := [(6, .int z_43), (5, .ref (A_y1 0)), (0, .ref (A_b 0)), (1, .int x1), (2, .int x2), (3, .int x3), (4, .int x4)]) hx hb dX11_game_17 hl (by decide) rfl (fun ls hl => ?_)
    refine lv_iload hx hb dX11_game_19 (lv_at hl 0 rfl) ?_
    refine lv_if_eq (tgt := 31) hx hb dX11_game_21 (by decide) (fun c_44 => ?_) (fun c_44 => ?_)
    · have h := it c_44 h
      refine lv_aload_n hx hb dX11_game_31 rfl (lv_at hl 2 rfl) ?_
      refine xget (i := 0) (j := 0) (k := 16) (T := TX11) hx hb ht tb_iX11 hown hX hP.1 rfl rfl rfl (by decide) tb_445 rfl dX11_game_32 ?_
      refine lv_aload_n hx hb dX11_game_35 rfl (lv_at hl 2 rfl) ?_
      refine xget (i := 0) (j := 0) (k := 4) (T := TX11) hx hb ht tb_iX11 hown hX hP.1 rfl rfl rfl (by decide) tb_433 rfl dX11_game_36 ?_
      refine lv_aload hx hb dX11_game_39 (lv_at hl 1 rfl) ?_
      refine lv_iload hx hb dX11_game_41 (lv_at hl 6 rfl) ?_
      obtain ⟨z_45, e_z_45, h⟩ := bi h
      refine efVv (rest := []) ⟨hx, hb, hml, hown, ht⟩ (c_X4_look l D cy fu A_f f_sizes f_dangers A_n n_name n_courage n_weight n_medals n_stood n_fled n_liked n_votes n_count n_living n_pride n_quota n_melted n_lost A_a a_name a_courage a_weight a_medals a_stood a_fled a_liked a_votes a_count a_living a_pride a_quota a_melted a_lost A_y1 y1_row y1_missing y1_sort y1_many x4 z_45 e_z_45 _ rfl _ rfl) (cV ht mv_X4_look tb_991 rfl rfl ⟨Nat.le_of_ble_eq_true rfl, Nat.le_of_ble_eq_true rfl⟩) hP hS hX [7, 8, 6, 3] rfl rfl rfl rfl rfl rfl hl.1 rfl (Nat.le_of_ble_eq_true rfl) dX11_game_43 ⟨Nat.le_of_ble_eq_true rfl, Nat.le_of_ble_eq_true rfl⟩ (fun H locs hP hS => ?_)
      have hP : PD D A [bl_X11 cy A_b (A_T 0) (A_a 0) r_b_war r_b_draftArmy r_b_draftWar r_b_reader r_b_armyReader r_b_warReader r_b_markedArmies r_b_markedWars r_b_latest r_b_trial (A_f 0) r_b_pairs b_latestStatus b_fractionTop b_fractionBottom b_marks, [(A_T 0, .inl (cy 4, 4, .inr (.inr (.inr (.inr (trf4 (A_y0 0) (A_y1 0) (A_y2 0) (A_y3 0)))))))], bl_X8 cy A_y0 y0_row y0_missing y0_sort y0_many, bl_X8 cy A_y1 y1_row y1_missing y1_sort y1_many, bl_X8 cy A_y2 y2_row y2_missing y2_sort y2_many, bl_X8 cy A_y3 y3_row y3_missing y3_sort y3_many, bl_X0 cy A_a a_name a_courage a_weight a_medals a_stood a_fled a_liked a_votes a_count a_living a_pride a_quota a_melted a_lost, bl_X4 cy A_f (A_n 0) z_45.1 z_45.2.1, bl_X0 cy A_n z_45.2.2.1 z_45.2.2.2.1 z_45.2.2.2.2.1 z_45.2.2.2.2.2.1 z_45.2.2.2.2.2.2.1 z_45.2.2.2.2.2.2.2.1 z_45.2.2.2.2.2.2.2.2.1 n_votes z_45.2.2.2.2.2.2.2.2.2.1 z_45.2.2.2.2.2.2.2.2.2.2.1 z_45.2.2.2.2.2.2.2.2.2.2.2.1 z_45.2.2.2.2.2.2.2.2.2.2.2.2.1 z_45.2.2.2.2.2.2.2.2.2.2.2.2.2.1 z_45.2.2.2.2.2.2.2.2.2.2.2.2.2.2] H := hP
      refine lv_aload_n hx hb dX11_game_46 rfl (lv_at hl 2 rfl) ?_
      refine lv_aload_n hx hb dX11_game_47 rfl (lv_at hl 2 rfl) ?_
      refine xget (i := 0) (j := 0) (k := 16) (T := TX11) hx hb ht tb_iX11 hown hX hP.1 rfl rfl rfl (by decide) tb_445 rfl dX11_game_48 ?_
      refine lv_iload_n hx hb dX11_game_51 rfl (lv_at hl 3 rfl) ?_
      refine lv_iload_n hx hb dX11_game_52 rfl (lv_at hl 4 rfl) ?_
      obtain ⟨z_46, e_z_46, h⟩ := bi h
      refine efVi (rest := [.ref (A_b 0)]) ⟨hx, hb, hml, hown, ht⟩ (c_X4_valueFor l D cy fu A_f z_45.1 z_45.2.1 A_n z_45.2.2.1 z_45.2.2.2.1 z_45.2.2.2.2.1 z_45.2.2.2.2.2.1 z_45.2.2.2.2.2.2.1 z_45.2.2.2.2.2.2.2.1 z_45.2.2.2.2.2.2.2.2.1 n_votes z_45.2.2.2.2.2.2.2.2.2.1 z_45.2.2.2.2.2.2.2.2.2.2.1 z_45.2.2.2.2.2.2.2.2.2.2.2.1 z_45.2.2.2.2.2.2.2.2.2.2.2.2.1 z_45.2.2.2.2.2.2.2.2.2.2.2.2.2.1 z_45.2.2.2.2.2.2.2.2.2.2.2.2.2.2 x1 x2 z_46 e_z_46 _ rfl _ rfl) (cV ht mv_X4_valueFor tb_1106 rfl rfl ⟨Nat.le_of_ble_eq_true rfl, Nat.le_of_ble_eq_true rfl⟩) hP hS hX [7, 8] rfl rfl rfl rfl rfl rfl hl.1 rfl (Nat.le_of_ble_eq_true rfl) dX11_game_53 ⟨Nat.le_of_ble_eq_true rfl, Nat.le_of_ble_eq_true rfl⟩ (fun H locs hP hS => ?_)
      have hP : PD D A [bl_X11 cy A_b (A_T 0) (A_a 0) r_b_war r_b_draftArmy r_b_draftWar r_b_reader r_b_armyReader r_b_warReader r_b_markedArmies r_b_markedWars r_b_latest r_b_trial (A_f 0) r_b_pairs b_latestStatus b_fractionTop b_fractionBottom b_marks, [(A_T 0, .inl (cy 4, 4, .inr (.inr (.inr (.inr (trf4 (A_y0 0) (A_y1 0) (A_y2 0) (A_y3 0)))))))], bl_X8 cy A_y0 y0_row y0_missing y0_sort y0_many, bl_X8 cy A_y1 y1_row y1_missing y1_sort y1_many, bl_X8 cy A_y2 y2_row y2_missing y2_sort y2_many, bl_X8 cy A_y3 y3_row y3_missing y3_sort y3_many, bl_X0 cy A_a a_name a_courage a_weight a_medals a_stood a_fled a_liked a_votes a_count a_living a_pride a_quota a_melted a_lost, bl_X4 cy A_f (A_n 0) z_45.1 z_45.2.1, bl_X0 cy A_n z_45.2.2.1 z_45.2.2.2.1 z_45.2.2.2.2.1 z_46.2.1 z_45.2.2.2.2.2.2.1 z_45.2.2.2.2.2.2.2.1 z_45.2.2.2.2.2.2.2.2.1 z_46.2.2 z_45.2.2.2.2.2.2.2.2.2.1 z_45.2.2.2.2.2.2.2.2.2.2.1 z_45.2.2.2.2.2.2.2.2.2.2.2.1 z_45.2.2.2.2.2.2.2.2.2.2.2.2.1 z_45.2.2.2.2.2.2.2.2.2.2.2.2.2.1 z_45.2.2.2.2.2.2.2.2.2.2.2.2.2.2] H := hP
      obtain ⟨z_47, e_z_47, h⟩ := bi h
      refine efVi (rest := []) ⟨hx, hb, hml, hown, ht⟩ (c_X11_answer l D cy fu A_b (A_T 0) (A_a 0) r_b_war r_b_draftArmy r_b_draftWar r_b_reader r_b_armyReader r_b_warReader r_b_markedArmies r_b_markedWars r_b_latest r_b_trial (A_f 0) r_b_pairs b_latestStatus b_fractionTop b_fractionBottom b_marks z_46.1 z_47 e_z_47 _ rfl _ rfl) (cV ht mv_X11_answer tb_696 rfl rfl ⟨Nat.le_of_ble_eq_true rfl, Nat.le_of_ble_eq_true rfl⟩) hP hS hX [0] rfl rfl rfl rfl rfl rfl hl.1 rfl (Nat.le_of_ble_eq_true rfl) dX11_game_56 ⟨Nat.le_of_ble_eq_true rfl, Nat.le_of_ble_eq_true rfl⟩ (fun H locs hP hS => ?_)
      have hP : PD D A [bl_X11 cy A_b (A_T 0) (A_a 0) r_b_war r_b_draftArmy r_b_draftWar r_b_reader r_b_armyReader r_b_warReader r_b_markedArmies r_b_markedWars r_b_latest r_b_trial (A_f 0) r_b_pairs z_47.2 b_fractionTop b_fractionBottom b_marks, [(A_T 0, .inl (cy 4, 4, .inr (.inr (.inr (.inr (trf4 (A_y0 0) (A_y1 0) (A_y2 0) (A_y3 0)))))))], bl_X8 cy A_y0 y0_row y0_missing y0_sort y0_many, bl_X8 cy A_y1 y1_row y1_missing y1_sort y1_many, bl_X8 cy A_y2 y2_row y2_missing y2_sort y2_many, bl_X8 cy A_y3 y3_row y3_missing y3_sort y3_many, bl_X0 cy A_a a_name a_courage a_weight a_medals a_stood a_fled a_liked a_votes a_count a_living a_pride a_quota a_melted a_lost, bl_X4 cy A_f (A_n 0) z_45.1 z_45.2.1, bl_X0 cy A_n z_45.2.2.1 z_45.2.2.2.1 z_45.2.2.2.2.1 z_46.2.1 z_45.2.2.2.2.2.2.1 z_45.2.2.2.2.2.2.2.1 z_45.2.2.2.2.2.2.2.2.1 z_46.2.2 z_45.2.2.2.2.2.2.2.2.2.1 z_45.2.2.2.2.2.2.2.2.2.2.1 z_45.2.2.2.2.2.2.2.2.2.2.2.1 z_45.2.2.2.2.2.2.2.2.2.2.2.2.1 z_45.2.2.2.2.2.2.2.2.2.2.2.2.2.1 z_45.2.2.2.2.2.2.2.2.2.2.2.2.2.2] H := hP
      cases h
      subst hW1
      exact W.iret hx hb hr (fun _ ht9 _ => ⟨⟨_, (), rfl, rfl, hPt ht9 hP.1⟩, hS.F ht9⟩) hS.2.2 dX11_game_59
    · have h := ie c_44 h
      refine lv_aload_n hx hb dX11_game_24 rfl (lv_at hl 2 rfl) ?_
      refine lv_iload hx hb dX11_game_25 (lv_at hl 0 rfl) ?_
      obtain ⟨z_48, e_z_48, h⟩ := bi h
      refine efVi (rest := []) ⟨hx, hb, hml, hown, ht⟩ (c_X11_refuse l D cy fu A_b (A_T 0) (A_a 0) r_b_war r_b_draftArmy r_b_draftWar r_b_reader r_b_armyReader r_b_warReader r_b_markedArmies r_b_markedWars r_b_latest r_b_trial (A_f 0) r_b_pairs b_latestStatus b_fractionTop b_fractionBottom b_marks z_43 z_48 e_z_48 _ rfl _ rfl) (cV ht mv_X11_refuse tb_543 rfl rfl ⟨Nat.le_of_ble_eq_true rfl, Nat.le_of_ble_eq_true rfl⟩) hP hS hX [0] rfl rfl rfl rfl rfl rfl hl.1 rfl (Nat.le_of_ble_eq_true rfl) dX11_game_27 ⟨Nat.le_of_ble_eq_true rfl, Nat.le_of_ble_eq_true rfl⟩ (fun H locs hP hS => ?_)
      have hP : PD D A [bl_X11 cy A_b (A_T 0) (A_a 0) r_b_war r_b_draftArmy r_b_draftWar r_b_reader r_b_armyReader r_b_warReader r_b_markedArmies r_b_markedWars r_b_latest r_b_trial (A_f 0) r_b_pairs z_48.2 b_fractionTop b_fractionBottom b_marks, [(A_T 0, .inl (cy 4, 4, .inr (.inr (.inr (.inr (trf4 (A_y0 0) (A_y1 0) (A_y2 0) (A_y3 0)))))))], bl_X8 cy A_y0 y0_row y0_missing y0_sort y0_many, bl_X8 cy A_y1 y1_row y1_missing y1_sort y1_many, bl_X8 cy A_y2 y2_row y2_missing y2_sort y2_many, bl_X8 cy A_y3 y3_row y3_missing y3_sort y3_many, bl_X0 cy A_a a_name a_courage a_weight a_medals a_stood a_fled a_liked a_votes a_count a_living a_pride a_quota a_melted a_lost, bl_X4 cy A_f (A_n 0) f_sizes f_dangers, bl_X0 cy A_n n_name n_courage n_weight n_medals n_stood n_fled n_liked n_votes n_count n_living n_pride n_quota n_melted n_lost] H := hP
      cases h
      subst hW1
      exact W.iret hx hb hr (fun _ ht9 _ => ⟨⟨_, (), rfl, rfl, hPt ht9 hP.1⟩, hS.F ht9⟩) hS.2.2 dX11_game_30
  have h := ie c_42 h
  by_cases c_49 : x3 = 2
  · have h := it c_49 h
    refine roVq (rest := []) ⟨hx, hb, hml, hown, ht⟩ (c_X11_trayAt l D cy fu A_b (A_a 0) r_b_war r_b_draftArmy r_b_draftWar r_b_reader r_b_armyReader r_b_warReader r_b_markedArmies r_b_markedWars r_b_latest r_b_trial (A_f 0) r_b_pairs b_latestStatus b_fractionTop b_fractionBottom b_marks A_T (trf4 (A_y0 0) (A_y1 0) (A_y2 0) (A_y3 0)) x3 (some (A_y2 0)) (tray_2 c_49)) (cV ht mv_X11_trayAt tb_500 rfl rfl ⟨Nat.le_of_ble_eq_true rfl, Nat.le_of_ble_eq_true rfl⟩) (P_sub hP.1 [0, 1] rfl) hX rfl rfl rfl hl.1 rfl (Nat.le_of_ble_eq_true rfl) dX11_game_2 ⟨Nat.le_of_ble_eq_true rfl, Nat.le_of_ble_eq_true rfl⟩ ?_
    refine lv_astore (lv' := [(5, .ref (A_y2 0)), (0, .ref (A_b 0)), (1, .int x1), (2, .int x2), (3, .int x3), (4, .int x4)]) hx hb dX11_game_5 hl (by decide) rfl (fun ls hl => ?_)
    refine lv_aload_n hx hb dX11_game_7 rfl (lv_at hl 1 rfl) ?_
    refine lv_iload_n hx hb dX11_game_8 rfl (lv_at hl 2 rfl) ?_
    refine lv_iload_n hx hb dX11_game_9 rfl (lv_at hl 3 rfl) ?_
    refine lv_aload hx hb dX11_game_10 (lv_at hl 0 rfl) ?_
    refine lv_iload hx hb dX11_game_12 (lv_at hl 5 rfl) ?_
    obtain ⟨z_50, e_z_50, h⟩ := bi h
    refine roVi (rest := []) ⟨hx, hb, hml, hown, ht⟩ (c_X11_gameRefusal l D cy fu A_b (A_T 0) r_b_war r_b_draftArmy r_b_draftWar r_b_reader r_b_armyReader r_b_warReader r_b_markedArmies r_b_markedWars r_b_latest r_b_trial (A_f 0) r_b_pairs b_latestStatus b_fractionTop b_fractionBottom b_marks A_y2 y2_row y2_missing y2_sort y2_many A_a a_name a_courage a_weight a_medals a_stood a_fled a_liked a_votes a_count a_living a_pride a_quota a_melted a_lost x1 x2 x4 z_50 e_z_50) (cV ht mv_X11_gameRefusal tb_1102 rfl rfl ⟨Nat.le_of_ble_eq_true rfl, Nat.le_of_ble_eq_true rfl⟩) (P_sub hP.1 [0, 4, 6] rfl) hX rfl rfl rfl hl.1 rfl (Nat.le_of_ble_eq_true rfl) dX11_game_14 ⟨Nat.le_of_ble_eq_true rfl, Nat.le_of_ble_eq_true rfl⟩ ?_
    refine lv_istore (lv' := [(6, .int z_50), (5, .ref (A_y2 0)), (0, .ref (A_b 0)), (1, .int x1), (2, .int x2), (3, .int x3), (4, .int x4)]) hx hb dX11_game_17 hl (by decide) rfl (fun ls hl => ?_)
    refine lv_iload hx hb dX11_game_19 (lv_at hl 0 rfl) ?_
    refine lv_if_eq (tgt := 31) hx hb dX11_game_21 (by decide) (fun c_51 => ?_) (fun c_51 => ?_)
    · have h := it c_51 h
      refine lv_aload_n hx hb dX11_game_31 rfl (lv_at hl 2 rfl) ?_
      refine xget (i := 0) (j := 0) (k := 16) (T := TX11) hx hb ht tb_iX11 hown hX hP.1 rfl rfl rfl (by decide) tb_445 rfl dX11_game_32 ?_
      refine lv_aload_n hx hb dX11_game_35 rfl (lv_at hl 2 rfl) ?_
      refine xget (i := 0) (j := 0) (k := 4) (T := TX11) hx hb ht tb_iX11 hown hX hP.1 rfl rfl rfl (by decide) tb_433 rfl dX11_game_36 ?_
      refine lv_aload hx hb dX11_game_39 (lv_at hl 1 rfl) ?_
      refine lv_iload hx hb dX11_game_41 (lv_at hl 6 rfl) ?_
      obtain ⟨z_52, e_z_52, h⟩ := bi h
      refine efVv (rest := []) ⟨hx, hb, hml, hown, ht⟩ (c_X4_look l D cy fu A_f f_sizes f_dangers A_n n_name n_courage n_weight n_medals n_stood n_fled n_liked n_votes n_count n_living n_pride n_quota n_melted n_lost A_a a_name a_courage a_weight a_medals a_stood a_fled a_liked a_votes a_count a_living a_pride a_quota a_melted a_lost A_y2 y2_row y2_missing y2_sort y2_many x4 z_52 e_z_52 _ rfl _ rfl) (cV ht mv_X4_look tb_991 rfl rfl ⟨Nat.le_of_ble_eq_true rfl, Nat.le_of_ble_eq_true rfl⟩) hP hS hX [7, 8, 6, 4] rfl rfl rfl rfl rfl rfl hl.1 rfl (Nat.le_of_ble_eq_true rfl) dX11_game_43 ⟨Nat.le_of_ble_eq_true rfl, Nat.le_of_ble_eq_true rfl⟩ (fun H locs hP hS => ?_)
      have hP : PD D A [bl_X11 cy A_b (A_T 0) (A_a 0) r_b_war r_b_draftArmy r_b_draftWar r_b_reader r_b_armyReader r_b_warReader r_b_markedArmies r_b_markedWars r_b_latest r_b_trial (A_f 0) r_b_pairs b_latestStatus b_fractionTop b_fractionBottom b_marks, [(A_T 0, .inl (cy 4, 4, .inr (.inr (.inr (.inr (trf4 (A_y0 0) (A_y1 0) (A_y2 0) (A_y3 0)))))))], bl_X8 cy A_y0 y0_row y0_missing y0_sort y0_many, bl_X8 cy A_y1 y1_row y1_missing y1_sort y1_many, bl_X8 cy A_y2 y2_row y2_missing y2_sort y2_many, bl_X8 cy A_y3 y3_row y3_missing y3_sort y3_many, bl_X0 cy A_a a_name a_courage a_weight a_medals a_stood a_fled a_liked a_votes a_count a_living a_pride a_quota a_melted a_lost, bl_X4 cy A_f (A_n 0) z_52.1 z_52.2.1, bl_X0 cy A_n z_52.2.2.1 z_52.2.2.2.1 z_52.2.2.2.2.1 z_52.2.2.2.2.2.1 z_52.2.2.2.2.2.2.1 z_52.2.2.2.2.2.2.2.1 z_52.2.2.2.2.2.2.2.2.1 n_votes z_52.2.2.2.2.2.2.2.2.2.1 z_52.2.2.2.2.2.2.2.2.2.2.1 z_52.2.2.2.2.2.2.2.2.2.2.2.1 z_52.2.2.2.2.2.2.2.2.2.2.2.2.1 z_52.2.2.2.2.2.2.2.2.2.2.2.2.2.1 z_52.2.2.2.2.2.2.2.2.2.2.2.2.2.2] H := hP
      refine lv_aload_n hx hb dX11_game_46 rfl (lv_at hl 2 rfl) ?_
      refine lv_aload_n hx hb dX11_game_47 rfl (lv_at hl 2 rfl) ?_
      refine xget (i := 0) (j := 0) (k := 16) (T := TX11) hx hb ht tb_iX11 hown hX hP.1 rfl rfl rfl (by decide) tb_445 rfl dX11_game_48 ?_
      refine lv_iload_n hx hb dX11_game_51 rfl (lv_at hl 3 rfl) ?_
      refine lv_iload_n hx hb dX11_game_52 rfl (lv_at hl 4 rfl) ?_
      obtain ⟨z_53, e_z_53, h⟩ := bi h
      refine efVi (rest := [.ref (A_b 0)]) ⟨hx, hb, hml, hown, ht⟩ (c_X4_valueFor l D cy fu A_f z_52.1 z_52.2.1 A_n z_52.2.2.1 z_52.2.2.2.1 z_52.2.2.2.2.1 z_52.2.2.2.2.2.1 z_52.2.2.2.2.2.2.1 z_52.2.2.2.2.2.2.2.1 z_52.2.2.2.2.2.2.2.2.1 n_votes z_52.2.2.2.2.2.2.2.2.2.1 z_52.2.2.2.2.2.2.2.2.2.2.1 z_52.2.2.2.2.2.2.2.2.2.2.2.1 z_52.2.2.2.2.2.2.2.2.2.2.2.2.1 z_52.2.2.2.2.2.2.2.2.2.2.2.2.2.1 z_52.2.2.2.2.2.2.2.2.2.2.2.2.2.2 x1 x2 z_53 e_z_53 _ rfl _ rfl) (cV ht mv_X4_valueFor tb_1106 rfl rfl ⟨Nat.le_of_ble_eq_true rfl, Nat.le_of_ble_eq_true rfl⟩) hP hS hX [7, 8] rfl rfl rfl rfl rfl rfl hl.1 rfl (Nat.le_of_ble_eq_true rfl) dX11_game_53 ⟨Nat.le_of_ble_eq_true rfl, Nat.le_of_ble_eq_true rfl⟩ (fun H locs hP hS => ?_)
      have hP : PD D A [bl_X11 cy A_b (A_T 0) (A_a 0) r_b_war r_b_draftArmy r_b_draftWar r_b_reader r_b_armyReader r_b_warReader r_b_markedArmies r_b_markedWars r_b_latest r_b_trial (A_f 0) r_b_pairs b_latestStatus b_fractionTop b_fractionBottom b_marks, [(A_T 0, .inl (cy 4, 4, .inr (.inr (.inr (.inr (trf4 (A_y0 0) (A_y1 0) (A_y2 0) (A_y3 0)))))))], bl_X8 cy A_y0 y0_row y0_missing y0_sort y0_many, bl_X8 cy A_y1 y1_row y1_missing y1_sort y1_many, bl_X8 cy A_y2 y2_row y2_missing y2_sort y2_many, bl_X8 cy A_y3 y3_row y3_missing y3_sort y3_many, bl_X0 cy A_a a_name a_courage a_weight a_medals a_stood a_fled a_liked a_votes a_count a_living a_pride a_quota a_melted a_lost, bl_X4 cy A_f (A_n 0) z_52.1 z_52.2.1, bl_X0 cy A_n z_52.2.2.1 z_52.2.2.2.1 z_52.2.2.2.2.1 z_53.2.1 z_52.2.2.2.2.2.2.1 z_52.2.2.2.2.2.2.2.1 z_52.2.2.2.2.2.2.2.2.1 z_53.2.2 z_52.2.2.2.2.2.2.2.2.2.1 z_52.2.2.2.2.2.2.2.2.2.2.1 z_52.2.2.2.2.2.2.2.2.2.2.2.1 z_52.2.2.2.2.2.2.2.2.2.2.2.2.1 z_52.2.2.2.2.2.2.2.2.2.2.2.2.2.1 z_52.2.2.2.2.2.2.2.2.2.2.2.2.2.2] H := hP
      obtain ⟨z_54, e_z_54, h⟩ := bi h
      refine efVi (rest := []) ⟨hx, hb, hml, hown, ht⟩ (c_X11_answer l D cy fu A_b (A_T 0) (A_a 0) r_b_war r_b_draftArmy r_b_draftWar r_b_reader r_b_armyReader r_b_warReader r_b_markedArmies r_b_markedWars r_b_latest r_b_trial (A_f 0) r_b_pairs b_latestStatus b_fractionTop b_fractionBottom b_marks z_53.1 z_54 e_z_54 _ rfl _ rfl) (cV ht mv_X11_answer tb_696 rfl rfl ⟨Nat.le_of_ble_eq_true rfl, Nat.le_of_ble_eq_true rfl⟩) hP hS hX [0] rfl rfl rfl rfl rfl rfl hl.1 rfl (Nat.le_of_ble_eq_true rfl) dX11_game_56 ⟨Nat.le_of_ble_eq_true rfl, Nat.le_of_ble_eq_true rfl⟩ (fun H locs hP hS => ?_)
      have hP : PD D A [bl_X11 cy A_b (A_T 0) (A_a 0) r_b_war r_b_draftArmy r_b_draftWar r_b_reader r_b_armyReader r_b_warReader r_b_markedArmies r_b_markedWars r_b_latest r_b_trial (A_f 0) r_b_pairs z_54.2 b_fractionTop b_fractionBottom b_marks, [(A_T 0, .inl (cy 4, 4, .inr (.inr (.inr (.inr (trf4 (A_y0 0) (A_y1 0) (A_y2 0) (A_y3 0)))))))], bl_X8 cy A_y0 y0_row y0_missing y0_sort y0_many, bl_X8 cy A_y1 y1_row y1_missing y1_sort y1_many, bl_X8 cy A_y2 y2_row y2_missing y2_sort y2_many, bl_X8 cy A_y3 y3_row y3_missing y3_sort y3_many, bl_X0 cy A_a a_name a_courage a_weight a_medals a_stood a_fled a_liked a_votes a_count a_living a_pride a_quota a_melted a_lost, bl_X4 cy A_f (A_n 0) z_52.1 z_52.2.1, bl_X0 cy A_n z_52.2.2.1 z_52.2.2.2.1 z_52.2.2.2.2.1 z_53.2.1 z_52.2.2.2.2.2.2.1 z_52.2.2.2.2.2.2.2.1 z_52.2.2.2.2.2.2.2.2.1 z_53.2.2 z_52.2.2.2.2.2.2.2.2.2.1 z_52.2.2.2.2.2.2.2.2.2.2.1 z_52.2.2.2.2.2.2.2.2.2.2.2.1 z_52.2.2.2.2.2.2.2.2.2.2.2.2.1 z_52.2.2.2.2.2.2.2.2.2.2.2.2.2.1 z_52.2.2.2.2.2.2.2.2.2.2.2.2.2.2] H := hP
      cases h
      subst hW1
      exact W.iret hx hb hr (fun _ ht9 _ => ⟨⟨_, (), rfl, rfl, hPt ht9 hP.1⟩, hS.F ht9⟩) hS.2.2 dX11_game_59
    · have h := ie c_51 h
      refine lv_aload_n hx hb dX11_game_24 rfl (lv_at hl 2 rfl) ?_
      refine lv_iload hx hb dX11_game_25 (lv_at hl 0 rfl) ?_
      obtain ⟨z_55, e_z_55, h⟩ := bi h
      refine efVi (rest := []) ⟨hx, hb, hml, hown, ht⟩ (c_X11_refuse l D cy fu A_b (A_T 0) (A_a 0) r_b_war r_b_draftArmy r_b_draftWar r_b_reader r_b_armyReader r_b_warReader r_b_markedArmies r_b_markedWars r_b_latest r_b_trial (A_f 0) r_b_pairs b_latestStatus b_fractionTop b_fractionBottom b_marks z_50 z_55 e_z_55 _ rfl _ rfl) (cV ht mv_X11_refuse tb_543 rfl rfl ⟨Nat.le_of_ble_eq_true rfl, Nat.le_of_ble_eq_true rfl⟩) hP hS hX [0] rfl rfl rfl rfl rfl rfl hl.1 rfl (Nat.le_of_ble_eq_true rfl) dX11_game_27 ⟨Nat.le_of_ble_eq_true rfl, Nat.le_of_ble_eq_true rfl⟩ (fun H locs hP hS => ?_)
      have hP : PD D A [bl_X11 cy A_b (A_T 0) (A_a 0) r_b_war r_b_draftArmy r_b_draftWar r_b_reader r_b_armyReader r_b_warReader r_b_markedArmies r_b_markedWars r_b_latest r_b_trial (A_f 0) r_b_pairs z_55.2 b_fractionTop b_fractionBottom b_marks, [(A_T 0, .inl (cy 4, 4, .inr (.inr (.inr (.inr (trf4 (A_y0 0) (A_y1 0) (A_y2 0) (A_y3 0)))))))], bl_X8 cy A_y0 y0_row y0_missing y0_sort y0_many, bl_X8 cy A_y1 y1_row y1_missing y1_sort y1_many, bl_X8 cy A_y2 y2_row y2_missing y2_sort y2_many, bl_X8 cy A_y3 y3_row y3_missing y3_sort y3_many, bl_X0 cy A_a a_name a_courage a_weight a_medals a_stood a_fled a_liked a_votes a_count a_living a_pride a_quota a_melted a_lost, bl_X4 cy A_f (A_n 0) f_sizes f_dangers, bl_X0 cy A_n n_name n_courage n_weight n_medals n_stood n_fled n_liked n_votes n_count n_living n_pride n_quota n_melted n_lost] H := hP
      cases h
      subst hW1
      exact W.iret hx hb hr (fun _ ht9 _ => ⟨⟨_, (), rfl, rfl, hPt ht9 hP.1⟩, hS.F ht9⟩) hS.2.2 dX11_game_30
  have h := ie c_49 h
  by_cases c_56 : x3 = 3
  · have h := it c_56 h
    refine roVq (rest := []) ⟨hx, hb, hml, hown, ht⟩ (c_X11_trayAt l D cy fu A_b (A_a 0) r_b_war r_b_draftArmy r_b_draftWar r_b_reader r_b_armyReader r_b_warReader r_b_markedArmies r_b_markedWars r_b_latest r_b_trial (A_f 0) r_b_pairs b_latestStatus b_fractionTop b_fractionBottom b_marks A_T (trf4 (A_y0 0) (A_y1 0) (A_y2 0) (A_y3 0)) x3 (some (A_y3 0)) (tray_3 c_56)) (cV ht mv_X11_trayAt tb_500 rfl rfl ⟨Nat.le_of_ble_eq_true rfl, Nat.le_of_ble_eq_true rfl⟩) (P_sub hP.1 [0, 1] rfl) hX rfl rfl rfl hl.1 rfl (Nat.le_of_ble_eq_true rfl) dX11_game_2 ⟨Nat.le_of_ble_eq_true rfl, Nat.le_of_ble_eq_true rfl⟩ ?_
    refine lv_astore (lv' := [(5, .ref (A_y3 0)), (0, .ref (A_b 0)), (1, .int x1), (2, .int x2), (3, .int x3), (4, .int x4)]) hx hb dX11_game_5 hl (by decide) rfl (fun ls hl => ?_)
    refine lv_aload_n hx hb dX11_game_7 rfl (lv_at hl 1 rfl) ?_
    refine lv_iload_n hx hb dX11_game_8 rfl (lv_at hl 2 rfl) ?_
    refine lv_iload_n hx hb dX11_game_9 rfl (lv_at hl 3 rfl) ?_
    refine lv_aload hx hb dX11_game_10 (lv_at hl 0 rfl) ?_
    refine lv_iload hx hb dX11_game_12 (lv_at hl 5 rfl) ?_
    obtain ⟨z_57, e_z_57, h⟩ := bi h
    refine roVi (rest := []) ⟨hx, hb, hml, hown, ht⟩ (c_X11_gameRefusal l D cy fu A_b (A_T 0) r_b_war r_b_draftArmy r_b_draftWar r_b_reader r_b_armyReader r_b_warReader r_b_markedArmies r_b_markedWars r_b_latest r_b_trial (A_f 0) r_b_pairs b_latestStatus b_fractionTop b_fractionBottom b_marks A_y3 y3_row y3_missing y3_sort y3_many A_a a_name a_courage a_weight a_medals a_stood a_fled a_liked a_votes a_count a_living a_pride a_quota a_melted a_lost x1 x2 x4 z_57 e_z_57) (cV ht mv_X11_gameRefusal tb_1102 rfl rfl ⟨Nat.le_of_ble_eq_true rfl, Nat.le_of_ble_eq_true rfl⟩) (P_sub hP.1 [0, 5, 6] rfl) hX rfl rfl rfl hl.1 rfl (Nat.le_of_ble_eq_true rfl) dX11_game_14 ⟨Nat.le_of_ble_eq_true rfl, Nat.le_of_ble_eq_true rfl⟩ ?_
    refine lv_istore (lv' := [(6, .int z_57), (5, .ref (A_y3 0)), (0, .ref (A_b 0)), (1, .int x1), (2, .int x2), (3, .int x3), (4, .int x4)]) hx hb dX11_game_17 hl (by decide) rfl (fun ls hl => ?_)
    refine lv_iload hx hb dX11_game_19 (lv_at hl 0 rfl) ?_
    refine lv_if_eq (tgt := 31) hx hb dX11_game_21 (by decide) (fun c_58 => ?_) (fun c_58 => ?_)
    · have h := it c_58 h
      refine lv_aload_n hx hb dX11_game_31 rfl (lv_at hl 2 rfl) ?_
      refine xget (i := 0) (j := 0) (k := 16) (T := TX11) hx hb ht tb_iX11 hown hX hP.1 rfl rfl rfl (by decide) tb_445 rfl dX11_game_32 ?_
      refine lv_aload_n hx hb dX11_game_35 rfl (lv_at hl 2 rfl) ?_
      refine xget (i := 0) (j := 0) (k := 4) (T := TX11) hx hb ht tb_iX11 hown hX hP.1 rfl rfl rfl (by decide) tb_433 rfl dX11_game_36 ?_
      refine lv_aload hx hb dX11_game_39 (lv_at hl 1 rfl) ?_
      refine lv_iload hx hb dX11_game_41 (lv_at hl 6 rfl) ?_
      obtain ⟨z_59, e_z_59, h⟩ := bi h
      refine efVv (rest := []) ⟨hx, hb, hml, hown, ht⟩ (c_X4_look l D cy fu A_f f_sizes f_dangers A_n n_name n_courage n_weight n_medals n_stood n_fled n_liked n_votes n_count n_living n_pride n_quota n_melted n_lost A_a a_name a_courage a_weight a_medals a_stood a_fled a_liked a_votes a_count a_living a_pride a_quota a_melted a_lost A_y3 y3_row y3_missing y3_sort y3_many x4 z_59 e_z_59 _ rfl _ rfl) (cV ht mv_X4_look tb_991 rfl rfl ⟨Nat.le_of_ble_eq_true rfl, Nat.le_of_ble_eq_true rfl⟩) hP hS hX [7, 8, 6, 5] rfl rfl rfl rfl rfl rfl hl.1 rfl (Nat.le_of_ble_eq_true rfl) dX11_game_43 ⟨Nat.le_of_ble_eq_true rfl, Nat.le_of_ble_eq_true rfl⟩ (fun H locs hP hS => ?_)
      have hP : PD D A [bl_X11 cy A_b (A_T 0) (A_a 0) r_b_war r_b_draftArmy r_b_draftWar r_b_reader r_b_armyReader r_b_warReader r_b_markedArmies r_b_markedWars r_b_latest r_b_trial (A_f 0) r_b_pairs b_latestStatus b_fractionTop b_fractionBottom b_marks, [(A_T 0, .inl (cy 4, 4, .inr (.inr (.inr (.inr (trf4 (A_y0 0) (A_y1 0) (A_y2 0) (A_y3 0)))))))], bl_X8 cy A_y0 y0_row y0_missing y0_sort y0_many, bl_X8 cy A_y1 y1_row y1_missing y1_sort y1_many, bl_X8 cy A_y2 y2_row y2_missing y2_sort y2_many, bl_X8 cy A_y3 y3_row y3_missing y3_sort y3_many, bl_X0 cy A_a a_name a_courage a_weight a_medals a_stood a_fled a_liked a_votes a_count a_living a_pride a_quota a_melted a_lost, bl_X4 cy A_f (A_n 0) z_59.1 z_59.2.1, bl_X0 cy A_n z_59.2.2.1 z_59.2.2.2.1 z_59.2.2.2.2.1 z_59.2.2.2.2.2.1 z_59.2.2.2.2.2.2.1 z_59.2.2.2.2.2.2.2.1 z_59.2.2.2.2.2.2.2.2.1 n_votes z_59.2.2.2.2.2.2.2.2.2.1 z_59.2.2.2.2.2.2.2.2.2.2.1 z_59.2.2.2.2.2.2.2.2.2.2.2.1 z_59.2.2.2.2.2.2.2.2.2.2.2.2.1 z_59.2.2.2.2.2.2.2.2.2.2.2.2.2.1 z_59.2.2.2.2.2.2.2.2.2.2.2.2.2.2] H := hP
      refine lv_aload_n hx hb dX11_game_46 rfl (lv_at hl 2 rfl) ?_
      refine lv_aload_n hx hb dX11_game_47 rfl (lv_at hl 2 rfl) ?_
      refine xget (i := 0) (j := 0) (k := 16) (T := TX11) hx hb ht tb_iX11 hown hX hP.1 rfl rfl rfl (by decide) tb_445 rfl dX11_game_48 ?_
      refine lv_iload_n hx hb dX11_game_51 rfl (lv_at hl 3 rfl) ?_
      refine lv_iload_n hx hb dX11_game_52 rfl (lv_at hl 4 rfl) ?_
      obtain ⟨z_60, e_z_60, h⟩ := bi h
      refine efVi (rest := [.ref (A_b 0)]) ⟨hx, hb, hml, hown, ht⟩ (c_X4_valueFor l D cy fu A_f z_59.1 z_59.2.1 A_n z_59.2.2.1 z_59.2.2.2.1 z_59.2.2.2.2.1 z_59.2.2.2.2.2.1 z_59.2.2.2.2.2.2.1 z_59.2.2.2.2.2.2.2.1 z_59.2.2.2.2.2.2.2.2.1 n_votes z_59.2.2.2.2.2.2.2.2.2.1 z_59.2.2.2.2.2.2.2.2.2.2.1 z_59.2.2.2.2.2.2.2.2.2.2.2.1 z_59.2.2.2.2.2.2.2.2.2.2.2.2.1 z_59.2.2.2.2.2.2.2.2.2.2.2.2.2.1 z_59.2.2.2.2.2.2.2.2.2.2.2.2.2.2 x1 x2 z_60 e_z_60 _ rfl _ rfl) (cV ht mv_X4_valueFor tb_1106 rfl rfl ⟨Nat.le_of_ble_eq_true rfl, Nat.le_of_ble_eq_true rfl⟩) hP hS hX [7, 8] rfl rfl rfl rfl rfl rfl hl.1 rfl (Nat.le_of_ble_eq_true rfl) dX11_game_53 ⟨Nat.le_of_ble_eq_true rfl, Nat.le_of_ble_eq_true rfl⟩ (fun H locs hP hS => ?_)
      have hP : PD D A [bl_X11 cy A_b (A_T 0) (A_a 0) r_b_war r_b_draftArmy r_b_draftWar r_b_reader r_b_armyReader r_b_warReader r_b_markedArmies r_b_markedWars r_b_latest r_b_trial (A_f 0) r_b_pairs b_latestStatus b_fractionTop b_fractionBottom b_marks, [(A_T 0, .inl (cy 4, 4, .inr (.inr (.inr (.inr (trf4 (A_y0 0) (A_y1 0) (A_y2 0) (A_y3 0)))))))], bl_X8 cy A_y0 y0_row y0_missing y0_sort y0_many, bl_X8 cy A_y1 y1_row y1_missing y1_sort y1_many, bl_X8 cy A_y2 y2_row y2_missing y2_sort y2_many, bl_X8 cy A_y3 y3_row y3_missing y3_sort y3_many, bl_X0 cy A_a a_name a_courage a_weight a_medals a_stood a_fled a_liked a_votes a_count a_living a_pride a_quota a_melted a_lost, bl_X4 cy A_f (A_n 0) z_59.1 z_59.2.1, bl_X0 cy A_n z_59.2.2.1 z_59.2.2.2.1 z_59.2.2.2.2.1 z_60.2.1 z_59.2.2.2.2.2.2.1 z_59.2.2.2.2.2.2.2.1 z_59.2.2.2.2.2.2.2.2.1 z_60.2.2 z_59.2.2.2.2.2.2.2.2.2.1 z_59.2.2.2.2.2.2.2.2.2.2.1 z_59.2.2.2.2.2.2.2.2.2.2.2.1 z_59.2.2.2.2.2.2.2.2.2.2.2.2.1 z_59.2.2.2.2.2.2.2.2.2.2.2.2.2.1 z_59.2.2.2.2.2.2.2.2.2.2.2.2.2.2] H := hP
      obtain ⟨z_61, e_z_61, h⟩ := bi h
      refine efVi (rest := []) ⟨hx, hb, hml, hown, ht⟩ (c_X11_answer l D cy fu A_b (A_T 0) (A_a 0) r_b_war r_b_draftArmy r_b_draftWar r_b_reader r_b_armyReader r_b_warReader r_b_markedArmies r_b_markedWars r_b_latest r_b_trial (A_f 0) r_b_pairs b_latestStatus b_fractionTop b_fractionBottom b_marks z_60.1 z_61 e_z_61 _ rfl _ rfl) (cV ht mv_X11_answer tb_696 rfl rfl ⟨Nat.le_of_ble_eq_true rfl, Nat.le_of_ble_eq_true rfl⟩) hP hS hX [0] rfl rfl rfl rfl rfl rfl hl.1 rfl (Nat.le_of_ble_eq_true rfl) dX11_game_56 ⟨Nat.le_of_ble_eq_true rfl, Nat.le_of_ble_eq_true rfl⟩ (fun H locs hP hS => ?_)
      have hP : PD D A [bl_X11 cy A_b (A_T 0) (A_a 0) r_b_war r_b_draftArmy r_b_draftWar r_b_reader r_b_armyReader r_b_warReader r_b_markedArmies r_b_markedWars r_b_latest r_b_trial (A_f 0) r_b_pairs z_61.2 b_fractionTop b_fractionBottom b_marks, [(A_T 0, .inl (cy 4, 4, .inr (.inr (.inr (.inr (trf4 (A_y0 0) (A_y1 0) (A_y2 0) (A_y3 0)))))))], bl_X8 cy A_y0 y0_row y0_missing y0_sort y0_many, bl_X8 cy A_y1 y1_row y1_missing y1_sort y1_many, bl_X8 cy A_y2 y2_row y2_missing y2_sort y2_many, bl_X8 cy A_y3 y3_row y3_missing y3_sort y3_many, bl_X0 cy A_a a_name a_courage a_weight a_medals a_stood a_fled a_liked a_votes a_count a_living a_pride a_quota a_melted a_lost, bl_X4 cy A_f (A_n 0) z_59.1 z_59.2.1, bl_X0 cy A_n z_59.2.2.1 z_59.2.2.2.1 z_59.2.2.2.2.1 z_60.2.1 z_59.2.2.2.2.2.2.1 z_59.2.2.2.2.2.2.2.1 z_59.2.2.2.2.2.2.2.2.1 z_60.2.2 z_59.2.2.2.2.2.2.2.2.2.1 z_59.2.2.2.2.2.2.2.2.2.2.1 z_59.2.2.2.2.2.2.2.2.2.2.2.1 z_59.2.2.2.2.2.2.2.2.2.2.2.2.1 z_59.2.2.2.2.2.2.2.2.2.2.2.2.2.1 z_59.2.2.2.2.2.2.2.2.2.2.2.2.2.2] H := hP
      cases h
      subst hW1
      exact W.iret hx hb hr (fun _ ht9 _ => ⟨⟨_, (), rfl, rfl, hPt ht9 hP.1⟩, hS.F ht9⟩) hS.2.2 dX11_game_59
    · have h := ie c_58 h
      refine lv_aload_n hx hb dX11_game_24 rfl (lv_at hl 2 rfl) ?_
      refine lv_iload hx hb dX11_game_25 (lv_at hl 0 rfl) ?_
      obtain ⟨z_62, e_z_62, h⟩ := bi h
      refine efVi (rest := []) ⟨hx, hb, hml, hown, ht⟩ (c_X11_refuse l D cy fu A_b (A_T 0) (A_a 0) r_b_war r_b_draftArmy r_b_draftWar r_b_reader r_b_armyReader r_b_warReader r_b_markedArmies r_b_markedWars r_b_latest r_b_trial (A_f 0) r_b_pairs b_latestStatus b_fractionTop b_fractionBottom b_marks z_57 z_62 e_z_62 _ rfl _ rfl) (cV ht mv_X11_refuse tb_543 rfl rfl ⟨Nat.le_of_ble_eq_true rfl, Nat.le_of_ble_eq_true rfl⟩) hP hS hX [0] rfl rfl rfl rfl rfl rfl hl.1 rfl (Nat.le_of_ble_eq_true rfl) dX11_game_27 ⟨Nat.le_of_ble_eq_true rfl, Nat.le_of_ble_eq_true rfl⟩ (fun H locs hP hS => ?_)
      have hP : PD D A [bl_X11 cy A_b (A_T 0) (A_a 0) r_b_war r_b_draftArmy r_b_draftWar r_b_reader r_b_armyReader r_b_warReader r_b_markedArmies r_b_markedWars r_b_latest r_b_trial (A_f 0) r_b_pairs z_62.2 b_fractionTop b_fractionBottom b_marks, [(A_T 0, .inl (cy 4, 4, .inr (.inr (.inr (.inr (trf4 (A_y0 0) (A_y1 0) (A_y2 0) (A_y3 0)))))))], bl_X8 cy A_y0 y0_row y0_missing y0_sort y0_many, bl_X8 cy A_y1 y1_row y1_missing y1_sort y1_many, bl_X8 cy A_y2 y2_row y2_missing y2_sort y2_many, bl_X8 cy A_y3 y3_row y3_missing y3_sort y3_many, bl_X0 cy A_a a_name a_courage a_weight a_medals a_stood a_fled a_liked a_votes a_count a_living a_pride a_quota a_melted a_lost, bl_X4 cy A_f (A_n 0) f_sizes f_dangers, bl_X0 cy A_n n_name n_courage n_weight n_medals n_stood n_fled n_liked n_votes n_count n_living n_pride n_quota n_melted n_lost] H := hP
      cases h
      subst hW1
      exact W.iret hx hb hr (fun _ ht9 _ => ⟨⟨_, (), rfl, rfl, hPt ht9 hP.1⟩, hS.F ht9⟩) hS.2.2 dX11_game_30
  have h := ie c_56 h
  refine roVq (rest := []) ⟨hx, hb, hml, hown, ht⟩ (c_X11_trayAt l D cy fu A_b (A_a 0) r_b_war r_b_draftArmy r_b_draftWar r_b_reader r_b_armyReader r_b_warReader r_b_markedArmies r_b_markedWars r_b_latest r_b_trial (A_f 0) r_b_pairs b_latestStatus b_fractionTop b_fractionBottom b_marks A_T (trf4 (A_y0 0) (A_y1 0) (A_y2 0) (A_y3 0)) x3 (none) (tray_out ⟨c_35, c_42, c_49, c_56⟩)) (cV ht mv_X11_trayAt tb_500 rfl rfl ⟨Nat.le_of_ble_eq_true rfl, Nat.le_of_ble_eq_true rfl⟩) (P_sub hP.1 [0, 1] rfl) hX rfl rfl rfl hl.1 rfl (Nat.le_of_ble_eq_true rfl) dX11_game_2 ⟨Nat.le_of_ble_eq_true rfl, Nat.le_of_ble_eq_true rfl⟩ ?_
  refine lv_astoreN (lv' := [(5, .null), (0, .ref (A_b 0)), (1, .int x1), (2, .int x2), (3, .int x3), (4, .int x4)]) hx hb dX11_game_5 hl (by decide) rfl (fun ls hl => ?_)
  refine lv_aload_n hx hb dX11_game_7 rfl (lv_at hl 1 rfl) ?_
  refine lv_iload_n hx hb dX11_game_8 rfl (lv_at hl 2 rfl) ?_
  refine lv_iload_n hx hb dX11_game_9 rfl (lv_at hl 3 rfl) ?_
  refine lv_aloadN hx hb dX11_game_10 (lv_at hl 0 rfl) ?_
  refine lv_iload hx hb dX11_game_12 (lv_at hl 5 rfl) ?_
  obtain ⟨z_63, e_z_63, h⟩ := bi h
  refine roVi (rest := []) ⟨hx, hb, hml, hown, ht⟩ (c_X11_gameRefusal_n3 l D cy fu A_b (A_T 0) r_b_war r_b_draftArmy r_b_draftWar r_b_reader r_b_armyReader r_b_warReader r_b_markedArmies r_b_markedWars r_b_latest r_b_trial (A_f 0) r_b_pairs b_latestStatus b_fractionTop b_fractionBottom b_marks A_a a_name a_courage a_weight a_medals a_stood a_fled a_liked a_votes a_count a_living a_pride a_quota a_melted a_lost x1 x2 x4 z_63 e_z_63) (cV ht mv_X11_gameRefusal tb_1102 rfl rfl ⟨Nat.le_of_ble_eq_true rfl, Nat.le_of_ble_eq_true rfl⟩) (P_sub hP.1 [0, 6] rfl) hX rfl rfl rfl hl.1 rfl (Nat.le_of_ble_eq_true rfl) dX11_game_14 ⟨Nat.le_of_ble_eq_true rfl, Nat.le_of_ble_eq_true rfl⟩ ?_
  refine lv_istore (lv' := [(6, .int z_63), (5, .null), (0, .ref (A_b 0)), (1, .int x1), (2, .int x2), (3, .int x3), (4, .int x4)]) hx hb dX11_game_17 hl (by decide) rfl (fun ls hl => ?_)
  refine lv_iload hx hb dX11_game_19 (lv_at hl 0 rfl) ?_
  refine lv_if_eq (tgt := 31) hx hb dX11_game_21 (by decide) (fun c_64 => ?_) (fun c_64 => ?_)
  · have h := it c_64 h
    refine lv_aload_n hx hb dX11_game_31 rfl (lv_at hl 2 rfl) ?_
    refine xget (i := 0) (j := 0) (k := 16) (T := TX11) hx hb ht tb_iX11 hown hX hP.1 rfl rfl rfl (by decide) tb_445 rfl dX11_game_32 ?_
    refine lv_aload_n hx hb dX11_game_35 rfl (lv_at hl 2 rfl) ?_
    refine xget (i := 0) (j := 0) (k := 4) (T := TX11) hx hb ht tb_iX11 hown hX hP.1 rfl rfl rfl (by decide) tb_433 rfl dX11_game_36 ?_
    refine lv_aloadN hx hb dX11_game_39 (lv_at hl 1 rfl) ?_
    refine lv_iload hx hb dX11_game_41 (lv_at hl 6 rfl) ?_
    obtain ⟨z_65, e_z_65, h⟩ := bi h
    refine efVv (rest := []) ⟨hx, hb, hml, hown, ht⟩ (c_X4_look_n2 l D cy fu A_f f_sizes f_dangers A_n n_name n_courage n_weight n_medals n_stood n_fled n_liked n_votes n_count n_living n_pride n_quota n_melted n_lost A_a a_name a_courage a_weight a_medals a_stood a_fled a_liked a_votes a_count a_living a_pride a_quota a_melted a_lost x4 z_65 e_z_65 _ rfl _ rfl) (cV ht mv_X4_look tb_991 rfl rfl ⟨Nat.le_of_ble_eq_true rfl, Nat.le_of_ble_eq_true rfl⟩) hP hS hX [7, 8, 6] rfl rfl rfl rfl rfl rfl hl.1 rfl (Nat.le_of_ble_eq_true rfl) dX11_game_43 ⟨Nat.le_of_ble_eq_true rfl, Nat.le_of_ble_eq_true rfl⟩ (fun H locs hP hS => ?_)
    have hP : PD D A [bl_X11 cy A_b (A_T 0) (A_a 0) r_b_war r_b_draftArmy r_b_draftWar r_b_reader r_b_armyReader r_b_warReader r_b_markedArmies r_b_markedWars r_b_latest r_b_trial (A_f 0) r_b_pairs b_latestStatus b_fractionTop b_fractionBottom b_marks, [(A_T 0, .inl (cy 4, 4, .inr (.inr (.inr (.inr (trf4 (A_y0 0) (A_y1 0) (A_y2 0) (A_y3 0)))))))], bl_X8 cy A_y0 y0_row y0_missing y0_sort y0_many, bl_X8 cy A_y1 y1_row y1_missing y1_sort y1_many, bl_X8 cy A_y2 y2_row y2_missing y2_sort y2_many, bl_X8 cy A_y3 y3_row y3_missing y3_sort y3_many, bl_X0 cy A_a a_name a_courage a_weight a_medals a_stood a_fled a_liked a_votes a_count a_living a_pride a_quota a_melted a_lost, bl_X4 cy A_f (A_n 0) f_sizes z_65.1, bl_X0 cy A_n z_65.2.1 z_65.2.2.1 z_65.2.2.2.1 z_65.2.2.2.2.1 z_65.2.2.2.2.2.1 z_65.2.2.2.2.2.2.1 z_65.2.2.2.2.2.2.2.1 n_votes z_65.2.2.2.2.2.2.2.2.1 z_65.2.2.2.2.2.2.2.2.2.1 z_65.2.2.2.2.2.2.2.2.2.2.1 z_65.2.2.2.2.2.2.2.2.2.2.2.1 z_65.2.2.2.2.2.2.2.2.2.2.2.2.1 z_65.2.2.2.2.2.2.2.2.2.2.2.2.2] H := hP
    refine lv_aload_n hx hb dX11_game_46 rfl (lv_at hl 2 rfl) ?_
    refine lv_aload_n hx hb dX11_game_47 rfl (lv_at hl 2 rfl) ?_
    refine xget (i := 0) (j := 0) (k := 16) (T := TX11) hx hb ht tb_iX11 hown hX hP.1 rfl rfl rfl (by decide) tb_445 rfl dX11_game_48 ?_
    refine lv_iload_n hx hb dX11_game_51 rfl (lv_at hl 3 rfl) ?_
    refine lv_iload_n hx hb dX11_game_52 rfl (lv_at hl 4 rfl) ?_
    obtain ⟨z_66, e_z_66, h⟩ := bi h
    refine efVi (rest := [.ref (A_b 0)]) ⟨hx, hb, hml, hown, ht⟩ (c_X4_valueFor l D cy fu A_f f_sizes z_65.1 A_n z_65.2.1 z_65.2.2.1 z_65.2.2.2.1 z_65.2.2.2.2.1 z_65.2.2.2.2.2.1 z_65.2.2.2.2.2.2.1 z_65.2.2.2.2.2.2.2.1 n_votes z_65.2.2.2.2.2.2.2.2.1 z_65.2.2.2.2.2.2.2.2.2.1 z_65.2.2.2.2.2.2.2.2.2.2.1 z_65.2.2.2.2.2.2.2.2.2.2.2.1 z_65.2.2.2.2.2.2.2.2.2.2.2.2.1 z_65.2.2.2.2.2.2.2.2.2.2.2.2.2 x1 x2 z_66 e_z_66 _ rfl _ rfl) (cV ht mv_X4_valueFor tb_1106 rfl rfl ⟨Nat.le_of_ble_eq_true rfl, Nat.le_of_ble_eq_true rfl⟩) hP hS hX [7, 8] rfl rfl rfl rfl rfl rfl hl.1 rfl (Nat.le_of_ble_eq_true rfl) dX11_game_53 ⟨Nat.le_of_ble_eq_true rfl, Nat.le_of_ble_eq_true rfl⟩ (fun H locs hP hS => ?_)
    have hP : PD D A [bl_X11 cy A_b (A_T 0) (A_a 0) r_b_war r_b_draftArmy r_b_draftWar r_b_reader r_b_armyReader r_b_warReader r_b_markedArmies r_b_markedWars r_b_latest r_b_trial (A_f 0) r_b_pairs b_latestStatus b_fractionTop b_fractionBottom b_marks, [(A_T 0, .inl (cy 4, 4, .inr (.inr (.inr (.inr (trf4 (A_y0 0) (A_y1 0) (A_y2 0) (A_y3 0)))))))], bl_X8 cy A_y0 y0_row y0_missing y0_sort y0_many, bl_X8 cy A_y1 y1_row y1_missing y1_sort y1_many, bl_X8 cy A_y2 y2_row y2_missing y2_sort y2_many, bl_X8 cy A_y3 y3_row y3_missing y3_sort y3_many, bl_X0 cy A_a a_name a_courage a_weight a_medals a_stood a_fled a_liked a_votes a_count a_living a_pride a_quota a_melted a_lost, bl_X4 cy A_f (A_n 0) f_sizes z_65.1, bl_X0 cy A_n z_65.2.1 z_65.2.2.1 z_65.2.2.2.1 z_66.2.1 z_65.2.2.2.2.2.1 z_65.2.2.2.2.2.2.1 z_65.2.2.2.2.2.2.2.1 z_66.2.2 z_65.2.2.2.2.2.2.2.2.1 z_65.2.2.2.2.2.2.2.2.2.1 z_65.2.2.2.2.2.2.2.2.2.2.1 z_65.2.2.2.2.2.2.2.2.2.2.2.1 z_65.2.2.2.2.2.2.2.2.2.2.2.2.1 z_65.2.2.2.2.2.2.2.2.2.2.2.2.2] H := hP
    obtain ⟨z_67, e_z_67, h⟩ := bi h
    refine efVi (rest := []) ⟨hx, hb, hml, hown, ht⟩ (c_X11_answer l D cy fu A_b (A_T 0) (A_a 0) r_b_war r_b_draftArmy r_b_draftWar r_b_reader r_b_armyReader r_b_warReader r_b_markedArmies r_b_markedWars r_b_latest r_b_trial (A_f 0) r_b_pairs b_latestStatus b_fractionTop b_fractionBottom b_marks z_66.1 z_67 e_z_67 _ rfl _ rfl) (cV ht mv_X11_answer tb_696 rfl rfl ⟨Nat.le_of_ble_eq_true rfl, Nat.le_of_ble_eq_true rfl⟩) hP hS hX [0] rfl rfl rfl rfl rfl rfl hl.1 rfl (Nat.le_of_ble_eq_true rfl) dX11_game_56 ⟨Nat.le_of_ble_eq_true rfl, Nat.le_of_ble_eq_true rfl⟩ (fun H locs hP hS => ?_)
    have hP : PD D A [bl_X11 cy A_b (A_T 0) (A_a 0) r_b_war r_b_draftArmy r_b_draftWar r_b_reader r_b_armyReader r_b_warReader r_b_markedArmies r_b_markedWars r_b_latest r_b_trial (A_f 0) r_b_pairs z_67.2 b_fractionTop b_fractionBottom b_marks, [(A_T 0, .inl (cy 4, 4, .inr (.inr (.inr (.inr (trf4 (A_y0 0) (A_y1 0) (A_y2 0) (A_y3 0)))))))], bl_X8 cy A_y0 y0_row y0_missing y0_sort y0_many, bl_X8 cy A_y1 y1_row y1_missing y1_sort y1_many, bl_X8 cy A_y2 y2_row y2_missing y2_sort y2_many, bl_X8 cy A_y3 y3_row y3_missing y3_sort y3_many, bl_X0 cy A_a a_name a_courage a_weight a_medals a_stood a_fled a_liked a_votes a_count a_living a_pride a_quota a_melted a_lost, bl_X4 cy A_f (A_n 0) f_sizes z_65.1, bl_X0 cy A_n z_65.2.1 z_65.2.2.1 z_65.2.2.2.1 z_66.2.1 z_65.2.2.2.2.2.1 z_65.2.2.2.2.2.2.1 z_65.2.2.2.2.2.2.2.1 z_66.2.2 z_65.2.2.2.2.2.2.2.2.1 z_65.2.2.2.2.2.2.2.2.2.1 z_65.2.2.2.2.2.2.2.2.2.2.1 z_65.2.2.2.2.2.2.2.2.2.2.2.1 z_65.2.2.2.2.2.2.2.2.2.2.2.2.1 z_65.2.2.2.2.2.2.2.2.2.2.2.2.2] H := hP
    cases h
    subst hW1
    exact W.iret hx hb hr (fun _ ht9 _ => ⟨⟨_, (), rfl, rfl, hPt ht9 hP.1⟩, hS.F ht9⟩) hS.2.2 dX11_game_59
  · have h := ie c_64 h
    refine lv_aload_n hx hb dX11_game_24 rfl (lv_at hl 2 rfl) ?_
    refine lv_iload hx hb dX11_game_25 (lv_at hl 0 rfl) ?_
    obtain ⟨z_68, e_z_68, h⟩ := bi h
    refine efVi (rest := []) ⟨hx, hb, hml, hown, ht⟩ (c_X11_refuse l D cy fu A_b (A_T 0) (A_a 0) r_b_war r_b_draftArmy r_b_draftWar r_b_reader r_b_armyReader r_b_warReader r_b_markedArmies r_b_markedWars r_b_latest r_b_trial (A_f 0) r_b_pairs b_latestStatus b_fractionTop b_fractionBottom b_marks z_63 z_68 e_z_68 _ rfl _ rfl) (cV ht mv_X11_refuse tb_543 rfl rfl ⟨Nat.le_of_ble_eq_true rfl, Nat.le_of_ble_eq_true rfl⟩) hP hS hX [0] rfl rfl rfl rfl rfl rfl hl.1 rfl (Nat.le_of_ble_eq_true rfl) dX11_game_27 ⟨Nat.le_of_ble_eq_true rfl, Nat.le_of_ble_eq_true rfl⟩ (fun H locs hP hS => ?_)
    have hP : PD D A [bl_X11 cy A_b (A_T 0) (A_a 0) r_b_war r_b_draftArmy r_b_draftWar r_b_reader r_b_armyReader r_b_warReader r_b_markedArmies r_b_markedWars r_b_latest r_b_trial (A_f 0) r_b_pairs z_68.2 b_fractionTop b_fractionBottom b_marks, [(A_T 0, .inl (cy 4, 4, .inr (.inr (.inr (.inr (trf4 (A_y0 0) (A_y1 0) (A_y2 0) (A_y3 0)))))))], bl_X8 cy A_y0 y0_row y0_missing y0_sort y0_many, bl_X8 cy A_y1 y1_row y1_missing y1_sort y1_many, bl_X8 cy A_y2 y2_row y2_missing y2_sort y2_many, bl_X8 cy A_y3 y3_row y3_missing y3_sort y3_many, bl_X0 cy A_a a_name a_courage a_weight a_medals a_stood a_fled a_liked a_votes a_count a_living a_pride a_quota a_melted a_lost, bl_X4 cy A_f (A_n 0) f_sizes f_dangers, bl_X0 cy A_n n_name n_courage n_weight n_medals n_stood n_fled n_liked n_votes n_count n_living n_pride n_quota n_melted n_lost] H := hP
    cases h
    subst hW1
    exact W.iret hx hb hr (fun _ ht9 _ => ⟨⟨_, (), rfl, rfl, hPt ht9 hP.1⟩, hS.F ht9⟩) hS.2.2 dX11_game_30
theorem dX4_moveFor_0 : decode cX4_moveFor 0 = .ok (.aload_n 0, 1) := by decide +kernel
theorem dX4_moveFor_1 : decode cX4_moveFor 1 = .ok (.getfield 22, 3) := by decide +kernel
theorem dX4_moveFor_4 : decode cX4_moveFor 4 = .ok (.ifCond .eq 42, 3) := by decide +kernel
theorem dX4_moveFor_7 : decode cX4_moveFor 7 = .ok (.aload_n 0, 1) := by decide +kernel
theorem dX4_moveFor_8 : decode cX4_moveFor 8 = .ok (.getfield 12, 3) := by decide +kernel
theorem dX4_moveFor_11 : decode cX4_moveFor 11 = .ok (.iload_n 1, 1) := by decide +kernel
theorem dX4_moveFor_12 : decode cX4_moveFor 12 = .ok (.invokevirtual 45, 3) := by decide +kernel
theorem dX4_moveFor_15 : decode cX4_moveFor 15 = .ok (.ifCond .eq 31, 3) := by decide +kernel
theorem dX4_moveFor_18 : decode cX4_moveFor 18 = .ok (.aload_n 0, 1) := by decide +kernel
theorem dX4_moveFor_19 : decode cX4_moveFor 19 = .ok (.getfield 12, 3) := by decide +kernel
theorem dX4_moveFor_22 : decode cX4_moveFor 22 = .ok (.iload_n 2, 1) := by decide +kernel
theorem dX4_moveFor_23 : decode cX4_moveFor 23 = .ok (.invokevirtual 45, 3) := by decide +kernel
theorem dX4_moveFor_26 : decode cX4_moveFor 26 = .ok (.ifCond .eq 20, 3) := by decide +kernel
theorem dX4_moveFor_29 : decode cX4_moveFor 29 = .ok (.aload_n 0, 1) := by decide +kernel
theorem dX4_moveFor_30 : decode cX4_moveFor 30 = .ok (.getfield 12, 3) := by decide +kernel
theorem dX4_moveFor_33 : decode cX4_moveFor 33 = .ok (.iload_n 1, 1) := by decide +kernel
theorem dX4_moveFor_34 : decode cX4_moveFor 34 = .ok (.aload_n 0, 1) := by decide +kernel
theorem dX4_moveFor_35 : decode cX4_moveFor 35 = .ok (.getfield 18, 3) := by decide +kernel
theorem dX4_moveFor_38 : decode cX4_moveFor 38 = .ok (.iconst 0, 1) := by decide +kernel
theorem dX4_moveFor_39 : decode cX4_moveFor 39 = .ok (.iaload, 1) := by decide +kernel
theorem dX4_moveFor_40 : decode cX4_moveFor 40 = .ok (.invokevirtual 58, 3) := by decide +kernel
theorem dX4_moveFor_43 : decode cX4_moveFor 43 = .ok (.ifCond .ne 5, 3) := by decide +kernel
theorem dX4_moveFor_46 : decode cX4_moveFor 46 = .ok (.iconst (-1), 1) := by decide +kernel
theorem dX4_moveFor_47 : decode cX4_moveFor 47 = .ok (.ireturn, 1) := by decide +kernel
theorem dX4_moveFor_48 : decode cX4_moveFor 48 = .ok (.aload_n 0, 1) := by decide +kernel
theorem dX4_moveFor_49 : decode cX4_moveFor 49 = .ok (.iload_n 1, 1) := by decide +kernel
theorem dX4_moveFor_50 : decode cX4_moveFor 50 = .ok (.iload_n 2, 1) := by decide +kernel
theorem dX4_moveFor_51 : decode cX4_moveFor 51 = .ok (.iconst 0, 1) := by decide +kernel
theorem dX4_moveFor_52 : decode cX4_moveFor 52 = .ok (.invokevirtual 89, 3) := by decide +kernel
theorem dX4_moveFor_55 : decode cX4_moveFor 55 = .ok (.aload_n 0, 1) := by decide +kernel
theorem dX4_moveFor_56 : decode cX4_moveFor 56 = .ok (.iload_n 1, 1) := by decide +kernel
theorem dX4_moveFor_57 : decode cX4_moveFor 57 = .ok (.iload_n 2, 1) := by decide +kernel
theorem dX4_moveFor_58 : decode cX4_moveFor 58 = .ok (.iconst 1, 1) := by decide +kernel
theorem dX4_moveFor_59 : decode cX4_moveFor 59 = .ok (.invokevirtual 86, 3) := by decide +kernel
theorem dX4_moveFor_62 : decode cX4_moveFor 62 = .ok (.if_icmp .lt 7, 3) := by decide +kernel
theorem dX4_moveFor_65 : decode cX4_moveFor 65 = .ok (.iconst 1, 1) := by decide +kernel
theorem dX4_moveFor_66 : decode cX4_moveFor 66 = .ok (.goto 4, 3) := by decide +kernel
theorem dX4_moveFor_69 : decode cX4_moveFor 69 = .ok (.iconst 0, 1) := by decide +kernel
theorem dX4_moveFor_70 : decode cX4_moveFor 70 = .ok (.ireturn, 1) := by decide +kernel
theorem mv_X4_moveFor : MV yX4_moveFor RX4 cX4_moveFor 3 (some .int) 2 := ⟨tb_1125, tb_1123, tb_1124, tb_13, by decide +kernel, by decide +kernel, by decide +kernel⟩
def f_X4_moveFor (fu : Nat) (f_sizes : Nat → Int32) (f_dangers : Int32) (a_courage : Nat → Int32) (a_weight : Nat → Int32) (a_medals : Nat → Int32) (a_liked : Nat → Int32) (a_votes : Nat → Int32) (a_count : Int32) (a_living : Int32) (a_pride : Int32) (x1 : Int32) (x2 : Int32) : Option (Int32 × (Nat → Int32) × (Nat → Int32)) := (if f_dangers = 0 then some ((-1), a_medals, a_votes) else (f_X0_isMan fu a_count x1).bind fun z_13 => (if z_13 = 0 then some ((-1), a_medals, a_votes) else (f_X0_isMan fu a_count x2).bind fun z_15 => (if z_15 = 0 then some ((-1), a_medals, a_votes) else (rdI f_sizes 4 0).bind fun y_17 => (f_X0_stands fu a_courage a_medals a_count a_pride x1 y_17).bind fun z_18 => (if z_18 = 0 then some ((-1), a_medals, a_votes) else (f_X4_valueIfStood_C fu f_sizes f_dangers a_courage a_weight a_medals a_liked a_votes a_count a_living a_pride x1 x2 0).bind fun z_20 => (f_X4_valueFrom fu 6 f_sizes f_dangers a_courage a_weight z_20.2.1 a_liked z_20.2.2 a_count a_living a_pride x1 x2 1).bind fun z_21 => (if z_20.1 < z_21.1 then some (0, z_21.2.1, z_21.2.2) else some (1, z_21.2.1, z_21.2.2))))))
abbrev rm_X4_moveFor : Room := { frames := 21, cells := 0, slots := 0, locals := 532 }
set_option maxHeartbeats 4000000 in
set_option maxRecDepth 100000 in
theorem c_X4_moveFor (l : Launch) (D : va_G) (cy : Nat → ClassId) (fu : Nat) (A_f : Nat → Nat) (f_sizes : Nat → Int32) (f_dangers : Int32) (A_a : Nat → Nat) (a_name : Nat → Int64) (a_courage : Nat → Int32) (a_weight : Nat → Int32) (a_medals : Nat → Int32) (a_stood : Nat → Int32) (a_fled : Nat → Int32) (a_liked : Nat → Int32) (a_votes : Nat → Int32) (a_count : Int32) (a_living : Int32) (a_pride : Int32) (a_quota : Int32) (a_melted : Int32) (a_lost : Int32) (x1 : Int32) (x2 : Int32) (res : Int32 × (Nat → Int32) × (Nat → Int32)) (h : f_X4_moveFor fu f_sizes f_dangers a_courage a_weight a_medals a_liked a_votes a_count a_living a_pride x1 x2 = some res) (A : Nat → Prop) (hA : A = adr [bl_X4 cy A_f (A_a 0) f_sizes f_dangers, bl_X0 cy A_a a_name a_courage a_weight a_medals a_stood a_fled a_liked a_votes a_count a_living a_pride a_quota a_melted a_lost]) (W1 : List va_W) (hW1 : W1 = [bl_X4 cy A_f (A_a 0) f_sizes f_dangers, bl_X0 cy A_a a_name a_courage a_weight res.2.1 a_stood a_fled a_liked res.2.2 a_count a_living a_pride a_quota a_melted a_lost]) : Met l yX4_moveFor (WW yX4_moveFor cX4_moveFor 3 (some .int)) rm_X4_moveFor (Ed D cy [.ref (A_f 0), .int x1, .int x2] [bl_X4 cy A_f (A_a 0) f_sizes f_dangers, bl_X0 cy A_a a_name a_courage a_weight a_medals a_stood a_fled a_liked a_votes a_count a_living a_pride a_quota a_melted a_lost]) (Qei D res.1 A W1) 0 0 A := by
  refine Met.ofW (cc := cX4_moveFor) (maxL := 3) (ret := (some .int)) (by decide) rfl ?_
  intro p e s m args below meth c s₁ B hml hv
  obtain ⟨hargs, hP, hX, hD0⟩ := hv
  have hx := B.exec
  have hb := B.bytes
  have hr := B.returns
  have ht : ∀ w ∈ lw_gd, w.before args s = true := fun w hw => atoms_spec (ws := WW yX4_moveFor cX4_moveFor 3 (some .int)) B.pre w (List.mem_cons_of_mem _ hw)
  have hown : s.vm.findClass RX4 = some m.cls := findClass_of_methodNamed B.named
  have hlocks := B.notSynchronized
  have hP : PD D A [bl_X4 cy A_f (A_a 0) f_sizes f_dangers, bl_X0 cy A_a a_name a_courage a_weight a_medals a_stood a_fled a_liked a_votes a_count a_living a_pride a_quota a_melted a_lost] s.heap := ⟨hP, by rw [hA]; exact hD0.own⟩
  have hS : va_S A s.heap s.heap [] := va_S.rf
  obtain ⟨ls, hl, hent⟩ := ent (m := m) (n := 3) hargs (Nat.le_of_ble_eq_true rfl) (lv := [(0, .ref (A_f 0)), (1, .int x1), (2, .int x2)]) rfl
  rw [hent]
  clear hent
  unfold f_X4_moveFor at h
  refine lv_aload_n hx hb dX4_moveFor_0 rfl (lv_at hl 0 rfl) ?_
  refine xget (i := 0) (j := 0) (k := 2) (T := TX4) hx hb ht tb_iX4 hown hX hP.1 rfl rfl rfl (by decide) tb_370 rfl dX4_moveFor_1 ?_
  refine lv_if_eq (tgt := 46) hx hb dX4_moveFor_4 (by decide) (fun c_12 => ?_) (fun c_12 => ?_)
  · have h := it c_12 h
    refine lv_iconst (v := (-1)) hx hb dX4_moveFor_46 (by decide) ?_
    cases h
    subst hW1
    exact W.iret hx hb hr (fun _ ht9 _ => ⟨⟨_, (), rfl, rfl, hPt ht9 hP.1⟩, hS.F ht9⟩) hS.2.2 dX4_moveFor_47
  · have h := ie c_12 h
    refine lv_aload_n hx hb dX4_moveFor_7 rfl (lv_at hl 0 rfl) ?_
    refine xget (i := 0) (j := 0) (k := 0) (T := TX4) hx hb ht tb_iX4 hown hX hP.1 rfl rfl rfl (by decide) tb_368 rfl dX4_moveFor_8 ?_
    refine lv_iload_n hx hb dX4_moveFor_11 rfl (lv_at hl 1 rfl) ?_
    obtain ⟨z_13, e_z_13, h⟩ := bi h
    refine roVi (rest := []) ⟨hx, hb, hml, hown, ht⟩ (c_X0_isMan l D cy fu A_a a_name a_courage a_weight a_medals a_stood a_fled a_liked a_votes a_count a_living a_pride a_quota a_melted a_lost x1 z_13 e_z_13) (cV ht mv_X0_isMan tb_1003 rfl rfl ⟨Nat.le_of_ble_eq_true rfl, Nat.le_of_ble_eq_true rfl⟩) (P_sub hP.1 [1] rfl) hX rfl rfl rfl hl.1 rfl (Nat.le_of_ble_eq_true rfl) dX4_moveFor_12 ⟨Nat.le_of_ble_eq_true rfl, Nat.le_of_ble_eq_true rfl⟩ ?_
    refine lv_if_eq (tgt := 46) hx hb dX4_moveFor_15 (by decide) (fun c_14 => ?_) (fun c_14 => ?_)
    · have h := it c_14 h
      refine lv_iconst (v := (-1)) hx hb dX4_moveFor_46 (by decide) ?_
      cases h
      subst hW1
      exact W.iret hx hb hr (fun _ ht9 _ => ⟨⟨_, (), rfl, rfl, hPt ht9 hP.1⟩, hS.F ht9⟩) hS.2.2 dX4_moveFor_47
    · have h := ie c_14 h
      refine lv_aload_n hx hb dX4_moveFor_18 rfl (lv_at hl 0 rfl) ?_
      refine xget (i := 0) (j := 0) (k := 0) (T := TX4) hx hb ht tb_iX4 hown hX hP.1 rfl rfl rfl (by decide) tb_368 rfl dX4_moveFor_19 ?_
      refine lv_iload_n hx hb dX4_moveFor_22 rfl (lv_at hl 2 rfl) ?_
      obtain ⟨z_15, e_z_15, h⟩ := bi h
      refine roVi (rest := []) ⟨hx, hb, hml, hown, ht⟩ (c_X0_isMan l D cy fu A_a a_name a_courage a_weight a_medals a_stood a_fled a_liked a_votes a_count a_living a_pride a_quota a_melted a_lost x2 z_15 e_z_15) (cV ht mv_X0_isMan tb_1003 rfl rfl ⟨Nat.le_of_ble_eq_true rfl, Nat.le_of_ble_eq_true rfl⟩) (P_sub hP.1 [1] rfl) hX rfl rfl rfl hl.1 rfl (Nat.le_of_ble_eq_true rfl) dX4_moveFor_23 ⟨Nat.le_of_ble_eq_true rfl, Nat.le_of_ble_eq_true rfl⟩ ?_
      refine lv_if_eq (tgt := 46) hx hb dX4_moveFor_26 (by decide) (fun c_16 => ?_) (fun c_16 => ?_)
      · have h := it c_16 h
        refine lv_iconst (v := (-1)) hx hb dX4_moveFor_46 (by decide) ?_
        cases h
        subst hW1
        exact W.iret hx hb hr (fun _ ht9 _ => ⟨⟨_, (), rfl, rfl, hPt ht9 hP.1⟩, hS.F ht9⟩) hS.2.2 dX4_moveFor_47
      · have h := ie c_16 h
        refine lv_aload_n hx hb dX4_moveFor_29 rfl (lv_at hl 0 rfl) ?_
        refine xget (i := 0) (j := 0) (k := 0) (T := TX4) hx hb ht tb_iX4 hown hX hP.1 rfl rfl rfl (by decide) tb_368 rfl dX4_moveFor_30 ?_
        refine lv_iload_n hx hb dX4_moveFor_33 rfl (lv_at hl 1 rfl) ?_
        refine lv_aload_n hx hb dX4_moveFor_34 rfl (lv_at hl 0 rfl) ?_
        refine xget (i := 0) (j := 0) (k := 1) (T := TX4) hx hb ht tb_iX4 hown hX hP.1 rfl rfl rfl (by decide) tb_369 rfl dX4_moveFor_35 ?_
        refine lv_iconst (v := 0) hx hb dX4_moveFor_38 (by decide) ?_
        obtain ⟨y_17, e_y_17, h⟩ := bi h
        refine xiald (i0 := 0) (j0 := 1) hx hb hX hP.1 rfl rfl e_y_17 dX4_moveFor_39 ?_
        obtain ⟨z_18, e_z_18, h⟩ := bi h
        refine roVi (rest := []) ⟨hx, hb, hml, hown, ht⟩ (c_X0_stands l D cy fu A_a a_name a_courage a_weight a_medals a_stood a_fled a_liked a_votes a_count a_living a_pride a_quota a_melted a_lost x1 y_17 z_18 e_z_18) (cV ht mv_X0_stands tb_1034 rfl rfl ⟨Nat.le_of_ble_eq_true rfl, Nat.le_of_ble_eq_true rfl⟩) (P_sub hP.1 [1] rfl) hX rfl rfl rfl hl.1 rfl (Nat.le_of_ble_eq_true rfl) dX4_moveFor_40 ⟨Nat.le_of_ble_eq_true rfl, Nat.le_of_ble_eq_true rfl⟩ ?_
        refine lv_if_ne (tgt := 48) hx hb dX4_moveFor_43 (by decide) (fun c_19 => ?_) (fun c_19 => ?_)
        · have h := ie c_19 h
          refine lv_aload_n hx hb dX4_moveFor_48 rfl (lv_at hl 0 rfl) ?_
          refine lv_iload_n hx hb dX4_moveFor_49 rfl (lv_at hl 1 rfl) ?_
          refine lv_iload_n hx hb dX4_moveFor_50 rfl (lv_at hl 2 rfl) ?_
          refine lv_iconst (v := 0) hx hb dX4_moveFor_51 (by decide) ?_
          obtain ⟨z_20, e_z_20, h⟩ := bi h
          refine efVi (rest := []) ⟨hx, hb, hml, hown, ht⟩ (c_X4_valueIfStood_C l D cy fu A_f f_sizes f_dangers A_a a_name a_courage a_weight a_medals a_stood a_fled a_liked a_votes a_count a_living a_pride a_quota a_melted a_lost x1 x2 0 z_20 e_z_20 _ rfl _ rfl) (cV ht mv_X4_valueIfStood tb_1114 rfl rfl ⟨Nat.le_of_ble_eq_true rfl, Nat.le_of_ble_eq_true rfl⟩) hP hS hX [0, 1] rfl rfl rfl rfl rfl rfl hl.1 rfl (Nat.le_of_ble_eq_true rfl) dX4_moveFor_52 ⟨Nat.le_of_ble_eq_true rfl, Nat.le_of_ble_eq_true rfl⟩ (fun H locs hP hS => ?_)
          have hP : PD D A [bl_X4 cy A_f (A_a 0) f_sizes f_dangers, bl_X0 cy A_a a_name a_courage a_weight z_20.2.1 a_stood a_fled a_liked z_20.2.2 a_count a_living a_pride a_quota a_melted a_lost] H := hP
          refine lv_aload_n hx hb dX4_moveFor_55 rfl (lv_at hl 0 rfl) ?_
          refine lv_iload_n hx hb dX4_moveFor_56 rfl (lv_at hl 1 rfl) ?_
          refine lv_iload_n hx hb dX4_moveFor_57 rfl (lv_at hl 2 rfl) ?_
          refine lv_iconst (v := 1) hx hb dX4_moveFor_58 (by decide) ?_
          obtain ⟨z_21, e_z_21, h⟩ := bi h
          refine efVi (rest := [.int z_20.1]) ⟨hx, hb, hml, hown, ht⟩ (c_X4_valueFrom l D cy fu 6 A_f f_sizes f_dangers A_a a_name a_courage a_weight z_20.2.1 a_stood a_fled a_liked z_20.2.2 a_count a_living a_pride a_quota a_melted a_lost x1 x2 1 z_21 e_z_21 _ rfl _ rfl) (cV ht mv_X4_valueFrom tb_1110 rfl rfl ⟨Nat.le_of_ble_eq_true rfl, Nat.le_of_ble_eq_true rfl⟩) hP hS hX [0, 1] rfl rfl rfl rfl rfl rfl hl.1 rfl (Nat.le_of_ble_eq_true rfl) dX4_moveFor_59 ⟨Nat.le_of_ble_eq_true rfl, Nat.le_of_ble_eq_true rfl⟩ (fun H locs hP hS => ?_)
          have hP : PD D A [bl_X4 cy A_f (A_a 0) f_sizes f_dangers, bl_X0 cy A_a a_name a_courage a_weight z_21.2.1 a_stood a_fled a_liked z_21.2.2 a_count a_living a_pride a_quota a_melted a_lost] H := hP
          refine lv_icmp_lt (tgt := 69) hx hb dX4_moveFor_62 (by decide) (fun c_22 => ?_) (fun c_22 => ?_)
          · have h := it c_22 h
            refine lv_iconst (v := 0) hx hb dX4_moveFor_69 (by decide) ?_
            cases h
            subst hW1
            exact W.iret hx hb hr (fun _ ht9 _ => ⟨⟨_, (), rfl, rfl, hPt ht9 hP.1⟩, hS.F ht9⟩) hS.2.2 dX4_moveFor_70
          · have h := ie c_22 h
            refine lv_iconst (v := 1) hx hb dX4_moveFor_65 (by decide) ?_
            refine lv_goto (tgt := 70) hx hb dX4_moveFor_66 (by decide) ?_
            cases h
            subst hW1
            exact W.iret hx hb hr (fun _ ht9 _ => ⟨⟨_, (), rfl, rfl, hPt ht9 hP.1⟩, hS.F ht9⟩) hS.2.2 dX4_moveFor_70
        · have h := it c_19 h
          refine lv_iconst (v := (-1)) hx hb dX4_moveFor_46 (by decide) ?_
          cases h
          subst hW1
          exact W.iret hx hb hr (fun _ ht9 _ => ⟨⟨_, (), rfl, rfl, hPt ht9 hP.1⟩, hS.F ht9⟩) hS.2.2 dX4_moveFor_47
theorem dX11_moveOf_0 : decode cX11_moveOf 0 = .ok (.aload_n 0, 1) := by decide +kernel
theorem dX11_moveOf_1 : decode cX11_moveOf 1 = .ok (.iload_n 3, 1) := by decide +kernel
theorem dX11_moveOf_2 : decode cX11_moveOf 2 = .ok (.invokevirtual 111, 3) := by decide +kernel
theorem dX11_moveOf_5 : decode cX11_moveOf 5 = .ok (.astore 5, 2) := by decide +kernel
theorem dX11_moveOf_7 : decode cX11_moveOf 7 = .ok (.aload_n 0, 1) := by decide +kernel
theorem dX11_moveOf_8 : decode cX11_moveOf 8 = .ok (.iload_n 1, 1) := by decide +kernel
theorem dX11_moveOf_9 : decode cX11_moveOf 9 = .ok (.iload_n 2, 1) := by decide +kernel
theorem dX11_moveOf_10 : decode cX11_moveOf 10 = .ok (.aload 5, 2) := by decide +kernel
theorem dX11_moveOf_12 : decode cX11_moveOf 12 = .ok (.iload 4, 2) := by decide +kernel
theorem dX11_moveOf_14 : decode cX11_moveOf 14 = .ok (.invokevirtual 379, 3) := by decide +kernel
theorem dX11_moveOf_17 : decode cX11_moveOf 17 = .ok (.istore 6, 2) := by decide +kernel
theorem dX11_moveOf_19 : decode cX11_moveOf 19 = .ok (.iload 6, 2) := by decide +kernel
theorem dX11_moveOf_21 : decode cX11_moveOf 21 = .ok (.iconst 1, 1) := by decide +kernel
theorem dX11_moveOf_22 : decode cX11_moveOf 22 = .ok (.if_icmp .eq 8, 3) := by decide +kernel
theorem dX11_moveOf_25 : decode cX11_moveOf 25 = .ok (.iload 4, 2) := by decide +kernel
theorem dX11_moveOf_27 : decode cX11_moveOf 27 = .ok (.ifCond .ne 9, 3) := by decide +kernel
theorem dX11_moveOf_30 : decode cX11_moveOf 30 = .ok (.aload_n 0, 1) := by decide +kernel
theorem dX11_moveOf_31 : decode cX11_moveOf 31 = .ok (.iconst 1, 1) := by decide +kernel
theorem dX11_moveOf_32 : decode cX11_moveOf 32 = .ok (.invokevirtual 143, 3) := by decide +kernel
theorem dX11_moveOf_35 : decode cX11_moveOf 35 = .ok (.ireturn, 1) := by decide +kernel
theorem dX11_moveOf_36 : decode cX11_moveOf 36 = .ok (.iload 6, 2) := by decide +kernel
theorem dX11_moveOf_38 : decode cX11_moveOf 38 = .ok (.ifCond .eq 10, 3) := by decide +kernel
theorem dX11_moveOf_41 : decode cX11_moveOf 41 = .ok (.aload_n 0, 1) := by decide +kernel
theorem dX11_moveOf_42 : decode cX11_moveOf 42 = .ok (.iload 6, 2) := by decide +kernel
theorem dX11_moveOf_44 : decode cX11_moveOf 44 = .ok (.invokevirtual 143, 3) := by decide +kernel
theorem dX11_moveOf_47 : decode cX11_moveOf 47 = .ok (.ireturn, 1) := by decide +kernel
theorem dX11_moveOf_48 : decode cX11_moveOf 48 = .ok (.aload_n 0, 1) := by decide +kernel
theorem dX11_moveOf_49 : decode cX11_moveOf 49 = .ok (.getfield 97, 3) := by decide +kernel
theorem dX11_moveOf_52 : decode cX11_moveOf 52 = .ok (.aload_n 0, 1) := by decide +kernel
theorem dX11_moveOf_53 : decode cX11_moveOf 53 = .ok (.getfield 29, 3) := by decide +kernel
theorem dX11_moveOf_56 : decode cX11_moveOf 56 = .ok (.aload 5, 2) := by decide +kernel
theorem dX11_moveOf_58 : decode cX11_moveOf 58 = .ok (.iload 4, 2) := by decide +kernel
theorem dX11_moveOf_60 : decode cX11_moveOf 60 = .ok (.invokevirtual 342, 3) := by decide +kernel
theorem dX11_moveOf_63 : decode cX11_moveOf 63 = .ok (.aload_n 0, 1) := by decide +kernel
theorem dX11_moveOf_64 : decode cX11_moveOf 64 = .ok (.getfield 97, 3) := by decide +kernel
theorem dX11_moveOf_67 : decode cX11_moveOf 67 = .ok (.iload_n 1, 1) := by decide +kernel
theorem dX11_moveOf_68 : decode cX11_moveOf 68 = .ok (.iload_n 2, 1) := by decide +kernel
theorem dX11_moveOf_69 : decode cX11_moveOf 69 = .ok (.invokevirtual 386, 3) := by decide +kernel
theorem dX11_moveOf_72 : decode cX11_moveOf 72 = .ok (.istore 7, 2) := by decide +kernel
theorem dX11_moveOf_74 : decode cX11_moveOf 74 = .ok (.iload 7, 2) := by decide +kernel
theorem dX11_moveOf_76 : decode cX11_moveOf 76 = .ok (.iconst (-1), 1) := by decide +kernel
theorem dX11_moveOf_77 : decode cX11_moveOf 77 = .ok (.if_icmp .ne 12, 3) := by decide +kernel
theorem dX11_moveOf_80 : decode cX11_moveOf 80 = .ok (.aload_n 0, 1) := by decide +kernel
theorem dX11_moveOf_81 : decode cX11_moveOf 81 = .ok (.bipush 6, 2) := by decide +kernel
theorem dX11_moveOf_83 : decode cX11_moveOf 83 = .ok (.invokevirtual 143, 3) := by decide +kernel
theorem dX11_moveOf_86 : decode cX11_moveOf 86 = .ok (.goto 9, 3) := by decide +kernel
theorem dX11_moveOf_89 : decode cX11_moveOf 89 = .ok (.aload_n 0, 1) := by decide +kernel
theorem dX11_moveOf_90 : decode cX11_moveOf 90 = .ok (.iload 7, 2) := by decide +kernel
theorem dX11_moveOf_92 : decode cX11_moveOf 92 = .ok (.invokevirtual 193, 3) := by decide +kernel
theorem dX11_moveOf_95 : decode cX11_moveOf 95 = .ok (.ireturn, 1) := by decide +kernel
theorem mv_X11_moveOf : MV yX11_moveOf RX11 cX11_moveOf 8 (some .int) 4 := ⟨tb_1121, tb_1119, tb_1120, tb_1, by decide +kernel, by decide +kernel, by decide +kernel⟩
def f_X11_moveOf (fu : Nat) (b_latestStatus : Int32) (y0_row : Nat → Int64) (y0_missing : Int32) (y0_many : Int32) (y1_row : Nat → Int64) (y1_missing : Int32) (y1_many : Int32) (y2_row : Nat → Int64) (y2_missing : Int32) (y2_many : Int32) (y3_row : Nat → Int64) (y3_missing : Int32) (y3_many : Int32) (a_name : Nat → Int64) (a_courage : Nat → Int32) (a_weight : Nat → Int32) (a_medals : Nat → Int32) (a_stood : Nat → Int32) (a_fled : Nat → Int32) (a_liked : Nat → Int32) (a_count : Int32) (a_living : Int32) (a_pride : Int32) (a_quota : Int32) (a_melted : Int32) (a_lost : Int32) (f_sizes : Nat → Int32) (f_dangers : Int32) (n_name : Nat → Int64) (n_courage : Nat → Int32) (n_weight : Nat → Int32) (n_medals : Nat → Int32) (n_stood : Nat → Int32) (n_fled : Nat → Int32) (n_liked : Nat → Int32) (n_votes : Nat → Int32) (n_count : Int32) (n_living : Int32) (n_pride : Int32) (n_quota : Int32) (n_melted : Int32) (n_lost : Int32) (x1 : Int32) (x2 : Int32) (x3 : Int32) (x4 : Int32) : Option (Int32 × Int32 × (Nat → Int32) × Int32 × (Nat → Int64) × (Nat → Int32) × (Nat → Int32) × (Nat → Int32) × (Nat → Int32) × (Nat → Int32) × (Nat → Int32) × (Nat → Int32) × Int32 × Int32 × Int32 × Int32 × Int32 × Int32) := (if x3 = 0 then (f_X11_gameRefusal fu y0_row y0_missing y0_many a_count a_living x1 x2 x4).bind fun z_66 => (if z_66 = 1 then (f_X11_refuse fu b_latestStatus 1).bind fun z_68 => some (z_68.1, z_68.2, f_sizes, f_dangers, n_name, n_courage, n_weight, n_medals, n_stood, n_fled, n_liked, n_votes, n_count, n_living, n_pride, n_quota, n_melted, n_lost) else (if x4 = 0 then (f_X11_refuse fu b_latestStatus 1).bind fun z_77 => some (z_77.1, z_77.2, f_sizes, f_dangers, n_name, n_courage, n_weight, n_medals, n_stood, n_fled, n_liked, n_votes, n_count, n_living, n_pride, n_quota, n_melted, n_lost) else (if z_66 = 0 then (f_X4_look fu f_sizes f_dangers n_name n_courage n_weight n_medals n_stood n_fled n_liked n_count n_living n_pride n_quota n_melted n_lost a_name a_courage a_weight a_medals a_stood a_fled a_liked a_count a_living a_pride a_quota a_melted a_lost y0_row y0_many x4).bind fun z_71 => (f_X4_moveFor fu z_71.1 z_71.2.1 z_71.2.2.2.1 z_71.2.2.2.2.1 z_71.2.2.2.2.2.1 z_71.2.2.2.2.2.2.2.2.1 n_votes z_71.2.2.2.2.2.2.2.2.2.1 z_71.2.2.2.2.2.2.2.2.2.2.1 z_71.2.2.2.2.2.2.2.2.2.2.2.1 x1 x2).bind fun z_72 => (if z_72.1 = (-1) then (f_X11_refuse fu b_latestStatus 6).bind fun z_75 => some (z_75.1, z_75.2, z_71.1, z_71.2.1, z_71.2.2.1, z_71.2.2.2.1, z_71.2.2.2.2.1, z_72.2.1, z_71.2.2.2.2.2.2.1, z_71.2.2.2.2.2.2.2.1, z_71.2.2.2.2.2.2.2.2.1, z_72.2.2, z_71.2.2.2.2.2.2.2.2.2.1, z_71.2.2.2.2.2.2.2.2.2.2.1, z_71.2.2.2.2.2.2.2.2.2.2.2.1, z_71.2.2.2.2.2.2.2.2.2.2.2.2.1, z_71.2.2.2.2.2.2.2.2.2.2.2.2.2.1, z_71.2.2.2.2.2.2.2.2.2.2.2.2.2.2) else (f_X11_answer fu b_latestStatus z_72.1).bind fun z_74 => some (z_74.1, z_74.2, z_71.1, z_71.2.1, z_71.2.2.1, z_71.2.2.2.1, z_71.2.2.2.2.1, z_72.2.1, z_71.2.2.2.2.2.2.1, z_71.2.2.2.2.2.2.2.1, z_71.2.2.2.2.2.2.2.2.1, z_72.2.2, z_71.2.2.2.2.2.2.2.2.2.1, z_71.2.2.2.2.2.2.2.2.2.2.1, z_71.2.2.2.2.2.2.2.2.2.2.2.1, z_71.2.2.2.2.2.2.2.2.2.2.2.2.1, z_71.2.2.2.2.2.2.2.2.2.2.2.2.2.1, z_71.2.2.2.2.2.2.2.2.2.2.2.2.2.2)) else (f_X11_refuse fu b_latestStatus z_66).bind fun z_76 => some (z_76.1, z_76.2, f_sizes, f_dangers, n_name, n_courage, n_weight, n_medals, n_stood, n_fled, n_liked, n_votes, n_count, n_living, n_pride, n_quota, n_melted, n_lost)))) else (if x3 = 1 then (f_X11_gameRefusal fu y1_row y1_missing y1_many a_count a_living x1 x2 x4).bind fun z_79 => (if z_79 = 1 then (f_X11_refuse fu b_latestStatus 1).bind fun z_81 => some (z_81.1, z_81.2, f_sizes, f_dangers, n_name, n_courage, n_weight, n_medals, n_stood, n_fled, n_liked, n_votes, n_count, n_living, n_pride, n_quota, n_melted, n_lost) else (if x4 = 0 then (f_X11_refuse fu b_latestStatus 1).bind fun z_90 => some (z_90.1, z_90.2, f_sizes, f_dangers, n_name, n_courage, n_weight, n_medals, n_stood, n_fled, n_liked, n_votes, n_count, n_living, n_pride, n_quota, n_melted, n_lost) else (if z_79 = 0 then (f_X4_look fu f_sizes f_dangers n_name n_courage n_weight n_medals n_stood n_fled n_liked n_count n_living n_pride n_quota n_melted n_lost a_name a_courage a_weight a_medals a_stood a_fled a_liked a_count a_living a_pride a_quota a_melted a_lost y1_row y1_many x4).bind fun z_84 => (f_X4_moveFor fu z_84.1 z_84.2.1 z_84.2.2.2.1 z_84.2.2.2.2.1 z_84.2.2.2.2.2.1 z_84.2.2.2.2.2.2.2.2.1 n_votes z_84.2.2.2.2.2.2.2.2.2.1 z_84.2.2.2.2.2.2.2.2.2.2.1 z_84.2.2.2.2.2.2.2.2.2.2.2.1 x1 x2).bind fun z_85 => (if z_85.1 = (-1) then (f_X11_refuse fu b_latestStatus 6).bind fun z_88 => some (z_88.1, z_88.2, z_84.1, z_84.2.1, z_84.2.2.1, z_84.2.2.2.1, z_84.2.2.2.2.1, z_85.2.1, z_84.2.2.2.2.2.2.1, z_84.2.2.2.2.2.2.2.1, z_84.2.2.2.2.2.2.2.2.1, z_85.2.2, z_84.2.2.2.2.2.2.2.2.2.1, z_84.2.2.2.2.2.2.2.2.2.2.1, z_84.2.2.2.2.2.2.2.2.2.2.2.1, z_84.2.2.2.2.2.2.2.2.2.2.2.2.1, z_84.2.2.2.2.2.2.2.2.2.2.2.2.2.1, z_84.2.2.2.2.2.2.2.2.2.2.2.2.2.2) else (f_X11_answer fu b_latestStatus z_85.1).bind fun z_87 => some (z_87.1, z_87.2, z_84.1, z_84.2.1, z_84.2.2.1, z_84.2.2.2.1, z_84.2.2.2.2.1, z_85.2.1, z_84.2.2.2.2.2.2.1, z_84.2.2.2.2.2.2.2.1, z_84.2.2.2.2.2.2.2.2.1, z_85.2.2, z_84.2.2.2.2.2.2.2.2.2.1, z_84.2.2.2.2.2.2.2.2.2.2.1, z_84.2.2.2.2.2.2.2.2.2.2.2.1, z_84.2.2.2.2.2.2.2.2.2.2.2.2.1, z_84.2.2.2.2.2.2.2.2.2.2.2.2.2.1, z_84.2.2.2.2.2.2.2.2.2.2.2.2.2.2)) else (f_X11_refuse fu b_latestStatus z_79).bind fun z_89 => some (z_89.1, z_89.2, f_sizes, f_dangers, n_name, n_courage, n_weight, n_medals, n_stood, n_fled, n_liked, n_votes, n_count, n_living, n_pride, n_quota, n_melted, n_lost)))) else (if x3 = 2 then (f_X11_gameRefusal fu y2_row y2_missing y2_many a_count a_living x1 x2 x4).bind fun z_92 => (if z_92 = 1 then (f_X11_refuse fu b_latestStatus 1).bind fun z_94 => some (z_94.1, z_94.2, f_sizes, f_dangers, n_name, n_courage, n_weight, n_medals, n_stood, n_fled, n_liked, n_votes, n_count, n_living, n_pride, n_quota, n_melted, n_lost) else (if x4 = 0 then (f_X11_refuse fu b_latestStatus 1).bind fun z_103 => some (z_103.1, z_103.2, f_sizes, f_dangers, n_name, n_courage, n_weight, n_medals, n_stood, n_fled, n_liked, n_votes, n_count, n_living, n_pride, n_quota, n_melted, n_lost) else (if z_92 = 0 then (f_X4_look fu f_sizes f_dangers n_name n_courage n_weight n_medals n_stood n_fled n_liked n_count n_living n_pride n_quota n_melted n_lost a_name a_courage a_weight a_medals a_stood a_fled a_liked a_count a_living a_pride a_quota a_melted a_lost y2_row y2_many x4).bind fun z_97 => (f_X4_moveFor fu z_97.1 z_97.2.1 z_97.2.2.2.1 z_97.2.2.2.2.1 z_97.2.2.2.2.2.1 z_97.2.2.2.2.2.2.2.2.1 n_votes z_97.2.2.2.2.2.2.2.2.2.1 z_97.2.2.2.2.2.2.2.2.2.2.1 z_97.2.2.2.2.2.2.2.2.2.2.2.1 x1 x2).bind fun z_98 => (if z_98.1 = (-1) then (f_X11_refuse fu b_latestStatus 6).bind fun z_101 => some (z_101.1, z_101.2, z_97.1, z_97.2.1, z_97.2.2.1, z_97.2.2.2.1, z_97.2.2.2.2.1, z_98.2.1, z_97.2.2.2.2.2.2.1, z_97.2.2.2.2.2.2.2.1, z_97.2.2.2.2.2.2.2.2.1, z_98.2.2, z_97.2.2.2.2.2.2.2.2.2.1, z_97.2.2.2.2.2.2.2.2.2.2.1, z_97.2.2.2.2.2.2.2.2.2.2.2.1, z_97.2.2.2.2.2.2.2.2.2.2.2.2.1, z_97.2.2.2.2.2.2.2.2.2.2.2.2.2.1, z_97.2.2.2.2.2.2.2.2.2.2.2.2.2.2) else (f_X11_answer fu b_latestStatus z_98.1).bind fun z_100 => some (z_100.1, z_100.2, z_97.1, z_97.2.1, z_97.2.2.1, z_97.2.2.2.1, z_97.2.2.2.2.1, z_98.2.1, z_97.2.2.2.2.2.2.1, z_97.2.2.2.2.2.2.2.1, z_97.2.2.2.2.2.2.2.2.1, z_98.2.2, z_97.2.2.2.2.2.2.2.2.2.1, z_97.2.2.2.2.2.2.2.2.2.2.1, z_97.2.2.2.2.2.2.2.2.2.2.2.1, z_97.2.2.2.2.2.2.2.2.2.2.2.2.1, z_97.2.2.2.2.2.2.2.2.2.2.2.2.2.1, z_97.2.2.2.2.2.2.2.2.2.2.2.2.2.2)) else (f_X11_refuse fu b_latestStatus z_92).bind fun z_102 => some (z_102.1, z_102.2, f_sizes, f_dangers, n_name, n_courage, n_weight, n_medals, n_stood, n_fled, n_liked, n_votes, n_count, n_living, n_pride, n_quota, n_melted, n_lost)))) else (if x3 = 3 then (f_X11_gameRefusal fu y3_row y3_missing y3_many a_count a_living x1 x2 x4).bind fun z_105 => (if z_105 = 1 then (f_X11_refuse fu b_latestStatus 1).bind fun z_107 => some (z_107.1, z_107.2, f_sizes, f_dangers, n_name, n_courage, n_weight, n_medals, n_stood, n_fled, n_liked, n_votes, n_count, n_living, n_pride, n_quota, n_melted, n_lost) else (if x4 = 0 then (f_X11_refuse fu b_latestStatus 1).bind fun z_116 => some (z_116.1, z_116.2, f_sizes, f_dangers, n_name, n_courage, n_weight, n_medals, n_stood, n_fled, n_liked, n_votes, n_count, n_living, n_pride, n_quota, n_melted, n_lost) else (if z_105 = 0 then (f_X4_look fu f_sizes f_dangers n_name n_courage n_weight n_medals n_stood n_fled n_liked n_count n_living n_pride n_quota n_melted n_lost a_name a_courage a_weight a_medals a_stood a_fled a_liked a_count a_living a_pride a_quota a_melted a_lost y3_row y3_many x4).bind fun z_110 => (f_X4_moveFor fu z_110.1 z_110.2.1 z_110.2.2.2.1 z_110.2.2.2.2.1 z_110.2.2.2.2.2.1 z_110.2.2.2.2.2.2.2.2.1 n_votes z_110.2.2.2.2.2.2.2.2.2.1 z_110.2.2.2.2.2.2.2.2.2.2.1 z_110.2.2.2.2.2.2.2.2.2.2.2.1 x1 x2).bind fun z_111 => (if z_111.1 = (-1) then (f_X11_refuse fu b_latestStatus 6).bind fun z_114 => some (z_114.1, z_114.2, z_110.1, z_110.2.1, z_110.2.2.1, z_110.2.2.2.1, z_110.2.2.2.2.1, z_111.2.1, z_110.2.2.2.2.2.2.1, z_110.2.2.2.2.2.2.2.1, z_110.2.2.2.2.2.2.2.2.1, z_111.2.2, z_110.2.2.2.2.2.2.2.2.2.1, z_110.2.2.2.2.2.2.2.2.2.2.1, z_110.2.2.2.2.2.2.2.2.2.2.2.1, z_110.2.2.2.2.2.2.2.2.2.2.2.2.1, z_110.2.2.2.2.2.2.2.2.2.2.2.2.2.1, z_110.2.2.2.2.2.2.2.2.2.2.2.2.2.2) else (f_X11_answer fu b_latestStatus z_111.1).bind fun z_113 => some (z_113.1, z_113.2, z_110.1, z_110.2.1, z_110.2.2.1, z_110.2.2.2.1, z_110.2.2.2.2.1, z_111.2.1, z_110.2.2.2.2.2.2.1, z_110.2.2.2.2.2.2.2.1, z_110.2.2.2.2.2.2.2.2.1, z_111.2.2, z_110.2.2.2.2.2.2.2.2.2.1, z_110.2.2.2.2.2.2.2.2.2.2.1, z_110.2.2.2.2.2.2.2.2.2.2.2.1, z_110.2.2.2.2.2.2.2.2.2.2.2.2.1, z_110.2.2.2.2.2.2.2.2.2.2.2.2.2.1, z_110.2.2.2.2.2.2.2.2.2.2.2.2.2.2)) else (f_X11_refuse fu b_latestStatus z_105).bind fun z_115 => some (z_115.1, z_115.2, f_sizes, f_dangers, n_name, n_courage, n_weight, n_medals, n_stood, n_fled, n_liked, n_votes, n_count, n_living, n_pride, n_quota, n_melted, n_lost)))) else (f_X11_gameRefusal_n3 fu a_count x1 x2 x4).bind fun z_117 => (if z_117 = 1 then (f_X11_refuse fu b_latestStatus 1).bind fun z_119 => some (z_119.1, z_119.2, f_sizes, f_dangers, n_name, n_courage, n_weight, n_medals, n_stood, n_fled, n_liked, n_votes, n_count, n_living, n_pride, n_quota, n_melted, n_lost) else (if x4 = 0 then (f_X11_refuse fu b_latestStatus 1).bind fun z_128 => some (z_128.1, z_128.2, f_sizes, f_dangers, n_name, n_courage, n_weight, n_medals, n_stood, n_fled, n_liked, n_votes, n_count, n_living, n_pride, n_quota, n_melted, n_lost) else (if z_117 = 0 then (f_X4_look_n2 fu f_dangers n_name n_courage n_weight n_medals n_stood n_fled n_liked n_count n_living n_pride n_quota n_melted n_lost a_name a_courage a_weight a_medals a_stood a_fled a_liked a_count a_living a_pride a_quota a_melted a_lost x4).bind fun z_122 => (f_X4_moveFor fu f_sizes z_122.1 z_122.2.2.1 z_122.2.2.2.1 z_122.2.2.2.2.1 z_122.2.2.2.2.2.2.2.1 n_votes z_122.2.2.2.2.2.2.2.2.1 z_122.2.2.2.2.2.2.2.2.2.1 z_122.2.2.2.2.2.2.2.2.2.2.1 x1 x2).bind fun z_123 => (if z_123.1 = (-1) then (f_X11_refuse fu b_latestStatus 6).bind fun z_126 => some (z_126.1, z_126.2, f_sizes, z_122.1, z_122.2.1, z_122.2.2.1, z_122.2.2.2.1, z_123.2.1, z_122.2.2.2.2.2.1, z_122.2.2.2.2.2.2.1, z_122.2.2.2.2.2.2.2.1, z_123.2.2, z_122.2.2.2.2.2.2.2.2.1, z_122.2.2.2.2.2.2.2.2.2.1, z_122.2.2.2.2.2.2.2.2.2.2.1, z_122.2.2.2.2.2.2.2.2.2.2.2.1, z_122.2.2.2.2.2.2.2.2.2.2.2.2.1, z_122.2.2.2.2.2.2.2.2.2.2.2.2.2) else (f_X11_answer fu b_latestStatus z_123.1).bind fun z_125 => some (z_125.1, z_125.2, f_sizes, z_122.1, z_122.2.1, z_122.2.2.1, z_122.2.2.2.1, z_123.2.1, z_122.2.2.2.2.2.1, z_122.2.2.2.2.2.2.1, z_122.2.2.2.2.2.2.2.1, z_123.2.2, z_122.2.2.2.2.2.2.2.2.1, z_122.2.2.2.2.2.2.2.2.2.1, z_122.2.2.2.2.2.2.2.2.2.2.1, z_122.2.2.2.2.2.2.2.2.2.2.2.1, z_122.2.2.2.2.2.2.2.2.2.2.2.2.1, z_122.2.2.2.2.2.2.2.2.2.2.2.2.2)) else (f_X11_refuse fu b_latestStatus z_117).bind fun z_127 => some (z_127.1, z_127.2, f_sizes, f_dangers, n_name, n_courage, n_weight, n_medals, n_stood, n_fled, n_liked, n_votes, n_count, n_living, n_pride, n_quota, n_melted, n_lost))))))))
abbrev rm_X11_moveOf : Room := { frames := 22, cells := 0, slots := 0, locals := 554 }
set_option maxHeartbeats 4000000 in
set_option maxRecDepth 100000 in
theorem c_X11_moveOf (l : Launch) (D : va_G) (cy : Nat → ClassId) (fu : Nat) (A_b : Nat → Nat) (r_b_war : Nat) (r_b_draftArmy : Nat) (r_b_draftWar : Nat) (r_b_reader : Nat) (r_b_armyReader : Nat) (r_b_warReader : Nat) (r_b_markedArmies : Nat) (r_b_markedWars : Nat) (r_b_latest : Nat) (r_b_trial : Nat) (r_b_pairs : Nat) (b_latestStatus : Int32) (b_fractionTop : Int64) (b_fractionBottom : Int64) (b_marks : Int32) (A_T : Nat → Nat) (A_y0 : Nat → Nat) (y0_row : Nat → Int64) (y0_missing : Int32) (y0_sort : Int32) (y0_many : Int32) (A_y1 : Nat → Nat) (y1_row : Nat → Int64) (y1_missing : Int32) (y1_sort : Int32) (y1_many : Int32) (A_y2 : Nat → Nat) (y2_row : Nat → Int64) (y2_missing : Int32) (y2_sort : Int32) (y2_many : Int32) (A_y3 : Nat → Nat) (y3_row : Nat → Int64) (y3_missing : Int32) (y3_sort : Int32) (y3_many : Int32) (A_a : Nat → Nat) (a_name : Nat → Int64) (a_courage : Nat → Int32) (a_weight : Nat → Int32) (a_medals : Nat → Int32) (a_stood : Nat → Int32) (a_fled : Nat → Int32) (a_liked : Nat → Int32) (a_votes : Nat → Int32) (a_count : Int32) (a_living : Int32) (a_pride : Int32) (a_quota : Int32) (a_melted : Int32) (a_lost : Int32) (A_f : Nat → Nat) (f_sizes : Nat → Int32) (f_dangers : Int32) (A_n : Nat → Nat) (n_name : Nat → Int64) (n_courage : Nat → Int32) (n_weight : Nat → Int32) (n_medals : Nat → Int32) (n_stood : Nat → Int32) (n_fled : Nat → Int32) (n_liked : Nat → Int32) (n_votes : Nat → Int32) (n_count : Int32) (n_living : Int32) (n_pride : Int32) (n_quota : Int32) (n_melted : Int32) (n_lost : Int32) (x1 : Int32) (x2 : Int32) (x3 : Int32) (x4 : Int32) (res : Int32 × Int32 × (Nat → Int32) × Int32 × (Nat → Int64) × (Nat → Int32) × (Nat → Int32) × (Nat → Int32) × (Nat → Int32) × (Nat → Int32) × (Nat → Int32) × (Nat → Int32) × Int32 × Int32 × Int32 × Int32 × Int32 × Int32) (h : f_X11_moveOf fu b_latestStatus y0_row y0_missing y0_many y1_row y1_missing y1_many y2_row y2_missing y2_many y3_row y3_missing y3_many a_name a_courage a_weight a_medals a_stood a_fled a_liked a_count a_living a_pride a_quota a_melted a_lost f_sizes f_dangers n_name n_courage n_weight n_medals n_stood n_fled n_liked n_votes n_count n_living n_pride n_quota n_melted n_lost x1 x2 x3 x4 = some res) (A : Nat → Prop) (hA : A = adr [bl_X11 cy A_b (A_T 0) (A_a 0) r_b_war r_b_draftArmy r_b_draftWar r_b_reader r_b_armyReader r_b_warReader r_b_markedArmies r_b_markedWars r_b_latest r_b_trial (A_f 0) r_b_pairs b_latestStatus b_fractionTop b_fractionBottom b_marks, [(A_T 0, .inl (cy 4, 4, .inr (.inr (.inr (.inr (trf4 (A_y0 0) (A_y1 0) (A_y2 0) (A_y3 0)))))))], bl_X8 cy A_y0 y0_row y0_missing y0_sort y0_many, bl_X8 cy A_y1 y1_row y1_missing y1_sort y1_many, bl_X8 cy A_y2 y2_row y2_missing y2_sort y2_many, bl_X8 cy A_y3 y3_row y3_missing y3_sort y3_many, bl_X0 cy A_a a_name a_courage a_weight a_medals a_stood a_fled a_liked a_votes a_count a_living a_pride a_quota a_melted a_lost, bl_X4 cy A_f (A_n 0) f_sizes f_dangers, bl_X0 cy A_n n_name n_courage n_weight n_medals n_stood n_fled n_liked n_votes n_count n_living n_pride n_quota n_melted n_lost]) (W1 : List va_W) (hW1 : W1 = [bl_X11 cy A_b (A_T 0) (A_a 0) r_b_war r_b_draftArmy r_b_draftWar r_b_reader r_b_armyReader r_b_warReader r_b_markedArmies r_b_markedWars r_b_latest r_b_trial (A_f 0) r_b_pairs res.2.1 b_fractionTop b_fractionBottom b_marks, [(A_T 0, .inl (cy 4, 4, .inr (.inr (.inr (.inr (trf4 (A_y0 0) (A_y1 0) (A_y2 0) (A_y3 0)))))))], bl_X8 cy A_y0 y0_row y0_missing y0_sort y0_many, bl_X8 cy A_y1 y1_row y1_missing y1_sort y1_many, bl_X8 cy A_y2 y2_row y2_missing y2_sort y2_many, bl_X8 cy A_y3 y3_row y3_missing y3_sort y3_many, bl_X0 cy A_a a_name a_courage a_weight a_medals a_stood a_fled a_liked a_votes a_count a_living a_pride a_quota a_melted a_lost, bl_X4 cy A_f (A_n 0) res.2.2.1 res.2.2.2.1, bl_X0 cy A_n res.2.2.2.2.1 res.2.2.2.2.2.1 res.2.2.2.2.2.2.1 res.2.2.2.2.2.2.2.1 res.2.2.2.2.2.2.2.2.1 res.2.2.2.2.2.2.2.2.2.1 res.2.2.2.2.2.2.2.2.2.2.1 res.2.2.2.2.2.2.2.2.2.2.2.1 res.2.2.2.2.2.2.2.2.2.2.2.2.1 res.2.2.2.2.2.2.2.2.2.2.2.2.2.1 res.2.2.2.2.2.2.2.2.2.2.2.2.2.2.1 res.2.2.2.2.2.2.2.2.2.2.2.2.2.2.2.1 res.2.2.2.2.2.2.2.2.2.2.2.2.2.2.2.2.1 res.2.2.2.2.2.2.2.2.2.2.2.2.2.2.2.2.2]) : Met l yX11_moveOf (WW yX11_moveOf cX11_moveOf 8 (some .int)) rm_X11_moveOf (Ed D cy [.ref (A_b 0), .int x1, .int x2, .int x3, .int x4] [bl_X11 cy A_b (A_T 0) (A_a 0) r_b_war r_b_draftArmy r_b_draftWar r_b_reader r_b_armyReader r_b_warReader r_b_markedArmies r_b_markedWars r_b_latest r_b_trial (A_f 0) r_b_pairs b_latestStatus b_fractionTop b_fractionBottom b_marks, [(A_T 0, .inl (cy 4, 4, .inr (.inr (.inr (.inr (trf4 (A_y0 0) (A_y1 0) (A_y2 0) (A_y3 0)))))))], bl_X8 cy A_y0 y0_row y0_missing y0_sort y0_many, bl_X8 cy A_y1 y1_row y1_missing y1_sort y1_many, bl_X8 cy A_y2 y2_row y2_missing y2_sort y2_many, bl_X8 cy A_y3 y3_row y3_missing y3_sort y3_many, bl_X0 cy A_a a_name a_courage a_weight a_medals a_stood a_fled a_liked a_votes a_count a_living a_pride a_quota a_melted a_lost, bl_X4 cy A_f (A_n 0) f_sizes f_dangers, bl_X0 cy A_n n_name n_courage n_weight n_medals n_stood n_fled n_liked n_votes n_count n_living n_pride n_quota n_melted n_lost]) (Qei D res.1 A W1) 0 0 A := by
  refine Met.ofW (cc := cX11_moveOf) (maxL := 8) (ret := (some .int)) (by decide) rfl ?_
  intro p e s m args below meth c s₁ B hml hv
  obtain ⟨hargs, hP, hX, hD0⟩ := hv
  have hx := B.exec
  have hb := B.bytes
  have hr := B.returns
  have ht : ∀ w ∈ lw_gd, w.before args s = true := fun w hw => atoms_spec (ws := WW yX11_moveOf cX11_moveOf 8 (some .int)) B.pre w (List.mem_cons_of_mem _ hw)
  have hown : s.vm.findClass RX11 = some m.cls := findClass_of_methodNamed B.named
  have hlocks := B.notSynchronized
  have hP : PD D A [bl_X11 cy A_b (A_T 0) (A_a 0) r_b_war r_b_draftArmy r_b_draftWar r_b_reader r_b_armyReader r_b_warReader r_b_markedArmies r_b_markedWars r_b_latest r_b_trial (A_f 0) r_b_pairs b_latestStatus b_fractionTop b_fractionBottom b_marks, [(A_T 0, .inl (cy 4, 4, .inr (.inr (.inr (.inr (trf4 (A_y0 0) (A_y1 0) (A_y2 0) (A_y3 0)))))))], bl_X8 cy A_y0 y0_row y0_missing y0_sort y0_many, bl_X8 cy A_y1 y1_row y1_missing y1_sort y1_many, bl_X8 cy A_y2 y2_row y2_missing y2_sort y2_many, bl_X8 cy A_y3 y3_row y3_missing y3_sort y3_many, bl_X0 cy A_a a_name a_courage a_weight a_medals a_stood a_fled a_liked a_votes a_count a_living a_pride a_quota a_melted a_lost, bl_X4 cy A_f (A_n 0) f_sizes f_dangers, bl_X0 cy A_n n_name n_courage n_weight n_medals n_stood n_fled n_liked n_votes n_count n_living n_pride n_quota n_melted n_lost] s.heap := ⟨hP, by rw [hA]; exact hD0.own⟩
  have hS : va_S A s.heap s.heap [] := va_S.rf
  obtain ⟨ls, hl, hent⟩ := ent (m := m) (n := 8) hargs (Nat.le_of_ble_eq_true rfl) (lv := [(0, .ref (A_b 0)), (1, .int x1), (2, .int x2), (3, .int x3), (4, .int x4)]) rfl
  rw [hent]
  clear hent
  unfold f_X11_moveOf at h
  refine lv_aload_n hx hb dX11_moveOf_0 rfl (lv_at hl 0 rfl) ?_
  refine lv_iload_n hx hb dX11_moveOf_1 rfl (lv_at hl 3 rfl) ?_
  by_cases c_65 : x3 = 0
  · have h := it c_65 h
    refine roVq (rest := []) ⟨hx, hb, hml, hown, ht⟩ (c_X11_trayAt l D cy fu A_b (A_a 0) r_b_war r_b_draftArmy r_b_draftWar r_b_reader r_b_armyReader r_b_warReader r_b_markedArmies r_b_markedWars r_b_latest r_b_trial (A_f 0) r_b_pairs b_latestStatus b_fractionTop b_fractionBottom b_marks A_T (trf4 (A_y0 0) (A_y1 0) (A_y2 0) (A_y3 0)) x3 (some (A_y0 0)) (tray_0 c_65)) (cV ht mv_X11_trayAt tb_500 rfl rfl ⟨Nat.le_of_ble_eq_true rfl, Nat.le_of_ble_eq_true rfl⟩) (P_sub hP.1 [0, 1] rfl) hX rfl rfl rfl hl.1 rfl (Nat.le_of_ble_eq_true rfl) dX11_moveOf_2 ⟨Nat.le_of_ble_eq_true rfl, Nat.le_of_ble_eq_true rfl⟩ ?_
    refine lv_astore (lv' := [(5, .ref (A_y0 0)), (0, .ref (A_b 0)), (1, .int x1), (2, .int x2), (3, .int x3), (4, .int x4)]) hx hb dX11_moveOf_5 hl (by decide) rfl (fun ls hl => ?_)
    refine lv_aload_n hx hb dX11_moveOf_7 rfl (lv_at hl 1 rfl) ?_
    refine lv_iload_n hx hb dX11_moveOf_8 rfl (lv_at hl 2 rfl) ?_
    refine lv_iload_n hx hb dX11_moveOf_9 rfl (lv_at hl 3 rfl) ?_
    refine lv_aload hx hb dX11_moveOf_10 (lv_at hl 0 rfl) ?_
    refine lv_iload hx hb dX11_moveOf_12 (lv_at hl 5 rfl) ?_
    obtain ⟨z_66, e_z_66, h⟩ := bi h
    refine roVi (rest := []) ⟨hx, hb, hml, hown, ht⟩ (c_X11_gameRefusal l D cy fu A_b (A_T 0) r_b_war r_b_draftArmy r_b_draftWar r_b_reader r_b_armyReader r_b_warReader r_b_markedArmies r_b_markedWars r_b_latest r_b_trial (A_f 0) r_b_pairs b_latestStatus b_fractionTop b_fractionBottom b_marks A_y0 y0_row y0_missing y0_sort y0_many A_a a_name a_courage a_weight a_medals a_stood a_fled a_liked a_votes a_count a_living a_pride a_quota a_melted a_lost x1 x2 x4 z_66 e_z_66) (cV ht mv_X11_gameRefusal tb_1102 rfl rfl ⟨Nat.le_of_ble_eq_true rfl, Nat.le_of_ble_eq_true rfl⟩) (P_sub hP.1 [0, 2, 6] rfl) hX rfl rfl rfl hl.1 rfl (Nat.le_of_ble_eq_true rfl) dX11_moveOf_14 ⟨Nat.le_of_ble_eq_true rfl, Nat.le_of_ble_eq_true rfl⟩ ?_
    refine lv_istore (lv' := [(6, .int z_66), (5, .ref (A_y0 0)), (0, .ref (A_b 0)), (1, .int x1), (2, .int x2), (3, .int x3), (4, .int x4)]) hx hb dX11_moveOf_17 hl (by decide) rfl (fun ls hl => ?_)
    refine lv_iload hx hb dX11_moveOf_19 (lv_at hl 0 rfl) ?_
    refine lv_iconst (v := 1) hx hb dX11_moveOf_21 (by decide) ?_
    refine lv_icmp_eq (tgt := 30) hx hb dX11_moveOf_22 (by decide) (fun c_67 => ?_) (fun c_67 => ?_)
    · have h := it c_67 h
      refine lv_aload_n hx hb dX11_moveOf_30 rfl (lv_at hl 2 rfl) ?_
      refine lv_iconst (v := 1) hx hb dX11_moveOf_31 (by decide) ?_
      obtain ⟨z_68, e_z_68, h⟩ := bi h
      refine efVi (rest := []) ⟨hx, hb, hml, hown, ht⟩ (c_X11_refuse l D cy fu A_b (A_T 0) (A_a 0) r_b_war r_b_draftArmy r_b_draftWar r_b_reader r_b_armyReader r_b_warReader r_b_markedArmies r_b_markedWars r_b_latest r_b_trial (A_f 0) r_b_pairs b_latestStatus b_fractionTop b_fractionBottom b_marks 1 z_68 e_z_68 _ rfl _ rfl) (cV ht mv_X11_refuse tb_543 rfl rfl ⟨Nat.le_of_ble_eq_true rfl, Nat.le_of_ble_eq_true rfl⟩) hP hS hX [0] rfl rfl rfl rfl rfl rfl hl.1 rfl (Nat.le_of_ble_eq_true rfl) dX11_moveOf_32 ⟨Nat.le_of_ble_eq_true rfl, Nat.le_of_ble_eq_true rfl⟩ (fun H locs hP hS => ?_)
      have hP : PD D A [bl_X11 cy A_b (A_T 0) (A_a 0) r_b_war r_b_draftArmy r_b_draftWar r_b_reader r_b_armyReader r_b_warReader r_b_markedArmies r_b_markedWars r_b_latest r_b_trial (A_f 0) r_b_pairs z_68.2 b_fractionTop b_fractionBottom b_marks, [(A_T 0, .inl (cy 4, 4, .inr (.inr (.inr (.inr (trf4 (A_y0 0) (A_y1 0) (A_y2 0) (A_y3 0)))))))], bl_X8 cy A_y0 y0_row y0_missing y0_sort y0_many, bl_X8 cy A_y1 y1_row y1_missing y1_sort y1_many, bl_X8 cy A_y2 y2_row y2_missing y2_sort y2_many, bl_X8 cy A_y3 y3_row y3_missing y3_sort y3_many, bl_X0 cy A_a a_name a_courage a_weight a_medals a_stood a_fled a_liked a_votes a_count a_living a_pride a_quota a_melted a_lost, bl_X4 cy A_f (A_n 0) f_sizes f_dangers, bl_X0 cy A_n n_name n_courage n_weight n_medals n_stood n_fled n_liked n_votes n_count n_living n_pride n_quota n_melted n_lost] H := hP
      cases h
      subst hW1
      exact W.iret hx hb hr (fun _ ht9 _ => ⟨⟨_, (), rfl, rfl, hPt ht9 hP.1⟩, hS.F ht9⟩) hS.2.2 dX11_moveOf_35
    · have h := ie c_67 h
      refine lv_iload hx hb dX11_moveOf_25 (lv_at hl 6 rfl) ?_
      refine lv_if_ne (tgt := 36) hx hb dX11_moveOf_27 (by decide) (fun c_69 => ?_) (fun c_69 => ?_)
      · have h := ie c_69 h
        refine lv_iload hx hb dX11_moveOf_36 (lv_at hl 0 rfl) ?_
        refine lv_if_eq (tgt := 48) hx hb dX11_moveOf_38 (by decide) (fun c_70 => ?_) (fun c_70 => ?_)
        · have h := it c_70 h
          refine lv_aload_n hx hb dX11_moveOf_48 rfl (lv_at hl 2 rfl) ?_
          refine xget (i := 0) (j := 0) (k := 16) (T := TX11) hx hb ht tb_iX11 hown hX hP.1 rfl rfl rfl (by decide) tb_445 rfl dX11_moveOf_49 ?_
          refine lv_aload_n hx hb dX11_moveOf_52 rfl (lv_at hl 2 rfl) ?_
          refine xget (i := 0) (j := 0) (k := 4) (T := TX11) hx hb ht tb_iX11 hown hX hP.1 rfl rfl rfl (by decide) tb_433 rfl dX11_moveOf_53 ?_
          refine lv_aload hx hb dX11_moveOf_56 (lv_at hl 1 rfl) ?_
          refine lv_iload hx hb dX11_moveOf_58 (lv_at hl 6 rfl) ?_
          obtain ⟨z_71, e_z_71, h⟩ := bi h
          refine efVv (rest := []) ⟨hx, hb, hml, hown, ht⟩ (c_X4_look l D cy fu A_f f_sizes f_dangers A_n n_name n_courage n_weight n_medals n_stood n_fled n_liked n_votes n_count n_living n_pride n_quota n_melted n_lost A_a a_name a_courage a_weight a_medals a_stood a_fled a_liked a_votes a_count a_living a_pride a_quota a_melted a_lost A_y0 y0_row y0_missing y0_sort y0_many x4 z_71 e_z_71 _ rfl _ rfl) (cV ht mv_X4_look tb_991 rfl rfl ⟨Nat.le_of_ble_eq_true rfl, Nat.le_of_ble_eq_true rfl⟩) hP hS hX [7, 8, 6, 2] rfl rfl rfl rfl rfl rfl hl.1 rfl (Nat.le_of_ble_eq_true rfl) dX11_moveOf_60 ⟨Nat.le_of_ble_eq_true rfl, Nat.le_of_ble_eq_true rfl⟩ (fun H locs hP hS => ?_)
          have hP : PD D A [bl_X11 cy A_b (A_T 0) (A_a 0) r_b_war r_b_draftArmy r_b_draftWar r_b_reader r_b_armyReader r_b_warReader r_b_markedArmies r_b_markedWars r_b_latest r_b_trial (A_f 0) r_b_pairs b_latestStatus b_fractionTop b_fractionBottom b_marks, [(A_T 0, .inl (cy 4, 4, .inr (.inr (.inr (.inr (trf4 (A_y0 0) (A_y1 0) (A_y2 0) (A_y3 0)))))))], bl_X8 cy A_y0 y0_row y0_missing y0_sort y0_many, bl_X8 cy A_y1 y1_row y1_missing y1_sort y1_many, bl_X8 cy A_y2 y2_row y2_missing y2_sort y2_many, bl_X8 cy A_y3 y3_row y3_missing y3_sort y3_many, bl_X0 cy A_a a_name a_courage a_weight a_medals a_stood a_fled a_liked a_votes a_count a_living a_pride a_quota a_melted a_lost, bl_X4 cy A_f (A_n 0) z_71.1 z_71.2.1, bl_X0 cy A_n z_71.2.2.1 z_71.2.2.2.1 z_71.2.2.2.2.1 z_71.2.2.2.2.2.1 z_71.2.2.2.2.2.2.1 z_71.2.2.2.2.2.2.2.1 z_71.2.2.2.2.2.2.2.2.1 n_votes z_71.2.2.2.2.2.2.2.2.2.1 z_71.2.2.2.2.2.2.2.2.2.2.1 z_71.2.2.2.2.2.2.2.2.2.2.2.1 z_71.2.2.2.2.2.2.2.2.2.2.2.2.1 z_71.2.2.2.2.2.2.2.2.2.2.2.2.2.1 z_71.2.2.2.2.2.2.2.2.2.2.2.2.2.2] H := hP
          refine lv_aload_n hx hb dX11_moveOf_63 rfl (lv_at hl 2 rfl) ?_
          refine xget (i := 0) (j := 0) (k := 16) (T := TX11) hx hb ht tb_iX11 hown hX hP.1 rfl rfl rfl (by decide) tb_445 rfl dX11_moveOf_64 ?_
          refine lv_iload_n hx hb dX11_moveOf_67 rfl (lv_at hl 3 rfl) ?_
          refine lv_iload_n hx hb dX11_moveOf_68 rfl (lv_at hl 4 rfl) ?_
          obtain ⟨z_72, e_z_72, h⟩ := bi h
          refine efVi (rest := []) ⟨hx, hb, hml, hown, ht⟩ (c_X4_moveFor l D cy fu A_f z_71.1 z_71.2.1 A_n z_71.2.2.1 z_71.2.2.2.1 z_71.2.2.2.2.1 z_71.2.2.2.2.2.1 z_71.2.2.2.2.2.2.1 z_71.2.2.2.2.2.2.2.1 z_71.2.2.2.2.2.2.2.2.1 n_votes z_71.2.2.2.2.2.2.2.2.2.1 z_71.2.2.2.2.2.2.2.2.2.2.1 z_71.2.2.2.2.2.2.2.2.2.2.2.1 z_71.2.2.2.2.2.2.2.2.2.2.2.2.1 z_71.2.2.2.2.2.2.2.2.2.2.2.2.2.1 z_71.2.2.2.2.2.2.2.2.2.2.2.2.2.2 x1 x2 z_72 e_z_72 _ rfl _ rfl) (cV ht mv_X4_moveFor tb_1122 rfl rfl ⟨Nat.le_of_ble_eq_true rfl, Nat.le_of_ble_eq_true rfl⟩) hP hS hX [7, 8] rfl rfl rfl rfl rfl rfl hl.1 rfl (Nat.le_of_ble_eq_true rfl) dX11_moveOf_69 ⟨Nat.le_of_ble_eq_true rfl, Nat.le_of_ble_eq_true rfl⟩ (fun H locs hP hS => ?_)
          have hP : PD D A [bl_X11 cy A_b (A_T 0) (A_a 0) r_b_war r_b_draftArmy r_b_draftWar r_b_reader r_b_armyReader r_b_warReader r_b_markedArmies r_b_markedWars r_b_latest r_b_trial (A_f 0) r_b_pairs b_latestStatus b_fractionTop b_fractionBottom b_marks, [(A_T 0, .inl (cy 4, 4, .inr (.inr (.inr (.inr (trf4 (A_y0 0) (A_y1 0) (A_y2 0) (A_y3 0)))))))], bl_X8 cy A_y0 y0_row y0_missing y0_sort y0_many, bl_X8 cy A_y1 y1_row y1_missing y1_sort y1_many, bl_X8 cy A_y2 y2_row y2_missing y2_sort y2_many, bl_X8 cy A_y3 y3_row y3_missing y3_sort y3_many, bl_X0 cy A_a a_name a_courage a_weight a_medals a_stood a_fled a_liked a_votes a_count a_living a_pride a_quota a_melted a_lost, bl_X4 cy A_f (A_n 0) z_71.1 z_71.2.1, bl_X0 cy A_n z_71.2.2.1 z_71.2.2.2.1 z_71.2.2.2.2.1 z_72.2.1 z_71.2.2.2.2.2.2.1 z_71.2.2.2.2.2.2.2.1 z_71.2.2.2.2.2.2.2.2.1 z_72.2.2 z_71.2.2.2.2.2.2.2.2.2.1 z_71.2.2.2.2.2.2.2.2.2.2.1 z_71.2.2.2.2.2.2.2.2.2.2.2.1 z_71.2.2.2.2.2.2.2.2.2.2.2.2.1 z_71.2.2.2.2.2.2.2.2.2.2.2.2.2.1 z_71.2.2.2.2.2.2.2.2.2.2.2.2.2.2] H := hP
          refine lv_istore (lv' := [(7, .int z_72.1), (6, .int z_66), (5, .ref (A_y0 0)), (0, .ref (A_b 0)), (1, .int x1), (2, .int x2), (3, .int x3), (4, .int x4)]) hx hb dX11_moveOf_72 hl (by decide) rfl (fun ls hl => ?_)
          refine lv_iload hx hb dX11_moveOf_74 (lv_at hl 0 rfl) ?_
          refine lv_iconst (v := (-1)) hx hb dX11_moveOf_76 (by decide) ?_
          refine lv_icmp_ne (tgt := 89) hx hb dX11_moveOf_77 (by decide) (fun c_73 => ?_) (fun c_73 => ?_)
          · have h := ie c_73 h
            refine lv_aload_n hx hb dX11_moveOf_89 rfl (lv_at hl 3 rfl) ?_
            refine lv_iload hx hb dX11_moveOf_90 (lv_at hl 0 rfl) ?_
            obtain ⟨z_74, e_z_74, h⟩ := bi h
            refine efVi (rest := []) ⟨hx, hb, hml, hown, ht⟩ (c_X11_answer l D cy fu A_b (A_T 0) (A_a 0) r_b_war r_b_draftArmy r_b_draftWar r_b_reader r_b_armyReader r_b_warReader r_b_markedArmies r_b_markedWars r_b_latest r_b_trial (A_f 0) r_b_pairs b_latestStatus b_fractionTop b_fractionBottom b_marks z_72.1 z_74 e_z_74 _ rfl _ rfl) (cV ht mv_X11_answer tb_696 rfl rfl ⟨Nat.le_of_ble_eq_true rfl, Nat.le_of_ble_eq_true rfl⟩) hP hS hX [0] rfl rfl rfl rfl rfl rfl hl.1 rfl (Nat.le_of_ble_eq_true rfl) dX11_moveOf_92 ⟨Nat.le_of_ble_eq_true rfl, Nat.le_of_ble_eq_true rfl⟩ (fun H locs hP hS => ?_)
            have hP : PD D A [bl_X11 cy A_b (A_T 0) (A_a 0) r_b_war r_b_draftArmy r_b_draftWar r_b_reader r_b_armyReader r_b_warReader r_b_markedArmies r_b_markedWars r_b_latest r_b_trial (A_f 0) r_b_pairs z_74.2 b_fractionTop b_fractionBottom b_marks, [(A_T 0, .inl (cy 4, 4, .inr (.inr (.inr (.inr (trf4 (A_y0 0) (A_y1 0) (A_y2 0) (A_y3 0)))))))], bl_X8 cy A_y0 y0_row y0_missing y0_sort y0_many, bl_X8 cy A_y1 y1_row y1_missing y1_sort y1_many, bl_X8 cy A_y2 y2_row y2_missing y2_sort y2_many, bl_X8 cy A_y3 y3_row y3_missing y3_sort y3_many, bl_X0 cy A_a a_name a_courage a_weight a_medals a_stood a_fled a_liked a_votes a_count a_living a_pride a_quota a_melted a_lost, bl_X4 cy A_f (A_n 0) z_71.1 z_71.2.1, bl_X0 cy A_n z_71.2.2.1 z_71.2.2.2.1 z_71.2.2.2.2.1 z_72.2.1 z_71.2.2.2.2.2.2.1 z_71.2.2.2.2.2.2.2.1 z_71.2.2.2.2.2.2.2.2.1 z_72.2.2 z_71.2.2.2.2.2.2.2.2.2.1 z_71.2.2.2.2.2.2.2.2.2.2.1 z_71.2.2.2.2.2.2.2.2.2.2.2.1 z_71.2.2.2.2.2.2.2.2.2.2.2.2.1 z_71.2.2.2.2.2.2.2.2.2.2.2.2.2.1 z_71.2.2.2.2.2.2.2.2.2.2.2.2.2.2] H := hP
            cases h
            subst hW1
            exact W.iret hx hb hr (fun _ ht9 _ => ⟨⟨_, (), rfl, rfl, hPt ht9 hP.1⟩, hS.F ht9⟩) hS.2.2 dX11_moveOf_95
          · have h := it c_73 h
            refine lv_aload_n hx hb dX11_moveOf_80 rfl (lv_at hl 3 rfl) ?_
            refine lv_bipush (v := 6) hx hb dX11_moveOf_81 (by decide) ?_
            obtain ⟨z_75, e_z_75, h⟩ := bi h
            refine efVi (rest := []) ⟨hx, hb, hml, hown, ht⟩ (c_X11_refuse l D cy fu A_b (A_T 0) (A_a 0) r_b_war r_b_draftArmy r_b_draftWar r_b_reader r_b_armyReader r_b_warReader r_b_markedArmies r_b_markedWars r_b_latest r_b_trial (A_f 0) r_b_pairs b_latestStatus b_fractionTop b_fractionBottom b_marks 6 z_75 e_z_75 _ rfl _ rfl) (cV ht mv_X11_refuse tb_543 rfl rfl ⟨Nat.le_of_ble_eq_true rfl, Nat.le_of_ble_eq_true rfl⟩) hP hS hX [0] rfl rfl rfl rfl rfl rfl hl.1 rfl (Nat.le_of_ble_eq_true rfl) dX11_moveOf_83 ⟨Nat.le_of_ble_eq_true rfl, Nat.le_of_ble_eq_true rfl⟩ (fun H locs hP hS => ?_)
            have hP : PD D A [bl_X11 cy A_b (A_T 0) (A_a 0) r_b_war r_b_draftArmy r_b_draftWar r_b_reader r_b_armyReader r_b_warReader r_b_markedArmies r_b_markedWars r_b_latest r_b_trial (A_f 0) r_b_pairs z_75.2 b_fractionTop b_fractionBottom b_marks, [(A_T 0, .inl (cy 4, 4, .inr (.inr (.inr (.inr (trf4 (A_y0 0) (A_y1 0) (A_y2 0) (A_y3 0)))))))], bl_X8 cy A_y0 y0_row y0_missing y0_sort y0_many, bl_X8 cy A_y1 y1_row y1_missing y1_sort y1_many, bl_X8 cy A_y2 y2_row y2_missing y2_sort y2_many, bl_X8 cy A_y3 y3_row y3_missing y3_sort y3_many, bl_X0 cy A_a a_name a_courage a_weight a_medals a_stood a_fled a_liked a_votes a_count a_living a_pride a_quota a_melted a_lost, bl_X4 cy A_f (A_n 0) z_71.1 z_71.2.1, bl_X0 cy A_n z_71.2.2.1 z_71.2.2.2.1 z_71.2.2.2.2.1 z_72.2.1 z_71.2.2.2.2.2.2.1 z_71.2.2.2.2.2.2.2.1 z_71.2.2.2.2.2.2.2.2.1 z_72.2.2 z_71.2.2.2.2.2.2.2.2.2.1 z_71.2.2.2.2.2.2.2.2.2.2.1 z_71.2.2.2.2.2.2.2.2.2.2.2.1 z_71.2.2.2.2.2.2.2.2.2.2.2.2.1 z_71.2.2.2.2.2.2.2.2.2.2.2.2.2.1 z_71.2.2.2.2.2.2.2.2.2.2.2.2.2.2] H := hP
            refine lv_goto (tgt := 95) hx hb dX11_moveOf_86 (by decide) ?_
            cases h
            subst hW1
            exact W.iret hx hb hr (fun _ ht9 _ => ⟨⟨_, (), rfl, rfl, hPt ht9 hP.1⟩, hS.F ht9⟩) hS.2.2 dX11_moveOf_95
        · have h := ie c_70 h
          refine lv_aload_n hx hb dX11_moveOf_41 rfl (lv_at hl 2 rfl) ?_
          refine lv_iload hx hb dX11_moveOf_42 (lv_at hl 0 rfl) ?_
          obtain ⟨z_76, e_z_76, h⟩ := bi h
          refine efVi (rest := []) ⟨hx, hb, hml, hown, ht⟩ (c_X11_refuse l D cy fu A_b (A_T 0) (A_a 0) r_b_war r_b_draftArmy r_b_draftWar r_b_reader r_b_armyReader r_b_warReader r_b_markedArmies r_b_markedWars r_b_latest r_b_trial (A_f 0) r_b_pairs b_latestStatus b_fractionTop b_fractionBottom b_marks z_66 z_76 e_z_76 _ rfl _ rfl) (cV ht mv_X11_refuse tb_543 rfl rfl ⟨Nat.le_of_ble_eq_true rfl, Nat.le_of_ble_eq_true rfl⟩) hP hS hX [0] rfl rfl rfl rfl rfl rfl hl.1 rfl (Nat.le_of_ble_eq_true rfl) dX11_moveOf_44 ⟨Nat.le_of_ble_eq_true rfl, Nat.le_of_ble_eq_true rfl⟩ (fun H locs hP hS => ?_)
          have hP : PD D A [bl_X11 cy A_b (A_T 0) (A_a 0) r_b_war r_b_draftArmy r_b_draftWar r_b_reader r_b_armyReader r_b_warReader r_b_markedArmies r_b_markedWars r_b_latest r_b_trial (A_f 0) r_b_pairs z_76.2 b_fractionTop b_fractionBottom b_marks, [(A_T 0, .inl (cy 4, 4, .inr (.inr (.inr (.inr (trf4 (A_y0 0) (A_y1 0) (A_y2 0) (A_y3 0)))))))], bl_X8 cy A_y0 y0_row y0_missing y0_sort y0_many, bl_X8 cy A_y1 y1_row y1_missing y1_sort y1_many, bl_X8 cy A_y2 y2_row y2_missing y2_sort y2_many, bl_X8 cy A_y3 y3_row y3_missing y3_sort y3_many, bl_X0 cy A_a a_name a_courage a_weight a_medals a_stood a_fled a_liked a_votes a_count a_living a_pride a_quota a_melted a_lost, bl_X4 cy A_f (A_n 0) f_sizes f_dangers, bl_X0 cy A_n n_name n_courage n_weight n_medals n_stood n_fled n_liked n_votes n_count n_living n_pride n_quota n_melted n_lost] H := hP
          cases h
          subst hW1
          exact W.iret hx hb hr (fun _ ht9 _ => ⟨⟨_, (), rfl, rfl, hPt ht9 hP.1⟩, hS.F ht9⟩) hS.2.2 dX11_moveOf_47
      · have h := it c_69 h
        refine lv_aload_n hx hb dX11_moveOf_30 rfl (lv_at hl 2 rfl) ?_
        refine lv_iconst (v := 1) hx hb dX11_moveOf_31 (by decide) ?_
        obtain ⟨z_77, e_z_77, h⟩ := bi h
        refine efVi (rest := []) ⟨hx, hb, hml, hown, ht⟩ (c_X11_refuse l D cy fu A_b (A_T 0) (A_a 0) r_b_war r_b_draftArmy r_b_draftWar r_b_reader r_b_armyReader r_b_warReader r_b_markedArmies r_b_markedWars r_b_latest r_b_trial (A_f 0) r_b_pairs b_latestStatus b_fractionTop b_fractionBottom b_marks 1 z_77 e_z_77 _ rfl _ rfl) (cV ht mv_X11_refuse tb_543 rfl rfl ⟨Nat.le_of_ble_eq_true rfl, Nat.le_of_ble_eq_true rfl⟩) hP hS hX [0] rfl rfl rfl rfl rfl rfl hl.1 rfl (Nat.le_of_ble_eq_true rfl) dX11_moveOf_32 ⟨Nat.le_of_ble_eq_true rfl, Nat.le_of_ble_eq_true rfl⟩ (fun H locs hP hS => ?_)
        have hP : PD D A [bl_X11 cy A_b (A_T 0) (A_a 0) r_b_war r_b_draftArmy r_b_draftWar r_b_reader r_b_armyReader r_b_warReader r_b_markedArmies r_b_markedWars r_b_latest r_b_trial (A_f 0) r_b_pairs z_77.2 b_fractionTop b_fractionBottom b_marks, [(A_T 0, .inl (cy 4, 4, .inr (.inr (.inr (.inr (trf4 (A_y0 0) (A_y1 0) (A_y2 0) (A_y3 0)))))))], bl_X8 cy A_y0 y0_row y0_missing y0_sort y0_many, bl_X8 cy A_y1 y1_row y1_missing y1_sort y1_many, bl_X8 cy A_y2 y2_row y2_missing y2_sort y2_many, bl_X8 cy A_y3 y3_row y3_missing y3_sort y3_many, bl_X0 cy A_a a_name a_courage a_weight a_medals a_stood a_fled a_liked a_votes a_count a_living a_pride a_quota a_melted a_lost, bl_X4 cy A_f (A_n 0) f_sizes f_dangers, bl_X0 cy A_n n_name n_courage n_weight n_medals n_stood n_fled n_liked n_votes n_count n_living n_pride n_quota n_melted n_lost] H := hP
        cases h
        subst hW1
        exact W.iret hx hb hr (fun _ ht9 _ => ⟨⟨_, (), rfl, rfl, hPt ht9 hP.1⟩, hS.F ht9⟩) hS.2.2 dX11_moveOf_35
  have h := ie c_65 h
  by_cases c_78 : x3 = 1
  · have h := it c_78 h
    refine roVq (rest := []) ⟨hx, hb, hml, hown, ht⟩ (c_X11_trayAt l D cy fu A_b (A_a 0) r_b_war r_b_draftArmy r_b_draftWar r_b_reader r_b_armyReader r_b_warReader r_b_markedArmies r_b_markedWars r_b_latest r_b_trial (A_f 0) r_b_pairs b_latestStatus b_fractionTop b_fractionBottom b_marks A_T (trf4 (A_y0 0) (A_y1 0) (A_y2 0) (A_y3 0)) x3 (some (A_y1 0)) (tray_1 c_78)) (cV ht mv_X11_trayAt tb_500 rfl rfl ⟨Nat.le_of_ble_eq_true rfl, Nat.le_of_ble_eq_true rfl⟩) (P_sub hP.1 [0, 1] rfl) hX rfl rfl rfl hl.1 rfl (Nat.le_of_ble_eq_true rfl) dX11_moveOf_2 ⟨Nat.le_of_ble_eq_true rfl, Nat.le_of_ble_eq_true rfl⟩ ?_
    refine lv_astore (lv' := [(5, .ref (A_y1 0)), (0, .ref (A_b 0)), (1, .int x1), (2, .int x2), (3, .int x3), (4, .int x4)]) hx hb dX11_moveOf_5 hl (by decide) rfl (fun ls hl => ?_)
    refine lv_aload_n hx hb dX11_moveOf_7 rfl (lv_at hl 1 rfl) ?_
    refine lv_iload_n hx hb dX11_moveOf_8 rfl (lv_at hl 2 rfl) ?_
    refine lv_iload_n hx hb dX11_moveOf_9 rfl (lv_at hl 3 rfl) ?_
    refine lv_aload hx hb dX11_moveOf_10 (lv_at hl 0 rfl) ?_
    refine lv_iload hx hb dX11_moveOf_12 (lv_at hl 5 rfl) ?_
    obtain ⟨z_79, e_z_79, h⟩ := bi h
    refine roVi (rest := []) ⟨hx, hb, hml, hown, ht⟩ (c_X11_gameRefusal l D cy fu A_b (A_T 0) r_b_war r_b_draftArmy r_b_draftWar r_b_reader r_b_armyReader r_b_warReader r_b_markedArmies r_b_markedWars r_b_latest r_b_trial (A_f 0) r_b_pairs b_latestStatus b_fractionTop b_fractionBottom b_marks A_y1 y1_row y1_missing y1_sort y1_many A_a a_name a_courage a_weight a_medals a_stood a_fled a_liked a_votes a_count a_living a_pride a_quota a_melted a_lost x1 x2 x4 z_79 e_z_79) (cV ht mv_X11_gameRefusal tb_1102 rfl rfl ⟨Nat.le_of_ble_eq_true rfl, Nat.le_of_ble_eq_true rfl⟩) (P_sub hP.1 [0, 3, 6] rfl) hX rfl rfl rfl hl.1 rfl (Nat.le_of_ble_eq_true rfl) dX11_moveOf_14 ⟨Nat.le_of_ble_eq_true rfl, Nat.le_of_ble_eq_true rfl⟩ ?_
    refine lv_istore (lv' := [(6, .int z_79), (5, .ref (A_y1 0)), (0, .ref (A_b 0)), (1, .int x1), (2, .int x2), (3, .int x3), (4, .int x4)]) hx hb dX11_moveOf_17 hl (by decide) rfl (fun ls hl => ?_)
    refine lv_iload hx hb dX11_moveOf_19 (lv_at hl 0 rfl) ?_
    refine lv_iconst (v := 1) hx hb dX11_moveOf_21 (by decide) ?_
    refine lv_icmp_eq (tgt := 30) hx hb dX11_moveOf_22 (by decide) (fun c_80 => ?_) (fun c_80 => ?_)
    · have h := it c_80 h
      refine lv_aload_n hx hb dX11_moveOf_30 rfl (lv_at hl 2 rfl) ?_
      refine lv_iconst (v := 1) hx hb dX11_moveOf_31 (by decide) ?_
      obtain ⟨z_81, e_z_81, h⟩ := bi h
      refine efVi (rest := []) ⟨hx, hb, hml, hown, ht⟩ (c_X11_refuse l D cy fu A_b (A_T 0) (A_a 0) r_b_war r_b_draftArmy r_b_draftWar r_b_reader r_b_armyReader r_b_warReader r_b_markedArmies r_b_markedWars r_b_latest r_b_trial (A_f 0) r_b_pairs b_latestStatus b_fractionTop b_fractionBottom b_marks 1 z_81 e_z_81 _ rfl _ rfl) (cV ht mv_X11_refuse tb_543 rfl rfl ⟨Nat.le_of_ble_eq_true rfl, Nat.le_of_ble_eq_true rfl⟩) hP hS hX [0] rfl rfl rfl rfl rfl rfl hl.1 rfl (Nat.le_of_ble_eq_true rfl) dX11_moveOf_32 ⟨Nat.le_of_ble_eq_true rfl, Nat.le_of_ble_eq_true rfl⟩ (fun H locs hP hS => ?_)
      have hP : PD D A [bl_X11 cy A_b (A_T 0) (A_a 0) r_b_war r_b_draftArmy r_b_draftWar r_b_reader r_b_armyReader r_b_warReader r_b_markedArmies r_b_markedWars r_b_latest r_b_trial (A_f 0) r_b_pairs z_81.2 b_fractionTop b_fractionBottom b_marks, [(A_T 0, .inl (cy 4, 4, .inr (.inr (.inr (.inr (trf4 (A_y0 0) (A_y1 0) (A_y2 0) (A_y3 0)))))))], bl_X8 cy A_y0 y0_row y0_missing y0_sort y0_many, bl_X8 cy A_y1 y1_row y1_missing y1_sort y1_many, bl_X8 cy A_y2 y2_row y2_missing y2_sort y2_many, bl_X8 cy A_y3 y3_row y3_missing y3_sort y3_many, bl_X0 cy A_a a_name a_courage a_weight a_medals a_stood a_fled a_liked a_votes a_count a_living a_pride a_quota a_melted a_lost, bl_X4 cy A_f (A_n 0) f_sizes f_dangers, bl_X0 cy A_n n_name n_courage n_weight n_medals n_stood n_fled n_liked n_votes n_count n_living n_pride n_quota n_melted n_lost] H := hP
      cases h
      subst hW1
      exact W.iret hx hb hr (fun _ ht9 _ => ⟨⟨_, (), rfl, rfl, hPt ht9 hP.1⟩, hS.F ht9⟩) hS.2.2 dX11_moveOf_35
    · have h := ie c_80 h
      refine lv_iload hx hb dX11_moveOf_25 (lv_at hl 6 rfl) ?_
      refine lv_if_ne (tgt := 36) hx hb dX11_moveOf_27 (by decide) (fun c_82 => ?_) (fun c_82 => ?_)
      · have h := ie c_82 h
        refine lv_iload hx hb dX11_moveOf_36 (lv_at hl 0 rfl) ?_
        refine lv_if_eq (tgt := 48) hx hb dX11_moveOf_38 (by decide) (fun c_83 => ?_) (fun c_83 => ?_)
        · have h := it c_83 h
          refine lv_aload_n hx hb dX11_moveOf_48 rfl (lv_at hl 2 rfl) ?_
          refine xget (i := 0) (j := 0) (k := 16) (T := TX11) hx hb ht tb_iX11 hown hX hP.1 rfl rfl rfl (by decide) tb_445 rfl dX11_moveOf_49 ?_
          refine lv_aload_n hx hb dX11_moveOf_52 rfl (lv_at hl 2 rfl) ?_
          refine xget (i := 0) (j := 0) (k := 4) (T := TX11) hx hb ht tb_iX11 hown hX hP.1 rfl rfl rfl (by decide) tb_433 rfl dX11_moveOf_53 ?_
          refine lv_aload hx hb dX11_moveOf_56 (lv_at hl 1 rfl) ?_
          refine lv_iload hx hb dX11_moveOf_58 (lv_at hl 6 rfl) ?_
          obtain ⟨z_84, e_z_84, h⟩ := bi h
          refine efVv (rest := []) ⟨hx, hb, hml, hown, ht⟩ (c_X4_look l D cy fu A_f f_sizes f_dangers A_n n_name n_courage n_weight n_medals n_stood n_fled n_liked n_votes n_count n_living n_pride n_quota n_melted n_lost A_a a_name a_courage a_weight a_medals a_stood a_fled a_liked a_votes a_count a_living a_pride a_quota a_melted a_lost A_y1 y1_row y1_missing y1_sort y1_many x4 z_84 e_z_84 _ rfl _ rfl) (cV ht mv_X4_look tb_991 rfl rfl ⟨Nat.le_of_ble_eq_true rfl, Nat.le_of_ble_eq_true rfl⟩) hP hS hX [7, 8, 6, 3] rfl rfl rfl rfl rfl rfl hl.1 rfl (Nat.le_of_ble_eq_true rfl) dX11_moveOf_60 ⟨Nat.le_of_ble_eq_true rfl, Nat.le_of_ble_eq_true rfl⟩ (fun H locs hP hS => ?_)
          have hP : PD D A [bl_X11 cy A_b (A_T 0) (A_a 0) r_b_war r_b_draftArmy r_b_draftWar r_b_reader r_b_armyReader r_b_warReader r_b_markedArmies r_b_markedWars r_b_latest r_b_trial (A_f 0) r_b_pairs b_latestStatus b_fractionTop b_fractionBottom b_marks, [(A_T 0, .inl (cy 4, 4, .inr (.inr (.inr (.inr (trf4 (A_y0 0) (A_y1 0) (A_y2 0) (A_y3 0)))))))], bl_X8 cy A_y0 y0_row y0_missing y0_sort y0_many, bl_X8 cy A_y1 y1_row y1_missing y1_sort y1_many, bl_X8 cy A_y2 y2_row y2_missing y2_sort y2_many, bl_X8 cy A_y3 y3_row y3_missing y3_sort y3_many, bl_X0 cy A_a a_name a_courage a_weight a_medals a_stood a_fled a_liked a_votes a_count a_living a_pride a_quota a_melted a_lost, bl_X4 cy A_f (A_n 0) z_84.1 z_84.2.1, bl_X0 cy A_n z_84.2.2.1 z_84.2.2.2.1 z_84.2.2.2.2.1 z_84.2.2.2.2.2.1 z_84.2.2.2.2.2.2.1 z_84.2.2.2.2.2.2.2.1 z_84.2.2.2.2.2.2.2.2.1 n_votes z_84.2.2.2.2.2.2.2.2.2.1 z_84.2.2.2.2.2.2.2.2.2.2.1 z_84.2.2.2.2.2.2.2.2.2.2.2.1 z_84.2.2.2.2.2.2.2.2.2.2.2.2.1 z_84.2.2.2.2.2.2.2.2.2.2.2.2.2.1 z_84.2.2.2.2.2.2.2.2.2.2.2.2.2.2] H := hP
          refine lv_aload_n hx hb dX11_moveOf_63 rfl (lv_at hl 2 rfl) ?_
          refine xget (i := 0) (j := 0) (k := 16) (T := TX11) hx hb ht tb_iX11 hown hX hP.1 rfl rfl rfl (by decide) tb_445 rfl dX11_moveOf_64 ?_
          refine lv_iload_n hx hb dX11_moveOf_67 rfl (lv_at hl 3 rfl) ?_
          refine lv_iload_n hx hb dX11_moveOf_68 rfl (lv_at hl 4 rfl) ?_
          obtain ⟨z_85, e_z_85, h⟩ := bi h
          refine efVi (rest := []) ⟨hx, hb, hml, hown, ht⟩ (c_X4_moveFor l D cy fu A_f z_84.1 z_84.2.1 A_n z_84.2.2.1 z_84.2.2.2.1 z_84.2.2.2.2.1 z_84.2.2.2.2.2.1 z_84.2.2.2.2.2.2.1 z_84.2.2.2.2.2.2.2.1 z_84.2.2.2.2.2.2.2.2.1 n_votes z_84.2.2.2.2.2.2.2.2.2.1 z_84.2.2.2.2.2.2.2.2.2.2.1 z_84.2.2.2.2.2.2.2.2.2.2.2.1 z_84.2.2.2.2.2.2.2.2.2.2.2.2.1 z_84.2.2.2.2.2.2.2.2.2.2.2.2.2.1 z_84.2.2.2.2.2.2.2.2.2.2.2.2.2.2 x1 x2 z_85 e_z_85 _ rfl _ rfl) (cV ht mv_X4_moveFor tb_1122 rfl rfl ⟨Nat.le_of_ble_eq_true rfl, Nat.le_of_ble_eq_true rfl⟩) hP hS hX [7, 8] rfl rfl rfl rfl rfl rfl hl.1 rfl (Nat.le_of_ble_eq_true rfl) dX11_moveOf_69 ⟨Nat.le_of_ble_eq_true rfl, Nat.le_of_ble_eq_true rfl⟩ (fun H locs hP hS => ?_)
          have hP : PD D A [bl_X11 cy A_b (A_T 0) (A_a 0) r_b_war r_b_draftArmy r_b_draftWar r_b_reader r_b_armyReader r_b_warReader r_b_markedArmies r_b_markedWars r_b_latest r_b_trial (A_f 0) r_b_pairs b_latestStatus b_fractionTop b_fractionBottom b_marks, [(A_T 0, .inl (cy 4, 4, .inr (.inr (.inr (.inr (trf4 (A_y0 0) (A_y1 0) (A_y2 0) (A_y3 0)))))))], bl_X8 cy A_y0 y0_row y0_missing y0_sort y0_many, bl_X8 cy A_y1 y1_row y1_missing y1_sort y1_many, bl_X8 cy A_y2 y2_row y2_missing y2_sort y2_many, bl_X8 cy A_y3 y3_row y3_missing y3_sort y3_many, bl_X0 cy A_a a_name a_courage a_weight a_medals a_stood a_fled a_liked a_votes a_count a_living a_pride a_quota a_melted a_lost, bl_X4 cy A_f (A_n 0) z_84.1 z_84.2.1, bl_X0 cy A_n z_84.2.2.1 z_84.2.2.2.1 z_84.2.2.2.2.1 z_85.2.1 z_84.2.2.2.2.2.2.1 z_84.2.2.2.2.2.2.2.1 z_84.2.2.2.2.2.2.2.2.1 z_85.2.2 z_84.2.2.2.2.2.2.2.2.2.1 z_84.2.2.2.2.2.2.2.2.2.2.1 z_84.2.2.2.2.2.2.2.2.2.2.2.1 z_84.2.2.2.2.2.2.2.2.2.2.2.2.1 z_84.2.2.2.2.2.2.2.2.2.2.2.2.2.1 z_84.2.2.2.2.2.2.2.2.2.2.2.2.2.2] H := hP
          refine lv_istore (lv' := [(7, .int z_85.1), (6, .int z_79), (5, .ref (A_y1 0)), (0, .ref (A_b 0)), (1, .int x1), (2, .int x2), (3, .int x3), (4, .int x4)]) hx hb dX11_moveOf_72 hl (by decide) rfl (fun ls hl => ?_)
          refine lv_iload hx hb dX11_moveOf_74 (lv_at hl 0 rfl) ?_
          refine lv_iconst (v := (-1)) hx hb dX11_moveOf_76 (by decide) ?_
          refine lv_icmp_ne (tgt := 89) hx hb dX11_moveOf_77 (by decide) (fun c_86 => ?_) (fun c_86 => ?_)
          · have h := ie c_86 h
            refine lv_aload_n hx hb dX11_moveOf_89 rfl (lv_at hl 3 rfl) ?_
            refine lv_iload hx hb dX11_moveOf_90 (lv_at hl 0 rfl) ?_
            obtain ⟨z_87, e_z_87, h⟩ := bi h
            refine efVi (rest := []) ⟨hx, hb, hml, hown, ht⟩ (c_X11_answer l D cy fu A_b (A_T 0) (A_a 0) r_b_war r_b_draftArmy r_b_draftWar r_b_reader r_b_armyReader r_b_warReader r_b_markedArmies r_b_markedWars r_b_latest r_b_trial (A_f 0) r_b_pairs b_latestStatus b_fractionTop b_fractionBottom b_marks z_85.1 z_87 e_z_87 _ rfl _ rfl) (cV ht mv_X11_answer tb_696 rfl rfl ⟨Nat.le_of_ble_eq_true rfl, Nat.le_of_ble_eq_true rfl⟩) hP hS hX [0] rfl rfl rfl rfl rfl rfl hl.1 rfl (Nat.le_of_ble_eq_true rfl) dX11_moveOf_92 ⟨Nat.le_of_ble_eq_true rfl, Nat.le_of_ble_eq_true rfl⟩ (fun H locs hP hS => ?_)
            have hP : PD D A [bl_X11 cy A_b (A_T 0) (A_a 0) r_b_war r_b_draftArmy r_b_draftWar r_b_reader r_b_armyReader r_b_warReader r_b_markedArmies r_b_markedWars r_b_latest r_b_trial (A_f 0) r_b_pairs z_87.2 b_fractionTop b_fractionBottom b_marks, [(A_T 0, .inl (cy 4, 4, .inr (.inr (.inr (.inr (trf4 (A_y0 0) (A_y1 0) (A_y2 0) (A_y3 0)))))))], bl_X8 cy A_y0 y0_row y0_missing y0_sort y0_many, bl_X8 cy A_y1 y1_row y1_missing y1_sort y1_many, bl_X8 cy A_y2 y2_row y2_missing y2_sort y2_many, bl_X8 cy A_y3 y3_row y3_missing y3_sort y3_many, bl_X0 cy A_a a_name a_courage a_weight a_medals a_stood a_fled a_liked a_votes a_count a_living a_pride a_quota a_melted a_lost, bl_X4 cy A_f (A_n 0) z_84.1 z_84.2.1, bl_X0 cy A_n z_84.2.2.1 z_84.2.2.2.1 z_84.2.2.2.2.1 z_85.2.1 z_84.2.2.2.2.2.2.1 z_84.2.2.2.2.2.2.2.1 z_84.2.2.2.2.2.2.2.2.1 z_85.2.2 z_84.2.2.2.2.2.2.2.2.2.1 z_84.2.2.2.2.2.2.2.2.2.2.1 z_84.2.2.2.2.2.2.2.2.2.2.2.1 z_84.2.2.2.2.2.2.2.2.2.2.2.2.1 z_84.2.2.2.2.2.2.2.2.2.2.2.2.2.1 z_84.2.2.2.2.2.2.2.2.2.2.2.2.2.2] H := hP
            cases h
            subst hW1
            exact W.iret hx hb hr (fun _ ht9 _ => ⟨⟨_, (), rfl, rfl, hPt ht9 hP.1⟩, hS.F ht9⟩) hS.2.2 dX11_moveOf_95
          · have h := it c_86 h
            refine lv_aload_n hx hb dX11_moveOf_80 rfl (lv_at hl 3 rfl) ?_
            refine lv_bipush (v := 6) hx hb dX11_moveOf_81 (by decide) ?_
            obtain ⟨z_88, e_z_88, h⟩ := bi h
            refine efVi (rest := []) ⟨hx, hb, hml, hown, ht⟩ (c_X11_refuse l D cy fu A_b (A_T 0) (A_a 0) r_b_war r_b_draftArmy r_b_draftWar r_b_reader r_b_armyReader r_b_warReader r_b_markedArmies r_b_markedWars r_b_latest r_b_trial (A_f 0) r_b_pairs b_latestStatus b_fractionTop b_fractionBottom b_marks 6 z_88 e_z_88 _ rfl _ rfl) (cV ht mv_X11_refuse tb_543 rfl rfl ⟨Nat.le_of_ble_eq_true rfl, Nat.le_of_ble_eq_true rfl⟩) hP hS hX [0] rfl rfl rfl rfl rfl rfl hl.1 rfl (Nat.le_of_ble_eq_true rfl) dX11_moveOf_83 ⟨Nat.le_of_ble_eq_true rfl, Nat.le_of_ble_eq_true rfl⟩ (fun H locs hP hS => ?_)
            have hP : PD D A [bl_X11 cy A_b (A_T 0) (A_a 0) r_b_war r_b_draftArmy r_b_draftWar r_b_reader r_b_armyReader r_b_warReader r_b_markedArmies r_b_markedWars r_b_latest r_b_trial (A_f 0) r_b_pairs z_88.2 b_fractionTop b_fractionBottom b_marks, [(A_T 0, .inl (cy 4, 4, .inr (.inr (.inr (.inr (trf4 (A_y0 0) (A_y1 0) (A_y2 0) (A_y3 0)))))))], bl_X8 cy A_y0 y0_row y0_missing y0_sort y0_many, bl_X8 cy A_y1 y1_row y1_missing y1_sort y1_many, bl_X8 cy A_y2 y2_row y2_missing y2_sort y2_many, bl_X8 cy A_y3 y3_row y3_missing y3_sort y3_many, bl_X0 cy A_a a_name a_courage a_weight a_medals a_stood a_fled a_liked a_votes a_count a_living a_pride a_quota a_melted a_lost, bl_X4 cy A_f (A_n 0) z_84.1 z_84.2.1, bl_X0 cy A_n z_84.2.2.1 z_84.2.2.2.1 z_84.2.2.2.2.1 z_85.2.1 z_84.2.2.2.2.2.2.1 z_84.2.2.2.2.2.2.2.1 z_84.2.2.2.2.2.2.2.2.1 z_85.2.2 z_84.2.2.2.2.2.2.2.2.2.1 z_84.2.2.2.2.2.2.2.2.2.2.1 z_84.2.2.2.2.2.2.2.2.2.2.2.1 z_84.2.2.2.2.2.2.2.2.2.2.2.2.1 z_84.2.2.2.2.2.2.2.2.2.2.2.2.2.1 z_84.2.2.2.2.2.2.2.2.2.2.2.2.2.2] H := hP
            refine lv_goto (tgt := 95) hx hb dX11_moveOf_86 (by decide) ?_
            cases h
            subst hW1
            exact W.iret hx hb hr (fun _ ht9 _ => ⟨⟨_, (), rfl, rfl, hPt ht9 hP.1⟩, hS.F ht9⟩) hS.2.2 dX11_moveOf_95
        · have h := ie c_83 h
          refine lv_aload_n hx hb dX11_moveOf_41 rfl (lv_at hl 2 rfl) ?_
          refine lv_iload hx hb dX11_moveOf_42 (lv_at hl 0 rfl) ?_
          obtain ⟨z_89, e_z_89, h⟩ := bi h
          refine efVi (rest := []) ⟨hx, hb, hml, hown, ht⟩ (c_X11_refuse l D cy fu A_b (A_T 0) (A_a 0) r_b_war r_b_draftArmy r_b_draftWar r_b_reader r_b_armyReader r_b_warReader r_b_markedArmies r_b_markedWars r_b_latest r_b_trial (A_f 0) r_b_pairs b_latestStatus b_fractionTop b_fractionBottom b_marks z_79 z_89 e_z_89 _ rfl _ rfl) (cV ht mv_X11_refuse tb_543 rfl rfl ⟨Nat.le_of_ble_eq_true rfl, Nat.le_of_ble_eq_true rfl⟩) hP hS hX [0] rfl rfl rfl rfl rfl rfl hl.1 rfl (Nat.le_of_ble_eq_true rfl) dX11_moveOf_44 ⟨Nat.le_of_ble_eq_true rfl, Nat.le_of_ble_eq_true rfl⟩ (fun H locs hP hS => ?_)
          have hP : PD D A [bl_X11 cy A_b (A_T 0) (A_a 0) r_b_war r_b_draftArmy r_b_draftWar r_b_reader r_b_armyReader r_b_warReader r_b_markedArmies r_b_markedWars r_b_latest r_b_trial (A_f 0) r_b_pairs z_89.2 b_fractionTop b_fractionBottom b_marks, [(A_T 0, .inl (cy 4, 4, .inr (.inr (.inr (.inr (trf4 (A_y0 0) (A_y1 0) (A_y2 0) (A_y3 0)))))))], bl_X8 cy A_y0 y0_row y0_missing y0_sort y0_many, bl_X8 cy A_y1 y1_row y1_missing y1_sort y1_many, bl_X8 cy A_y2 y2_row y2_missing y2_sort y2_many, bl_X8 cy A_y3 y3_row y3_missing y3_sort y3_many, bl_X0 cy A_a a_name a_courage a_weight a_medals a_stood a_fled a_liked a_votes a_count a_living a_pride a_quota a_melted a_lost, bl_X4 cy A_f (A_n 0) f_sizes f_dangers, bl_X0 cy A_n n_name n_courage n_weight n_medals n_stood n_fled n_liked n_votes n_count n_living n_pride n_quota n_melted n_lost] H := hP
          cases h
          subst hW1
          exact W.iret hx hb hr (fun _ ht9 _ => ⟨⟨_, (), rfl, rfl, hPt ht9 hP.1⟩, hS.F ht9⟩) hS.2.2 dX11_moveOf_47
      · have h := it c_82 h
        refine lv_aload_n hx hb dX11_moveOf_30 rfl (lv_at hl 2 rfl) ?_
        refine lv_iconst (v := 1) hx hb dX11_moveOf_31 (by decide) ?_
        obtain ⟨z_90, e_z_90, h⟩ := bi h
        refine efVi (rest := []) ⟨hx, hb, hml, hown, ht⟩ (c_X11_refuse l D cy fu A_b (A_T 0) (A_a 0) r_b_war r_b_draftArmy r_b_draftWar r_b_reader r_b_armyReader r_b_warReader r_b_markedArmies r_b_markedWars r_b_latest r_b_trial (A_f 0) r_b_pairs b_latestStatus b_fractionTop b_fractionBottom b_marks 1 z_90 e_z_90 _ rfl _ rfl) (cV ht mv_X11_refuse tb_543 rfl rfl ⟨Nat.le_of_ble_eq_true rfl, Nat.le_of_ble_eq_true rfl⟩) hP hS hX [0] rfl rfl rfl rfl rfl rfl hl.1 rfl (Nat.le_of_ble_eq_true rfl) dX11_moveOf_32 ⟨Nat.le_of_ble_eq_true rfl, Nat.le_of_ble_eq_true rfl⟩ (fun H locs hP hS => ?_)
        have hP : PD D A [bl_X11 cy A_b (A_T 0) (A_a 0) r_b_war r_b_draftArmy r_b_draftWar r_b_reader r_b_armyReader r_b_warReader r_b_markedArmies r_b_markedWars r_b_latest r_b_trial (A_f 0) r_b_pairs z_90.2 b_fractionTop b_fractionBottom b_marks, [(A_T 0, .inl (cy 4, 4, .inr (.inr (.inr (.inr (trf4 (A_y0 0) (A_y1 0) (A_y2 0) (A_y3 0)))))))], bl_X8 cy A_y0 y0_row y0_missing y0_sort y0_many, bl_X8 cy A_y1 y1_row y1_missing y1_sort y1_many, bl_X8 cy A_y2 y2_row y2_missing y2_sort y2_many, bl_X8 cy A_y3 y3_row y3_missing y3_sort y3_many, bl_X0 cy A_a a_name a_courage a_weight a_medals a_stood a_fled a_liked a_votes a_count a_living a_pride a_quota a_melted a_lost, bl_X4 cy A_f (A_n 0) f_sizes f_dangers, bl_X0 cy A_n n_name n_courage n_weight n_medals n_stood n_fled n_liked n_votes n_count n_living n_pride n_quota n_melted n_lost] H := hP
        cases h
        subst hW1
        exact W.iret hx hb hr (fun _ ht9 _ => ⟨⟨_, (), rfl, rfl, hPt ht9 hP.1⟩, hS.F ht9⟩) hS.2.2 dX11_moveOf_35
  have h := ie c_78 h
  by_cases c_91 : x3 = 2
  · have h := it c_91 h
    refine roVq (rest := []) ⟨hx, hb, hml, hown, ht⟩ (c_X11_trayAt l D cy fu A_b (A_a 0) r_b_war r_b_draftArmy r_b_draftWar r_b_reader r_b_armyReader r_b_warReader r_b_markedArmies r_b_markedWars r_b_latest r_b_trial (A_f 0) r_b_pairs b_latestStatus b_fractionTop b_fractionBottom b_marks A_T (trf4 (A_y0 0) (A_y1 0) (A_y2 0) (A_y3 0)) x3 (some (A_y2 0)) (tray_2 c_91)) (cV ht mv_X11_trayAt tb_500 rfl rfl ⟨Nat.le_of_ble_eq_true rfl, Nat.le_of_ble_eq_true rfl⟩) (P_sub hP.1 [0, 1] rfl) hX rfl rfl rfl hl.1 rfl (Nat.le_of_ble_eq_true rfl) dX11_moveOf_2 ⟨Nat.le_of_ble_eq_true rfl, Nat.le_of_ble_eq_true rfl⟩ ?_
    refine lv_astore (lv' := [(5, .ref (A_y2 0)), (0, .ref (A_b 0)), (1, .int x1), (2, .int x2), (3, .int x3), (4, .int x4)]) hx hb dX11_moveOf_5 hl (by decide) rfl (fun ls hl => ?_)
    refine lv_aload_n hx hb dX11_moveOf_7 rfl (lv_at hl 1 rfl) ?_
    refine lv_iload_n hx hb dX11_moveOf_8 rfl (lv_at hl 2 rfl) ?_
    refine lv_iload_n hx hb dX11_moveOf_9 rfl (lv_at hl 3 rfl) ?_
    refine lv_aload hx hb dX11_moveOf_10 (lv_at hl 0 rfl) ?_
    refine lv_iload hx hb dX11_moveOf_12 (lv_at hl 5 rfl) ?_
    obtain ⟨z_92, e_z_92, h⟩ := bi h
    refine roVi (rest := []) ⟨hx, hb, hml, hown, ht⟩ (c_X11_gameRefusal l D cy fu A_b (A_T 0) r_b_war r_b_draftArmy r_b_draftWar r_b_reader r_b_armyReader r_b_warReader r_b_markedArmies r_b_markedWars r_b_latest r_b_trial (A_f 0) r_b_pairs b_latestStatus b_fractionTop b_fractionBottom b_marks A_y2 y2_row y2_missing y2_sort y2_many A_a a_name a_courage a_weight a_medals a_stood a_fled a_liked a_votes a_count a_living a_pride a_quota a_melted a_lost x1 x2 x4 z_92 e_z_92) (cV ht mv_X11_gameRefusal tb_1102 rfl rfl ⟨Nat.le_of_ble_eq_true rfl, Nat.le_of_ble_eq_true rfl⟩) (P_sub hP.1 [0, 4, 6] rfl) hX rfl rfl rfl hl.1 rfl (Nat.le_of_ble_eq_true rfl) dX11_moveOf_14 ⟨Nat.le_of_ble_eq_true rfl, Nat.le_of_ble_eq_true rfl⟩ ?_
    refine lv_istore (lv' := [(6, .int z_92), (5, .ref (A_y2 0)), (0, .ref (A_b 0)), (1, .int x1), (2, .int x2), (3, .int x3), (4, .int x4)]) hx hb dX11_moveOf_17 hl (by decide) rfl (fun ls hl => ?_)
    refine lv_iload hx hb dX11_moveOf_19 (lv_at hl 0 rfl) ?_
    refine lv_iconst (v := 1) hx hb dX11_moveOf_21 (by decide) ?_
    refine lv_icmp_eq (tgt := 30) hx hb dX11_moveOf_22 (by decide) (fun c_93 => ?_) (fun c_93 => ?_)
    · have h := it c_93 h
      refine lv_aload_n hx hb dX11_moveOf_30 rfl (lv_at hl 2 rfl) ?_
      refine lv_iconst (v := 1) hx hb dX11_moveOf_31 (by decide) ?_
      obtain ⟨z_94, e_z_94, h⟩ := bi h
      refine efVi (rest := []) ⟨hx, hb, hml, hown, ht⟩ (c_X11_refuse l D cy fu A_b (A_T 0) (A_a 0) r_b_war r_b_draftArmy r_b_draftWar r_b_reader r_b_armyReader r_b_warReader r_b_markedArmies r_b_markedWars r_b_latest r_b_trial (A_f 0) r_b_pairs b_latestStatus b_fractionTop b_fractionBottom b_marks 1 z_94 e_z_94 _ rfl _ rfl) (cV ht mv_X11_refuse tb_543 rfl rfl ⟨Nat.le_of_ble_eq_true rfl, Nat.le_of_ble_eq_true rfl⟩) hP hS hX [0] rfl rfl rfl rfl rfl rfl hl.1 rfl (Nat.le_of_ble_eq_true rfl) dX11_moveOf_32 ⟨Nat.le_of_ble_eq_true rfl, Nat.le_of_ble_eq_true rfl⟩ (fun H locs hP hS => ?_)
      have hP : PD D A [bl_X11 cy A_b (A_T 0) (A_a 0) r_b_war r_b_draftArmy r_b_draftWar r_b_reader r_b_armyReader r_b_warReader r_b_markedArmies r_b_markedWars r_b_latest r_b_trial (A_f 0) r_b_pairs z_94.2 b_fractionTop b_fractionBottom b_marks, [(A_T 0, .inl (cy 4, 4, .inr (.inr (.inr (.inr (trf4 (A_y0 0) (A_y1 0) (A_y2 0) (A_y3 0)))))))], bl_X8 cy A_y0 y0_row y0_missing y0_sort y0_many, bl_X8 cy A_y1 y1_row y1_missing y1_sort y1_many, bl_X8 cy A_y2 y2_row y2_missing y2_sort y2_many, bl_X8 cy A_y3 y3_row y3_missing y3_sort y3_many, bl_X0 cy A_a a_name a_courage a_weight a_medals a_stood a_fled a_liked a_votes a_count a_living a_pride a_quota a_melted a_lost, bl_X4 cy A_f (A_n 0) f_sizes f_dangers, bl_X0 cy A_n n_name n_courage n_weight n_medals n_stood n_fled n_liked n_votes n_count n_living n_pride n_quota n_melted n_lost] H := hP
      cases h
      subst hW1
      exact W.iret hx hb hr (fun _ ht9 _ => ⟨⟨_, (), rfl, rfl, hPt ht9 hP.1⟩, hS.F ht9⟩) hS.2.2 dX11_moveOf_35
    · have h := ie c_93 h
      refine lv_iload hx hb dX11_moveOf_25 (lv_at hl 6 rfl) ?_
      refine lv_if_ne (tgt := 36) hx hb dX11_moveOf_27 (by decide) (fun c_95 => ?_) (fun c_95 => ?_)
      · have h := ie c_95 h
        refine lv_iload hx hb dX11_moveOf_36 (lv_at hl 0 rfl) ?_
        refine lv_if_eq (tgt := 48) hx hb dX11_moveOf_38 (by decide) (fun c_96 => ?_) (fun c_96 => ?_)
        · have h := it c_96 h
          refine lv_aload_n hx hb dX11_moveOf_48 rfl (lv_at hl 2 rfl) ?_
          refine xget (i := 0) (j := 0) (k := 16) (T := TX11) hx hb ht tb_iX11 hown hX hP.1 rfl rfl rfl (by decide) tb_445 rfl dX11_moveOf_49 ?_
          refine lv_aload_n hx hb dX11_moveOf_52 rfl (lv_at hl 2 rfl) ?_
          refine xget (i := 0) (j := 0) (k := 4) (T := TX11) hx hb ht tb_iX11 hown hX hP.1 rfl rfl rfl (by decide) tb_433 rfl dX11_moveOf_53 ?_
          refine lv_aload hx hb dX11_moveOf_56 (lv_at hl 1 rfl) ?_
          refine lv_iload hx hb dX11_moveOf_58 (lv_at hl 6 rfl) ?_
          obtain ⟨z_97, e_z_97, h⟩ := bi h
          refine efVv (rest := []) ⟨hx, hb, hml, hown, ht⟩ (c_X4_look l D cy fu A_f f_sizes f_dangers A_n n_name n_courage n_weight n_medals n_stood n_fled n_liked n_votes n_count n_living n_pride n_quota n_melted n_lost A_a a_name a_courage a_weight a_medals a_stood a_fled a_liked a_votes a_count a_living a_pride a_quota a_melted a_lost A_y2 y2_row y2_missing y2_sort y2_many x4 z_97 e_z_97 _ rfl _ rfl) (cV ht mv_X4_look tb_991 rfl rfl ⟨Nat.le_of_ble_eq_true rfl, Nat.le_of_ble_eq_true rfl⟩) hP hS hX [7, 8, 6, 4] rfl rfl rfl rfl rfl rfl hl.1 rfl (Nat.le_of_ble_eq_true rfl) dX11_moveOf_60 ⟨Nat.le_of_ble_eq_true rfl, Nat.le_of_ble_eq_true rfl⟩ (fun H locs hP hS => ?_)
          have hP : PD D A [bl_X11 cy A_b (A_T 0) (A_a 0) r_b_war r_b_draftArmy r_b_draftWar r_b_reader r_b_armyReader r_b_warReader r_b_markedArmies r_b_markedWars r_b_latest r_b_trial (A_f 0) r_b_pairs b_latestStatus b_fractionTop b_fractionBottom b_marks, [(A_T 0, .inl (cy 4, 4, .inr (.inr (.inr (.inr (trf4 (A_y0 0) (A_y1 0) (A_y2 0) (A_y3 0)))))))], bl_X8 cy A_y0 y0_row y0_missing y0_sort y0_many, bl_X8 cy A_y1 y1_row y1_missing y1_sort y1_many, bl_X8 cy A_y2 y2_row y2_missing y2_sort y2_many, bl_X8 cy A_y3 y3_row y3_missing y3_sort y3_many, bl_X0 cy A_a a_name a_courage a_weight a_medals a_stood a_fled a_liked a_votes a_count a_living a_pride a_quota a_melted a_lost, bl_X4 cy A_f (A_n 0) z_97.1 z_97.2.1, bl_X0 cy A_n z_97.2.2.1 z_97.2.2.2.1 z_97.2.2.2.2.1 z_97.2.2.2.2.2.1 z_97.2.2.2.2.2.2.1 z_97.2.2.2.2.2.2.2.1 z_97.2.2.2.2.2.2.2.2.1 n_votes z_97.2.2.2.2.2.2.2.2.2.1 z_97.2.2.2.2.2.2.2.2.2.2.1 z_97.2.2.2.2.2.2.2.2.2.2.2.1 z_97.2.2.2.2.2.2.2.2.2.2.2.2.1 z_97.2.2.2.2.2.2.2.2.2.2.2.2.2.1 z_97.2.2.2.2.2.2.2.2.2.2.2.2.2.2] H := hP
          refine lv_aload_n hx hb dX11_moveOf_63 rfl (lv_at hl 2 rfl) ?_
          refine xget (i := 0) (j := 0) (k := 16) (T := TX11) hx hb ht tb_iX11 hown hX hP.1 rfl rfl rfl (by decide) tb_445 rfl dX11_moveOf_64 ?_
          refine lv_iload_n hx hb dX11_moveOf_67 rfl (lv_at hl 3 rfl) ?_
          refine lv_iload_n hx hb dX11_moveOf_68 rfl (lv_at hl 4 rfl) ?_
          obtain ⟨z_98, e_z_98, h⟩ := bi h
          refine efVi (rest := []) ⟨hx, hb, hml, hown, ht⟩ (c_X4_moveFor l D cy fu A_f z_97.1 z_97.2.1 A_n z_97.2.2.1 z_97.2.2.2.1 z_97.2.2.2.2.1 z_97.2.2.2.2.2.1 z_97.2.2.2.2.2.2.1 z_97.2.2.2.2.2.2.2.1 z_97.2.2.2.2.2.2.2.2.1 n_votes z_97.2.2.2.2.2.2.2.2.2.1 z_97.2.2.2.2.2.2.2.2.2.2.1 z_97.2.2.2.2.2.2.2.2.2.2.2.1 z_97.2.2.2.2.2.2.2.2.2.2.2.2.1 z_97.2.2.2.2.2.2.2.2.2.2.2.2.2.1 z_97.2.2.2.2.2.2.2.2.2.2.2.2.2.2 x1 x2 z_98 e_z_98 _ rfl _ rfl) (cV ht mv_X4_moveFor tb_1122 rfl rfl ⟨Nat.le_of_ble_eq_true rfl, Nat.le_of_ble_eq_true rfl⟩) hP hS hX [7, 8] rfl rfl rfl rfl rfl rfl hl.1 rfl (Nat.le_of_ble_eq_true rfl) dX11_moveOf_69 ⟨Nat.le_of_ble_eq_true rfl, Nat.le_of_ble_eq_true rfl⟩ (fun H locs hP hS => ?_)
          have hP : PD D A [bl_X11 cy A_b (A_T 0) (A_a 0) r_b_war r_b_draftArmy r_b_draftWar r_b_reader r_b_armyReader r_b_warReader r_b_markedArmies r_b_markedWars r_b_latest r_b_trial (A_f 0) r_b_pairs b_latestStatus b_fractionTop b_fractionBottom b_marks, [(A_T 0, .inl (cy 4, 4, .inr (.inr (.inr (.inr (trf4 (A_y0 0) (A_y1 0) (A_y2 0) (A_y3 0)))))))], bl_X8 cy A_y0 y0_row y0_missing y0_sort y0_many, bl_X8 cy A_y1 y1_row y1_missing y1_sort y1_many, bl_X8 cy A_y2 y2_row y2_missing y2_sort y2_many, bl_X8 cy A_y3 y3_row y3_missing y3_sort y3_many, bl_X0 cy A_a a_name a_courage a_weight a_medals a_stood a_fled a_liked a_votes a_count a_living a_pride a_quota a_melted a_lost, bl_X4 cy A_f (A_n 0) z_97.1 z_97.2.1, bl_X0 cy A_n z_97.2.2.1 z_97.2.2.2.1 z_97.2.2.2.2.1 z_98.2.1 z_97.2.2.2.2.2.2.1 z_97.2.2.2.2.2.2.2.1 z_97.2.2.2.2.2.2.2.2.1 z_98.2.2 z_97.2.2.2.2.2.2.2.2.2.1 z_97.2.2.2.2.2.2.2.2.2.2.1 z_97.2.2.2.2.2.2.2.2.2.2.2.1 z_97.2.2.2.2.2.2.2.2.2.2.2.2.1 z_97.2.2.2.2.2.2.2.2.2.2.2.2.2.1 z_97.2.2.2.2.2.2.2.2.2.2.2.2.2.2] H := hP
          refine lv_istore (lv' := [(7, .int z_98.1), (6, .int z_92), (5, .ref (A_y2 0)), (0, .ref (A_b 0)), (1, .int x1), (2, .int x2), (3, .int x3), (4, .int x4)]) hx hb dX11_moveOf_72 hl (by decide) rfl (fun ls hl => ?_)
          refine lv_iload hx hb dX11_moveOf_74 (lv_at hl 0 rfl) ?_
          refine lv_iconst (v := (-1)) hx hb dX11_moveOf_76 (by decide) ?_
          refine lv_icmp_ne (tgt := 89) hx hb dX11_moveOf_77 (by decide) (fun c_99 => ?_) (fun c_99 => ?_)
          · have h := ie c_99 h
            refine lv_aload_n hx hb dX11_moveOf_89 rfl (lv_at hl 3 rfl) ?_
            refine lv_iload hx hb dX11_moveOf_90 (lv_at hl 0 rfl) ?_
            obtain ⟨z_100, e_z_100, h⟩ := bi h
            refine efVi (rest := []) ⟨hx, hb, hml, hown, ht⟩ (c_X11_answer l D cy fu A_b (A_T 0) (A_a 0) r_b_war r_b_draftArmy r_b_draftWar r_b_reader r_b_armyReader r_b_warReader r_b_markedArmies r_b_markedWars r_b_latest r_b_trial (A_f 0) r_b_pairs b_latestStatus b_fractionTop b_fractionBottom b_marks z_98.1 z_100 e_z_100 _ rfl _ rfl) (cV ht mv_X11_answer tb_696 rfl rfl ⟨Nat.le_of_ble_eq_true rfl, Nat.le_of_ble_eq_true rfl⟩) hP hS hX [0] rfl rfl rfl rfl rfl rfl hl.1 rfl (Nat.le_of_ble_eq_true rfl) dX11_moveOf_92 ⟨Nat.le_of_ble_eq_true rfl, Nat.le_of_ble_eq_true rfl⟩ (fun H locs hP hS => ?_)
            have hP : PD D A [bl_X11 cy A_b (A_T 0) (A_a 0) r_b_war r_b_draftArmy r_b_draftWar r_b_reader r_b_armyReader r_b_warReader r_b_markedArmies r_b_markedWars r_b_latest r_b_trial (A_f 0) r_b_pairs z_100.2 b_fractionTop b_fractionBottom b_marks, [(A_T 0, .inl (cy 4, 4, .inr (.inr (.inr (.inr (trf4 (A_y0 0) (A_y1 0) (A_y2 0) (A_y3 0)))))))], bl_X8 cy A_y0 y0_row y0_missing y0_sort y0_many, bl_X8 cy A_y1 y1_row y1_missing y1_sort y1_many, bl_X8 cy A_y2 y2_row y2_missing y2_sort y2_many, bl_X8 cy A_y3 y3_row y3_missing y3_sort y3_many, bl_X0 cy A_a a_name a_courage a_weight a_medals a_stood a_fled a_liked a_votes a_count a_living a_pride a_quota a_melted a_lost, bl_X4 cy A_f (A_n 0) z_97.1 z_97.2.1, bl_X0 cy A_n z_97.2.2.1 z_97.2.2.2.1 z_97.2.2.2.2.1 z_98.2.1 z_97.2.2.2.2.2.2.1 z_97.2.2.2.2.2.2.2.1 z_97.2.2.2.2.2.2.2.2.1 z_98.2.2 z_97.2.2.2.2.2.2.2.2.2.1 z_97.2.2.2.2.2.2.2.2.2.2.1 z_97.2.2.2.2.2.2.2.2.2.2.2.1 z_97.2.2.2.2.2.2.2.2.2.2.2.2.1 z_97.2.2.2.2.2.2.2.2.2.2.2.2.2.1 z_97.2.2.2.2.2.2.2.2.2.2.2.2.2.2] H := hP
            cases h
            subst hW1
            exact W.iret hx hb hr (fun _ ht9 _ => ⟨⟨_, (), rfl, rfl, hPt ht9 hP.1⟩, hS.F ht9⟩) hS.2.2 dX11_moveOf_95
          · have h := it c_99 h
            refine lv_aload_n hx hb dX11_moveOf_80 rfl (lv_at hl 3 rfl) ?_
            refine lv_bipush (v := 6) hx hb dX11_moveOf_81 (by decide) ?_
            obtain ⟨z_101, e_z_101, h⟩ := bi h
            refine efVi (rest := []) ⟨hx, hb, hml, hown, ht⟩ (c_X11_refuse l D cy fu A_b (A_T 0) (A_a 0) r_b_war r_b_draftArmy r_b_draftWar r_b_reader r_b_armyReader r_b_warReader r_b_markedArmies r_b_markedWars r_b_latest r_b_trial (A_f 0) r_b_pairs b_latestStatus b_fractionTop b_fractionBottom b_marks 6 z_101 e_z_101 _ rfl _ rfl) (cV ht mv_X11_refuse tb_543 rfl rfl ⟨Nat.le_of_ble_eq_true rfl, Nat.le_of_ble_eq_true rfl⟩) hP hS hX [0] rfl rfl rfl rfl rfl rfl hl.1 rfl (Nat.le_of_ble_eq_true rfl) dX11_moveOf_83 ⟨Nat.le_of_ble_eq_true rfl, Nat.le_of_ble_eq_true rfl⟩ (fun H locs hP hS => ?_)
            have hP : PD D A [bl_X11 cy A_b (A_T 0) (A_a 0) r_b_war r_b_draftArmy r_b_draftWar r_b_reader r_b_armyReader r_b_warReader r_b_markedArmies r_b_markedWars r_b_latest r_b_trial (A_f 0) r_b_pairs z_101.2 b_fractionTop b_fractionBottom b_marks, [(A_T 0, .inl (cy 4, 4, .inr (.inr (.inr (.inr (trf4 (A_y0 0) (A_y1 0) (A_y2 0) (A_y3 0)))))))], bl_X8 cy A_y0 y0_row y0_missing y0_sort y0_many, bl_X8 cy A_y1 y1_row y1_missing y1_sort y1_many, bl_X8 cy A_y2 y2_row y2_missing y2_sort y2_many, bl_X8 cy A_y3 y3_row y3_missing y3_sort y3_many, bl_X0 cy A_a a_name a_courage a_weight a_medals a_stood a_fled a_liked a_votes a_count a_living a_pride a_quota a_melted a_lost, bl_X4 cy A_f (A_n 0) z_97.1 z_97.2.1, bl_X0 cy A_n z_97.2.2.1 z_97.2.2.2.1 z_97.2.2.2.2.1 z_98.2.1 z_97.2.2.2.2.2.2.1 z_97.2.2.2.2.2.2.2.1 z_97.2.2.2.2.2.2.2.2.1 z_98.2.2 z_97.2.2.2.2.2.2.2.2.2.1 z_97.2.2.2.2.2.2.2.2.2.2.1 z_97.2.2.2.2.2.2.2.2.2.2.2.1 z_97.2.2.2.2.2.2.2.2.2.2.2.2.1 z_97.2.2.2.2.2.2.2.2.2.2.2.2.2.1 z_97.2.2.2.2.2.2.2.2.2.2.2.2.2.2] H := hP
            refine lv_goto (tgt := 95) hx hb dX11_moveOf_86 (by decide) ?_
            cases h
            subst hW1
            exact W.iret hx hb hr (fun _ ht9 _ => ⟨⟨_, (), rfl, rfl, hPt ht9 hP.1⟩, hS.F ht9⟩) hS.2.2 dX11_moveOf_95
        · have h := ie c_96 h
          refine lv_aload_n hx hb dX11_moveOf_41 rfl (lv_at hl 2 rfl) ?_
          refine lv_iload hx hb dX11_moveOf_42 (lv_at hl 0 rfl) ?_
          obtain ⟨z_102, e_z_102, h⟩ := bi h
          refine efVi (rest := []) ⟨hx, hb, hml, hown, ht⟩ (c_X11_refuse l D cy fu A_b (A_T 0) (A_a 0) r_b_war r_b_draftArmy r_b_draftWar r_b_reader r_b_armyReader r_b_warReader r_b_markedArmies r_b_markedWars r_b_latest r_b_trial (A_f 0) r_b_pairs b_latestStatus b_fractionTop b_fractionBottom b_marks z_92 z_102 e_z_102 _ rfl _ rfl) (cV ht mv_X11_refuse tb_543 rfl rfl ⟨Nat.le_of_ble_eq_true rfl, Nat.le_of_ble_eq_true rfl⟩) hP hS hX [0] rfl rfl rfl rfl rfl rfl hl.1 rfl (Nat.le_of_ble_eq_true rfl) dX11_moveOf_44 ⟨Nat.le_of_ble_eq_true rfl, Nat.le_of_ble_eq_true rfl⟩ (fun H locs hP hS => ?_)
          have hP : PD D A [bl_X11 cy A_b (A_T 0) (A_a 0) r_b_war r_b_draftArmy r_b_draftWar r_b_reader r_b_armyReader r_b_warReader r_b_markedArmies r_b_markedWars r_b_latest r_b_trial (A_f 0) r_b_pairs z_102.2 b_fractionTop b_fractionBottom b_marks, [(A_T 0, .inl (cy 4, 4, .inr (.inr (.inr (.inr (trf4 (A_y0 0) (A_y1 0) (A_y2 0) (A_y3 0)))))))], bl_X8 cy A_y0 y0_row y0_missing y0_sort y0_many, bl_X8 cy A_y1 y1_row y1_missing y1_sort y1_many, bl_X8 cy A_y2 y2_row y2_missing y2_sort y2_many, bl_X8 cy A_y3 y3_row y3_missing y3_sort y3_many, bl_X0 cy A_a a_name a_courage a_weight a_medals a_stood a_fled a_liked a_votes a_count a_living a_pride a_quota a_melted a_lost, bl_X4 cy A_f (A_n 0) f_sizes f_dangers, bl_X0 cy A_n n_name n_courage n_weight n_medals n_stood n_fled n_liked n_votes n_count n_living n_pride n_quota n_melted n_lost] H := hP
          cases h
          subst hW1
          exact W.iret hx hb hr (fun _ ht9 _ => ⟨⟨_, (), rfl, rfl, hPt ht9 hP.1⟩, hS.F ht9⟩) hS.2.2 dX11_moveOf_47
      · have h := it c_95 h
        refine lv_aload_n hx hb dX11_moveOf_30 rfl (lv_at hl 2 rfl) ?_
        refine lv_iconst (v := 1) hx hb dX11_moveOf_31 (by decide) ?_
        obtain ⟨z_103, e_z_103, h⟩ := bi h
        refine efVi (rest := []) ⟨hx, hb, hml, hown, ht⟩ (c_X11_refuse l D cy fu A_b (A_T 0) (A_a 0) r_b_war r_b_draftArmy r_b_draftWar r_b_reader r_b_armyReader r_b_warReader r_b_markedArmies r_b_markedWars r_b_latest r_b_trial (A_f 0) r_b_pairs b_latestStatus b_fractionTop b_fractionBottom b_marks 1 z_103 e_z_103 _ rfl _ rfl) (cV ht mv_X11_refuse tb_543 rfl rfl ⟨Nat.le_of_ble_eq_true rfl, Nat.le_of_ble_eq_true rfl⟩) hP hS hX [0] rfl rfl rfl rfl rfl rfl hl.1 rfl (Nat.le_of_ble_eq_true rfl) dX11_moveOf_32 ⟨Nat.le_of_ble_eq_true rfl, Nat.le_of_ble_eq_true rfl⟩ (fun H locs hP hS => ?_)
        have hP : PD D A [bl_X11 cy A_b (A_T 0) (A_a 0) r_b_war r_b_draftArmy r_b_draftWar r_b_reader r_b_armyReader r_b_warReader r_b_markedArmies r_b_markedWars r_b_latest r_b_trial (A_f 0) r_b_pairs z_103.2 b_fractionTop b_fractionBottom b_marks, [(A_T 0, .inl (cy 4, 4, .inr (.inr (.inr (.inr (trf4 (A_y0 0) (A_y1 0) (A_y2 0) (A_y3 0)))))))], bl_X8 cy A_y0 y0_row y0_missing y0_sort y0_many, bl_X8 cy A_y1 y1_row y1_missing y1_sort y1_many, bl_X8 cy A_y2 y2_row y2_missing y2_sort y2_many, bl_X8 cy A_y3 y3_row y3_missing y3_sort y3_many, bl_X0 cy A_a a_name a_courage a_weight a_medals a_stood a_fled a_liked a_votes a_count a_living a_pride a_quota a_melted a_lost, bl_X4 cy A_f (A_n 0) f_sizes f_dangers, bl_X0 cy A_n n_name n_courage n_weight n_medals n_stood n_fled n_liked n_votes n_count n_living n_pride n_quota n_melted n_lost] H := hP
        cases h
        subst hW1
        exact W.iret hx hb hr (fun _ ht9 _ => ⟨⟨_, (), rfl, rfl, hPt ht9 hP.1⟩, hS.F ht9⟩) hS.2.2 dX11_moveOf_35
  have h := ie c_91 h
  by_cases c_104 : x3 = 3
  · have h := it c_104 h
    refine roVq (rest := []) ⟨hx, hb, hml, hown, ht⟩ (c_X11_trayAt l D cy fu A_b (A_a 0) r_b_war r_b_draftArmy r_b_draftWar r_b_reader r_b_armyReader r_b_warReader r_b_markedArmies r_b_markedWars r_b_latest r_b_trial (A_f 0) r_b_pairs b_latestStatus b_fractionTop b_fractionBottom b_marks A_T (trf4 (A_y0 0) (A_y1 0) (A_y2 0) (A_y3 0)) x3 (some (A_y3 0)) (tray_3 c_104)) (cV ht mv_X11_trayAt tb_500 rfl rfl ⟨Nat.le_of_ble_eq_true rfl, Nat.le_of_ble_eq_true rfl⟩) (P_sub hP.1 [0, 1] rfl) hX rfl rfl rfl hl.1 rfl (Nat.le_of_ble_eq_true rfl) dX11_moveOf_2 ⟨Nat.le_of_ble_eq_true rfl, Nat.le_of_ble_eq_true rfl⟩ ?_
    refine lv_astore (lv' := [(5, .ref (A_y3 0)), (0, .ref (A_b 0)), (1, .int x1), (2, .int x2), (3, .int x3), (4, .int x4)]) hx hb dX11_moveOf_5 hl (by decide) rfl (fun ls hl => ?_)
    refine lv_aload_n hx hb dX11_moveOf_7 rfl (lv_at hl 1 rfl) ?_
    refine lv_iload_n hx hb dX11_moveOf_8 rfl (lv_at hl 2 rfl) ?_
    refine lv_iload_n hx hb dX11_moveOf_9 rfl (lv_at hl 3 rfl) ?_
    refine lv_aload hx hb dX11_moveOf_10 (lv_at hl 0 rfl) ?_
    refine lv_iload hx hb dX11_moveOf_12 (lv_at hl 5 rfl) ?_
    obtain ⟨z_105, e_z_105, h⟩ := bi h
    refine roVi (rest := []) ⟨hx, hb, hml, hown, ht⟩ (c_X11_gameRefusal l D cy fu A_b (A_T 0) r_b_war r_b_draftArmy r_b_draftWar r_b_reader r_b_armyReader r_b_warReader r_b_markedArmies r_b_markedWars r_b_latest r_b_trial (A_f 0) r_b_pairs b_latestStatus b_fractionTop b_fractionBottom b_marks A_y3 y3_row y3_missing y3_sort y3_many A_a a_name a_courage a_weight a_medals a_stood a_fled a_liked a_votes a_count a_living a_pride a_quota a_melted a_lost x1 x2 x4 z_105 e_z_105) (cV ht mv_X11_gameRefusal tb_1102 rfl rfl ⟨Nat.le_of_ble_eq_true rfl, Nat.le_of_ble_eq_true rfl⟩) (P_sub hP.1 [0, 5, 6] rfl) hX rfl rfl rfl hl.1 rfl (Nat.le_of_ble_eq_true rfl) dX11_moveOf_14 ⟨Nat.le_of_ble_eq_true rfl, Nat.le_of_ble_eq_true rfl⟩ ?_
    refine lv_istore (lv' := [(6, .int z_105), (5, .ref (A_y3 0)), (0, .ref (A_b 0)), (1, .int x1), (2, .int x2), (3, .int x3), (4, .int x4)]) hx hb dX11_moveOf_17 hl (by decide) rfl (fun ls hl => ?_)
    refine lv_iload hx hb dX11_moveOf_19 (lv_at hl 0 rfl) ?_
    refine lv_iconst (v := 1) hx hb dX11_moveOf_21 (by decide) ?_
    refine lv_icmp_eq (tgt := 30) hx hb dX11_moveOf_22 (by decide) (fun c_106 => ?_) (fun c_106 => ?_)
    · have h := it c_106 h
      refine lv_aload_n hx hb dX11_moveOf_30 rfl (lv_at hl 2 rfl) ?_
      refine lv_iconst (v := 1) hx hb dX11_moveOf_31 (by decide) ?_
      obtain ⟨z_107, e_z_107, h⟩ := bi h
      refine efVi (rest := []) ⟨hx, hb, hml, hown, ht⟩ (c_X11_refuse l D cy fu A_b (A_T 0) (A_a 0) r_b_war r_b_draftArmy r_b_draftWar r_b_reader r_b_armyReader r_b_warReader r_b_markedArmies r_b_markedWars r_b_latest r_b_trial (A_f 0) r_b_pairs b_latestStatus b_fractionTop b_fractionBottom b_marks 1 z_107 e_z_107 _ rfl _ rfl) (cV ht mv_X11_refuse tb_543 rfl rfl ⟨Nat.le_of_ble_eq_true rfl, Nat.le_of_ble_eq_true rfl⟩) hP hS hX [0] rfl rfl rfl rfl rfl rfl hl.1 rfl (Nat.le_of_ble_eq_true rfl) dX11_moveOf_32 ⟨Nat.le_of_ble_eq_true rfl, Nat.le_of_ble_eq_true rfl⟩ (fun H locs hP hS => ?_)
      have hP : PD D A [bl_X11 cy A_b (A_T 0) (A_a 0) r_b_war r_b_draftArmy r_b_draftWar r_b_reader r_b_armyReader r_b_warReader r_b_markedArmies r_b_markedWars r_b_latest r_b_trial (A_f 0) r_b_pairs z_107.2 b_fractionTop b_fractionBottom b_marks, [(A_T 0, .inl (cy 4, 4, .inr (.inr (.inr (.inr (trf4 (A_y0 0) (A_y1 0) (A_y2 0) (A_y3 0)))))))], bl_X8 cy A_y0 y0_row y0_missing y0_sort y0_many, bl_X8 cy A_y1 y1_row y1_missing y1_sort y1_many, bl_X8 cy A_y2 y2_row y2_missing y2_sort y2_many, bl_X8 cy A_y3 y3_row y3_missing y3_sort y3_many, bl_X0 cy A_a a_name a_courage a_weight a_medals a_stood a_fled a_liked a_votes a_count a_living a_pride a_quota a_melted a_lost, bl_X4 cy A_f (A_n 0) f_sizes f_dangers, bl_X0 cy A_n n_name n_courage n_weight n_medals n_stood n_fled n_liked n_votes n_count n_living n_pride n_quota n_melted n_lost] H := hP
      cases h
      subst hW1
      exact W.iret hx hb hr (fun _ ht9 _ => ⟨⟨_, (), rfl, rfl, hPt ht9 hP.1⟩, hS.F ht9⟩) hS.2.2 dX11_moveOf_35
    · have h := ie c_106 h
      refine lv_iload hx hb dX11_moveOf_25 (lv_at hl 6 rfl) ?_
      refine lv_if_ne (tgt := 36) hx hb dX11_moveOf_27 (by decide) (fun c_108 => ?_) (fun c_108 => ?_)
      · have h := ie c_108 h
        refine lv_iload hx hb dX11_moveOf_36 (lv_at hl 0 rfl) ?_
        refine lv_if_eq (tgt := 48) hx hb dX11_moveOf_38 (by decide) (fun c_109 => ?_) (fun c_109 => ?_)
        · have h := it c_109 h
          refine lv_aload_n hx hb dX11_moveOf_48 rfl (lv_at hl 2 rfl) ?_
          refine xget (i := 0) (j := 0) (k := 16) (T := TX11) hx hb ht tb_iX11 hown hX hP.1 rfl rfl rfl (by decide) tb_445 rfl dX11_moveOf_49 ?_
          refine lv_aload_n hx hb dX11_moveOf_52 rfl (lv_at hl 2 rfl) ?_
          refine xget (i := 0) (j := 0) (k := 4) (T := TX11) hx hb ht tb_iX11 hown hX hP.1 rfl rfl rfl (by decide) tb_433 rfl dX11_moveOf_53 ?_
          refine lv_aload hx hb dX11_moveOf_56 (lv_at hl 1 rfl) ?_
          refine lv_iload hx hb dX11_moveOf_58 (lv_at hl 6 rfl) ?_
          obtain ⟨z_110, e_z_110, h⟩ := bi h
          refine efVv (rest := []) ⟨hx, hb, hml, hown, ht⟩ (c_X4_look l D cy fu A_f f_sizes f_dangers A_n n_name n_courage n_weight n_medals n_stood n_fled n_liked n_votes n_count n_living n_pride n_quota n_melted n_lost A_a a_name a_courage a_weight a_medals a_stood a_fled a_liked a_votes a_count a_living a_pride a_quota a_melted a_lost A_y3 y3_row y3_missing y3_sort y3_many x4 z_110 e_z_110 _ rfl _ rfl) (cV ht mv_X4_look tb_991 rfl rfl ⟨Nat.le_of_ble_eq_true rfl, Nat.le_of_ble_eq_true rfl⟩) hP hS hX [7, 8, 6, 5] rfl rfl rfl rfl rfl rfl hl.1 rfl (Nat.le_of_ble_eq_true rfl) dX11_moveOf_60 ⟨Nat.le_of_ble_eq_true rfl, Nat.le_of_ble_eq_true rfl⟩ (fun H locs hP hS => ?_)
          have hP : PD D A [bl_X11 cy A_b (A_T 0) (A_a 0) r_b_war r_b_draftArmy r_b_draftWar r_b_reader r_b_armyReader r_b_warReader r_b_markedArmies r_b_markedWars r_b_latest r_b_trial (A_f 0) r_b_pairs b_latestStatus b_fractionTop b_fractionBottom b_marks, [(A_T 0, .inl (cy 4, 4, .inr (.inr (.inr (.inr (trf4 (A_y0 0) (A_y1 0) (A_y2 0) (A_y3 0)))))))], bl_X8 cy A_y0 y0_row y0_missing y0_sort y0_many, bl_X8 cy A_y1 y1_row y1_missing y1_sort y1_many, bl_X8 cy A_y2 y2_row y2_missing y2_sort y2_many, bl_X8 cy A_y3 y3_row y3_missing y3_sort y3_many, bl_X0 cy A_a a_name a_courage a_weight a_medals a_stood a_fled a_liked a_votes a_count a_living a_pride a_quota a_melted a_lost, bl_X4 cy A_f (A_n 0) z_110.1 z_110.2.1, bl_X0 cy A_n z_110.2.2.1 z_110.2.2.2.1 z_110.2.2.2.2.1 z_110.2.2.2.2.2.1 z_110.2.2.2.2.2.2.1 z_110.2.2.2.2.2.2.2.1 z_110.2.2.2.2.2.2.2.2.1 n_votes z_110.2.2.2.2.2.2.2.2.2.1 z_110.2.2.2.2.2.2.2.2.2.2.1 z_110.2.2.2.2.2.2.2.2.2.2.2.1 z_110.2.2.2.2.2.2.2.2.2.2.2.2.1 z_110.2.2.2.2.2.2.2.2.2.2.2.2.2.1 z_110.2.2.2.2.2.2.2.2.2.2.2.2.2.2] H := hP
          refine lv_aload_n hx hb dX11_moveOf_63 rfl (lv_at hl 2 rfl) ?_
          refine xget (i := 0) (j := 0) (k := 16) (T := TX11) hx hb ht tb_iX11 hown hX hP.1 rfl rfl rfl (by decide) tb_445 rfl dX11_moveOf_64 ?_
          refine lv_iload_n hx hb dX11_moveOf_67 rfl (lv_at hl 3 rfl) ?_
          refine lv_iload_n hx hb dX11_moveOf_68 rfl (lv_at hl 4 rfl) ?_
          obtain ⟨z_111, e_z_111, h⟩ := bi h
          refine efVi (rest := []) ⟨hx, hb, hml, hown, ht⟩ (c_X4_moveFor l D cy fu A_f z_110.1 z_110.2.1 A_n z_110.2.2.1 z_110.2.2.2.1 z_110.2.2.2.2.1 z_110.2.2.2.2.2.1 z_110.2.2.2.2.2.2.1 z_110.2.2.2.2.2.2.2.1 z_110.2.2.2.2.2.2.2.2.1 n_votes z_110.2.2.2.2.2.2.2.2.2.1 z_110.2.2.2.2.2.2.2.2.2.2.1 z_110.2.2.2.2.2.2.2.2.2.2.2.1 z_110.2.2.2.2.2.2.2.2.2.2.2.2.1 z_110.2.2.2.2.2.2.2.2.2.2.2.2.2.1 z_110.2.2.2.2.2.2.2.2.2.2.2.2.2.2 x1 x2 z_111 e_z_111 _ rfl _ rfl) (cV ht mv_X4_moveFor tb_1122 rfl rfl ⟨Nat.le_of_ble_eq_true rfl, Nat.le_of_ble_eq_true rfl⟩) hP hS hX [7, 8] rfl rfl rfl rfl rfl rfl hl.1 rfl (Nat.le_of_ble_eq_true rfl) dX11_moveOf_69 ⟨Nat.le_of_ble_eq_true rfl, Nat.le_of_ble_eq_true rfl⟩ (fun H locs hP hS => ?_)
          have hP : PD D A [bl_X11 cy A_b (A_T 0) (A_a 0) r_b_war r_b_draftArmy r_b_draftWar r_b_reader r_b_armyReader r_b_warReader r_b_markedArmies r_b_markedWars r_b_latest r_b_trial (A_f 0) r_b_pairs b_latestStatus b_fractionTop b_fractionBottom b_marks, [(A_T 0, .inl (cy 4, 4, .inr (.inr (.inr (.inr (trf4 (A_y0 0) (A_y1 0) (A_y2 0) (A_y3 0)))))))], bl_X8 cy A_y0 y0_row y0_missing y0_sort y0_many, bl_X8 cy A_y1 y1_row y1_missing y1_sort y1_many, bl_X8 cy A_y2 y2_row y2_missing y2_sort y2_many, bl_X8 cy A_y3 y3_row y3_missing y3_sort y3_many, bl_X0 cy A_a a_name a_courage a_weight a_medals a_stood a_fled a_liked a_votes a_count a_living a_pride a_quota a_melted a_lost, bl_X4 cy A_f (A_n 0) z_110.1 z_110.2.1, bl_X0 cy A_n z_110.2.2.1 z_110.2.2.2.1 z_110.2.2.2.2.1 z_111.2.1 z_110.2.2.2.2.2.2.1 z_110.2.2.2.2.2.2.2.1 z_110.2.2.2.2.2.2.2.2.1 z_111.2.2 z_110.2.2.2.2.2.2.2.2.2.1 z_110.2.2.2.2.2.2.2.2.2.2.1 z_110.2.2.2.2.2.2.2.2.2.2.2.1 z_110.2.2.2.2.2.2.2.2.2.2.2.2.1 z_110.2.2.2.2.2.2.2.2.2.2.2.2.2.1 z_110.2.2.2.2.2.2.2.2.2.2.2.2.2.2] H := hP
          refine lv_istore (lv' := [(7, .int z_111.1), (6, .int z_105), (5, .ref (A_y3 0)), (0, .ref (A_b 0)), (1, .int x1), (2, .int x2), (3, .int x3), (4, .int x4)]) hx hb dX11_moveOf_72 hl (by decide) rfl (fun ls hl => ?_)
          refine lv_iload hx hb dX11_moveOf_74 (lv_at hl 0 rfl) ?_
          refine lv_iconst (v := (-1)) hx hb dX11_moveOf_76 (by decide) ?_
          refine lv_icmp_ne (tgt := 89) hx hb dX11_moveOf_77 (by decide) (fun c_112 => ?_) (fun c_112 => ?_)
          · have h := ie c_112 h
            refine lv_aload_n hx hb dX11_moveOf_89 rfl (lv_at hl 3 rfl) ?_
            refine lv_iload hx hb dX11_moveOf_90 (lv_at hl 0 rfl) ?_
            obtain ⟨z_113, e_z_113, h⟩ := bi h
            refine efVi (rest := []) ⟨hx, hb, hml, hown, ht⟩ (c_X11_answer l D cy fu A_b (A_T 0) (A_a 0) r_b_war r_b_draftArmy r_b_draftWar r_b_reader r_b_armyReader r_b_warReader r_b_markedArmies r_b_markedWars r_b_latest r_b_trial (A_f 0) r_b_pairs b_latestStatus b_fractionTop b_fractionBottom b_marks z_111.1 z_113 e_z_113 _ rfl _ rfl) (cV ht mv_X11_answer tb_696 rfl rfl ⟨Nat.le_of_ble_eq_true rfl, Nat.le_of_ble_eq_true rfl⟩) hP hS hX [0] rfl rfl rfl rfl rfl rfl hl.1 rfl (Nat.le_of_ble_eq_true rfl) dX11_moveOf_92 ⟨Nat.le_of_ble_eq_true rfl, Nat.le_of_ble_eq_true rfl⟩ (fun H locs hP hS => ?_)
            have hP : PD D A [bl_X11 cy A_b (A_T 0) (A_a 0) r_b_war r_b_draftArmy r_b_draftWar r_b_reader r_b_armyReader r_b_warReader r_b_markedArmies r_b_markedWars r_b_latest r_b_trial (A_f 0) r_b_pairs z_113.2 b_fractionTop b_fractionBottom b_marks, [(A_T 0, .inl (cy 4, 4, .inr (.inr (.inr (.inr (trf4 (A_y0 0) (A_y1 0) (A_y2 0) (A_y3 0)))))))], bl_X8 cy A_y0 y0_row y0_missing y0_sort y0_many, bl_X8 cy A_y1 y1_row y1_missing y1_sort y1_many, bl_X8 cy A_y2 y2_row y2_missing y2_sort y2_many, bl_X8 cy A_y3 y3_row y3_missing y3_sort y3_many, bl_X0 cy A_a a_name a_courage a_weight a_medals a_stood a_fled a_liked a_votes a_count a_living a_pride a_quota a_melted a_lost, bl_X4 cy A_f (A_n 0) z_110.1 z_110.2.1, bl_X0 cy A_n z_110.2.2.1 z_110.2.2.2.1 z_110.2.2.2.2.1 z_111.2.1 z_110.2.2.2.2.2.2.1 z_110.2.2.2.2.2.2.2.1 z_110.2.2.2.2.2.2.2.2.1 z_111.2.2 z_110.2.2.2.2.2.2.2.2.2.1 z_110.2.2.2.2.2.2.2.2.2.2.1 z_110.2.2.2.2.2.2.2.2.2.2.2.1 z_110.2.2.2.2.2.2.2.2.2.2.2.2.1 z_110.2.2.2.2.2.2.2.2.2.2.2.2.2.1 z_110.2.2.2.2.2.2.2.2.2.2.2.2.2.2] H := hP
            cases h
            subst hW1
            exact W.iret hx hb hr (fun _ ht9 _ => ⟨⟨_, (), rfl, rfl, hPt ht9 hP.1⟩, hS.F ht9⟩) hS.2.2 dX11_moveOf_95
          · have h := it c_112 h
            refine lv_aload_n hx hb dX11_moveOf_80 rfl (lv_at hl 3 rfl) ?_
            refine lv_bipush (v := 6) hx hb dX11_moveOf_81 (by decide) ?_
            obtain ⟨z_114, e_z_114, h⟩ := bi h
            refine efVi (rest := []) ⟨hx, hb, hml, hown, ht⟩ (c_X11_refuse l D cy fu A_b (A_T 0) (A_a 0) r_b_war r_b_draftArmy r_b_draftWar r_b_reader r_b_armyReader r_b_warReader r_b_markedArmies r_b_markedWars r_b_latest r_b_trial (A_f 0) r_b_pairs b_latestStatus b_fractionTop b_fractionBottom b_marks 6 z_114 e_z_114 _ rfl _ rfl) (cV ht mv_X11_refuse tb_543 rfl rfl ⟨Nat.le_of_ble_eq_true rfl, Nat.le_of_ble_eq_true rfl⟩) hP hS hX [0] rfl rfl rfl rfl rfl rfl hl.1 rfl (Nat.le_of_ble_eq_true rfl) dX11_moveOf_83 ⟨Nat.le_of_ble_eq_true rfl, Nat.le_of_ble_eq_true rfl⟩ (fun H locs hP hS => ?_)
            have hP : PD D A [bl_X11 cy A_b (A_T 0) (A_a 0) r_b_war r_b_draftArmy r_b_draftWar r_b_reader r_b_armyReader r_b_warReader r_b_markedArmies r_b_markedWars r_b_latest r_b_trial (A_f 0) r_b_pairs z_114.2 b_fractionTop b_fractionBottom b_marks, [(A_T 0, .inl (cy 4, 4, .inr (.inr (.inr (.inr (trf4 (A_y0 0) (A_y1 0) (A_y2 0) (A_y3 0)))))))], bl_X8 cy A_y0 y0_row y0_missing y0_sort y0_many, bl_X8 cy A_y1 y1_row y1_missing y1_sort y1_many, bl_X8 cy A_y2 y2_row y2_missing y2_sort y2_many, bl_X8 cy A_y3 y3_row y3_missing y3_sort y3_many, bl_X0 cy A_a a_name a_courage a_weight a_medals a_stood a_fled a_liked a_votes a_count a_living a_pride a_quota a_melted a_lost, bl_X4 cy A_f (A_n 0) z_110.1 z_110.2.1, bl_X0 cy A_n z_110.2.2.1 z_110.2.2.2.1 z_110.2.2.2.2.1 z_111.2.1 z_110.2.2.2.2.2.2.1 z_110.2.2.2.2.2.2.2.1 z_110.2.2.2.2.2.2.2.2.1 z_111.2.2 z_110.2.2.2.2.2.2.2.2.2.1 z_110.2.2.2.2.2.2.2.2.2.2.1 z_110.2.2.2.2.2.2.2.2.2.2.2.1 z_110.2.2.2.2.2.2.2.2.2.2.2.2.1 z_110.2.2.2.2.2.2.2.2.2.2.2.2.2.1 z_110.2.2.2.2.2.2.2.2.2.2.2.2.2.2] H := hP
            refine lv_goto (tgt := 95) hx hb dX11_moveOf_86 (by decide) ?_
            cases h
            subst hW1
            exact W.iret hx hb hr (fun _ ht9 _ => ⟨⟨_, (), rfl, rfl, hPt ht9 hP.1⟩, hS.F ht9⟩) hS.2.2 dX11_moveOf_95
        · have h := ie c_109 h
          refine lv_aload_n hx hb dX11_moveOf_41 rfl (lv_at hl 2 rfl) ?_
          refine lv_iload hx hb dX11_moveOf_42 (lv_at hl 0 rfl) ?_
          obtain ⟨z_115, e_z_115, h⟩ := bi h
          refine efVi (rest := []) ⟨hx, hb, hml, hown, ht⟩ (c_X11_refuse l D cy fu A_b (A_T 0) (A_a 0) r_b_war r_b_draftArmy r_b_draftWar r_b_reader r_b_armyReader r_b_warReader r_b_markedArmies r_b_markedWars r_b_latest r_b_trial (A_f 0) r_b_pairs b_latestStatus b_fractionTop b_fractionBottom b_marks z_105 z_115 e_z_115 _ rfl _ rfl) (cV ht mv_X11_refuse tb_543 rfl rfl ⟨Nat.le_of_ble_eq_true rfl, Nat.le_of_ble_eq_true rfl⟩) hP hS hX [0] rfl rfl rfl rfl rfl rfl hl.1 rfl (Nat.le_of_ble_eq_true rfl) dX11_moveOf_44 ⟨Nat.le_of_ble_eq_true rfl, Nat.le_of_ble_eq_true rfl⟩ (fun H locs hP hS => ?_)
          have hP : PD D A [bl_X11 cy A_b (A_T 0) (A_a 0) r_b_war r_b_draftArmy r_b_draftWar r_b_reader r_b_armyReader r_b_warReader r_b_markedArmies r_b_markedWars r_b_latest r_b_trial (A_f 0) r_b_pairs z_115.2 b_fractionTop b_fractionBottom b_marks, [(A_T 0, .inl (cy 4, 4, .inr (.inr (.inr (.inr (trf4 (A_y0 0) (A_y1 0) (A_y2 0) (A_y3 0)))))))], bl_X8 cy A_y0 y0_row y0_missing y0_sort y0_many, bl_X8 cy A_y1 y1_row y1_missing y1_sort y1_many, bl_X8 cy A_y2 y2_row y2_missing y2_sort y2_many, bl_X8 cy A_y3 y3_row y3_missing y3_sort y3_many, bl_X0 cy A_a a_name a_courage a_weight a_medals a_stood a_fled a_liked a_votes a_count a_living a_pride a_quota a_melted a_lost, bl_X4 cy A_f (A_n 0) f_sizes f_dangers, bl_X0 cy A_n n_name n_courage n_weight n_medals n_stood n_fled n_liked n_votes n_count n_living n_pride n_quota n_melted n_lost] H := hP
          cases h
          subst hW1
          exact W.iret hx hb hr (fun _ ht9 _ => ⟨⟨_, (), rfl, rfl, hPt ht9 hP.1⟩, hS.F ht9⟩) hS.2.2 dX11_moveOf_47
      · have h := it c_108 h
        refine lv_aload_n hx hb dX11_moveOf_30 rfl (lv_at hl 2 rfl) ?_
        refine lv_iconst (v := 1) hx hb dX11_moveOf_31 (by decide) ?_
        obtain ⟨z_116, e_z_116, h⟩ := bi h
        refine efVi (rest := []) ⟨hx, hb, hml, hown, ht⟩ (c_X11_refuse l D cy fu A_b (A_T 0) (A_a 0) r_b_war r_b_draftArmy r_b_draftWar r_b_reader r_b_armyReader r_b_warReader r_b_markedArmies r_b_markedWars r_b_latest r_b_trial (A_f 0) r_b_pairs b_latestStatus b_fractionTop b_fractionBottom b_marks 1 z_116 e_z_116 _ rfl _ rfl) (cV ht mv_X11_refuse tb_543 rfl rfl ⟨Nat.le_of_ble_eq_true rfl, Nat.le_of_ble_eq_true rfl⟩) hP hS hX [0] rfl rfl rfl rfl rfl rfl hl.1 rfl (Nat.le_of_ble_eq_true rfl) dX11_moveOf_32 ⟨Nat.le_of_ble_eq_true rfl, Nat.le_of_ble_eq_true rfl⟩ (fun H locs hP hS => ?_)
        have hP : PD D A [bl_X11 cy A_b (A_T 0) (A_a 0) r_b_war r_b_draftArmy r_b_draftWar r_b_reader r_b_armyReader r_b_warReader r_b_markedArmies r_b_markedWars r_b_latest r_b_trial (A_f 0) r_b_pairs z_116.2 b_fractionTop b_fractionBottom b_marks, [(A_T 0, .inl (cy 4, 4, .inr (.inr (.inr (.inr (trf4 (A_y0 0) (A_y1 0) (A_y2 0) (A_y3 0)))))))], bl_X8 cy A_y0 y0_row y0_missing y0_sort y0_many, bl_X8 cy A_y1 y1_row y1_missing y1_sort y1_many, bl_X8 cy A_y2 y2_row y2_missing y2_sort y2_many, bl_X8 cy A_y3 y3_row y3_missing y3_sort y3_many, bl_X0 cy A_a a_name a_courage a_weight a_medals a_stood a_fled a_liked a_votes a_count a_living a_pride a_quota a_melted a_lost, bl_X4 cy A_f (A_n 0) f_sizes f_dangers, bl_X0 cy A_n n_name n_courage n_weight n_medals n_stood n_fled n_liked n_votes n_count n_living n_pride n_quota n_melted n_lost] H := hP
        cases h
        subst hW1
        exact W.iret hx hb hr (fun _ ht9 _ => ⟨⟨_, (), rfl, rfl, hPt ht9 hP.1⟩, hS.F ht9⟩) hS.2.2 dX11_moveOf_35
  have h := ie c_104 h
  refine roVq (rest := []) ⟨hx, hb, hml, hown, ht⟩ (c_X11_trayAt l D cy fu A_b (A_a 0) r_b_war r_b_draftArmy r_b_draftWar r_b_reader r_b_armyReader r_b_warReader r_b_markedArmies r_b_markedWars r_b_latest r_b_trial (A_f 0) r_b_pairs b_latestStatus b_fractionTop b_fractionBottom b_marks A_T (trf4 (A_y0 0) (A_y1 0) (A_y2 0) (A_y3 0)) x3 (none) (tray_out ⟨c_65, c_78, c_91, c_104⟩)) (cV ht mv_X11_trayAt tb_500 rfl rfl ⟨Nat.le_of_ble_eq_true rfl, Nat.le_of_ble_eq_true rfl⟩) (P_sub hP.1 [0, 1] rfl) hX rfl rfl rfl hl.1 rfl (Nat.le_of_ble_eq_true rfl) dX11_moveOf_2 ⟨Nat.le_of_ble_eq_true rfl, Nat.le_of_ble_eq_true rfl⟩ ?_
  refine lv_astoreN (lv' := [(5, .null), (0, .ref (A_b 0)), (1, .int x1), (2, .int x2), (3, .int x3), (4, .int x4)]) hx hb dX11_moveOf_5 hl (by decide) rfl (fun ls hl => ?_)
  refine lv_aload_n hx hb dX11_moveOf_7 rfl (lv_at hl 1 rfl) ?_
  refine lv_iload_n hx hb dX11_moveOf_8 rfl (lv_at hl 2 rfl) ?_
  refine lv_iload_n hx hb dX11_moveOf_9 rfl (lv_at hl 3 rfl) ?_
  refine lv_aloadN hx hb dX11_moveOf_10 (lv_at hl 0 rfl) ?_
  refine lv_iload hx hb dX11_moveOf_12 (lv_at hl 5 rfl) ?_
  obtain ⟨z_117, e_z_117, h⟩ := bi h
  refine roVi (rest := []) ⟨hx, hb, hml, hown, ht⟩ (c_X11_gameRefusal_n3 l D cy fu A_b (A_T 0) r_b_war r_b_draftArmy r_b_draftWar r_b_reader r_b_armyReader r_b_warReader r_b_markedArmies r_b_markedWars r_b_latest r_b_trial (A_f 0) r_b_pairs b_latestStatus b_fractionTop b_fractionBottom b_marks A_a a_name a_courage a_weight a_medals a_stood a_fled a_liked a_votes a_count a_living a_pride a_quota a_melted a_lost x1 x2 x4 z_117 e_z_117) (cV ht mv_X11_gameRefusal tb_1102 rfl rfl ⟨Nat.le_of_ble_eq_true rfl, Nat.le_of_ble_eq_true rfl⟩) (P_sub hP.1 [0, 6] rfl) hX rfl rfl rfl hl.1 rfl (Nat.le_of_ble_eq_true rfl) dX11_moveOf_14 ⟨Nat.le_of_ble_eq_true rfl, Nat.le_of_ble_eq_true rfl⟩ ?_
  refine lv_istore (lv' := [(6, .int z_117), (5, .null), (0, .ref (A_b 0)), (1, .int x1), (2, .int x2), (3, .int x3), (4, .int x4)]) hx hb dX11_moveOf_17 hl (by decide) rfl (fun ls hl => ?_)
  refine lv_iload hx hb dX11_moveOf_19 (lv_at hl 0 rfl) ?_
  refine lv_iconst (v := 1) hx hb dX11_moveOf_21 (by decide) ?_
  refine lv_icmp_eq (tgt := 30) hx hb dX11_moveOf_22 (by decide) (fun c_118 => ?_) (fun c_118 => ?_)
  · have h := it c_118 h
    refine lv_aload_n hx hb dX11_moveOf_30 rfl (lv_at hl 2 rfl) ?_
    refine lv_iconst (v := 1) hx hb dX11_moveOf_31 (by decide) ?_
    obtain ⟨z_119, e_z_119, h⟩ := bi h
    refine efVi (rest := []) ⟨hx, hb, hml, hown, ht⟩ (c_X11_refuse l D cy fu A_b (A_T 0) (A_a 0) r_b_war r_b_draftArmy r_b_draftWar r_b_reader r_b_armyReader r_b_warReader r_b_markedArmies r_b_markedWars r_b_latest r_b_trial (A_f 0) r_b_pairs b_latestStatus b_fractionTop b_fractionBottom b_marks 1 z_119 e_z_119 _ rfl _ rfl) (cV ht mv_X11_refuse tb_543 rfl rfl ⟨Nat.le_of_ble_eq_true rfl, Nat.le_of_ble_eq_true rfl⟩) hP hS hX [0] rfl rfl rfl rfl rfl rfl hl.1 rfl (Nat.le_of_ble_eq_true rfl) dX11_moveOf_32 ⟨Nat.le_of_ble_eq_true rfl, Nat.le_of_ble_eq_true rfl⟩ (fun H locs hP hS => ?_)
    have hP : PD D A [bl_X11 cy A_b (A_T 0) (A_a 0) r_b_war r_b_draftArmy r_b_draftWar r_b_reader r_b_armyReader r_b_warReader r_b_markedArmies r_b_markedWars r_b_latest r_b_trial (A_f 0) r_b_pairs z_119.2 b_fractionTop b_fractionBottom b_marks, [(A_T 0, .inl (cy 4, 4, .inr (.inr (.inr (.inr (trf4 (A_y0 0) (A_y1 0) (A_y2 0) (A_y3 0)))))))], bl_X8 cy A_y0 y0_row y0_missing y0_sort y0_many, bl_X8 cy A_y1 y1_row y1_missing y1_sort y1_many, bl_X8 cy A_y2 y2_row y2_missing y2_sort y2_many, bl_X8 cy A_y3 y3_row y3_missing y3_sort y3_many, bl_X0 cy A_a a_name a_courage a_weight a_medals a_stood a_fled a_liked a_votes a_count a_living a_pride a_quota a_melted a_lost, bl_X4 cy A_f (A_n 0) f_sizes f_dangers, bl_X0 cy A_n n_name n_courage n_weight n_medals n_stood n_fled n_liked n_votes n_count n_living n_pride n_quota n_melted n_lost] H := hP
    cases h
    subst hW1
    exact W.iret hx hb hr (fun _ ht9 _ => ⟨⟨_, (), rfl, rfl, hPt ht9 hP.1⟩, hS.F ht9⟩) hS.2.2 dX11_moveOf_35
  · have h := ie c_118 h
    refine lv_iload hx hb dX11_moveOf_25 (lv_at hl 6 rfl) ?_
    refine lv_if_ne (tgt := 36) hx hb dX11_moveOf_27 (by decide) (fun c_120 => ?_) (fun c_120 => ?_)
    · have h := ie c_120 h
      refine lv_iload hx hb dX11_moveOf_36 (lv_at hl 0 rfl) ?_
      refine lv_if_eq (tgt := 48) hx hb dX11_moveOf_38 (by decide) (fun c_121 => ?_) (fun c_121 => ?_)
      · have h := it c_121 h
        refine lv_aload_n hx hb dX11_moveOf_48 rfl (lv_at hl 2 rfl) ?_
        refine xget (i := 0) (j := 0) (k := 16) (T := TX11) hx hb ht tb_iX11 hown hX hP.1 rfl rfl rfl (by decide) tb_445 rfl dX11_moveOf_49 ?_
        refine lv_aload_n hx hb dX11_moveOf_52 rfl (lv_at hl 2 rfl) ?_
        refine xget (i := 0) (j := 0) (k := 4) (T := TX11) hx hb ht tb_iX11 hown hX hP.1 rfl rfl rfl (by decide) tb_433 rfl dX11_moveOf_53 ?_
        refine lv_aloadN hx hb dX11_moveOf_56 (lv_at hl 1 rfl) ?_
        refine lv_iload hx hb dX11_moveOf_58 (lv_at hl 6 rfl) ?_
        obtain ⟨z_122, e_z_122, h⟩ := bi h
        refine efVv (rest := []) ⟨hx, hb, hml, hown, ht⟩ (c_X4_look_n2 l D cy fu A_f f_sizes f_dangers A_n n_name n_courage n_weight n_medals n_stood n_fled n_liked n_votes n_count n_living n_pride n_quota n_melted n_lost A_a a_name a_courage a_weight a_medals a_stood a_fled a_liked a_votes a_count a_living a_pride a_quota a_melted a_lost x4 z_122 e_z_122 _ rfl _ rfl) (cV ht mv_X4_look tb_991 rfl rfl ⟨Nat.le_of_ble_eq_true rfl, Nat.le_of_ble_eq_true rfl⟩) hP hS hX [7, 8, 6] rfl rfl rfl rfl rfl rfl hl.1 rfl (Nat.le_of_ble_eq_true rfl) dX11_moveOf_60 ⟨Nat.le_of_ble_eq_true rfl, Nat.le_of_ble_eq_true rfl⟩ (fun H locs hP hS => ?_)
        have hP : PD D A [bl_X11 cy A_b (A_T 0) (A_a 0) r_b_war r_b_draftArmy r_b_draftWar r_b_reader r_b_armyReader r_b_warReader r_b_markedArmies r_b_markedWars r_b_latest r_b_trial (A_f 0) r_b_pairs b_latestStatus b_fractionTop b_fractionBottom b_marks, [(A_T 0, .inl (cy 4, 4, .inr (.inr (.inr (.inr (trf4 (A_y0 0) (A_y1 0) (A_y2 0) (A_y3 0)))))))], bl_X8 cy A_y0 y0_row y0_missing y0_sort y0_many, bl_X8 cy A_y1 y1_row y1_missing y1_sort y1_many, bl_X8 cy A_y2 y2_row y2_missing y2_sort y2_many, bl_X8 cy A_y3 y3_row y3_missing y3_sort y3_many, bl_X0 cy A_a a_name a_courage a_weight a_medals a_stood a_fled a_liked a_votes a_count a_living a_pride a_quota a_melted a_lost, bl_X4 cy A_f (A_n 0) f_sizes z_122.1, bl_X0 cy A_n z_122.2.1 z_122.2.2.1 z_122.2.2.2.1 z_122.2.2.2.2.1 z_122.2.2.2.2.2.1 z_122.2.2.2.2.2.2.1 z_122.2.2.2.2.2.2.2.1 n_votes z_122.2.2.2.2.2.2.2.2.1 z_122.2.2.2.2.2.2.2.2.2.1 z_122.2.2.2.2.2.2.2.2.2.2.1 z_122.2.2.2.2.2.2.2.2.2.2.2.1 z_122.2.2.2.2.2.2.2.2.2.2.2.2.1 z_122.2.2.2.2.2.2.2.2.2.2.2.2.2] H := hP
        refine lv_aload_n hx hb dX11_moveOf_63 rfl (lv_at hl 2 rfl) ?_
        refine xget (i := 0) (j := 0) (k := 16) (T := TX11) hx hb ht tb_iX11 hown hX hP.1 rfl rfl rfl (by decide) tb_445 rfl dX11_moveOf_64 ?_
        refine lv_iload_n hx hb dX11_moveOf_67 rfl (lv_at hl 3 rfl) ?_
        refine lv_iload_n hx hb dX11_moveOf_68 rfl (lv_at hl 4 rfl) ?_
        obtain ⟨z_123, e_z_123, h⟩ := bi h
        refine efVi (rest := []) ⟨hx, hb, hml, hown, ht⟩ (c_X4_moveFor l D cy fu A_f f_sizes z_122.1 A_n z_122.2.1 z_122.2.2.1 z_122.2.2.2.1 z_122.2.2.2.2.1 z_122.2.2.2.2.2.1 z_122.2.2.2.2.2.2.1 z_122.2.2.2.2.2.2.2.1 n_votes z_122.2.2.2.2.2.2.2.2.1 z_122.2.2.2.2.2.2.2.2.2.1 z_122.2.2.2.2.2.2.2.2.2.2.1 z_122.2.2.2.2.2.2.2.2.2.2.2.1 z_122.2.2.2.2.2.2.2.2.2.2.2.2.1 z_122.2.2.2.2.2.2.2.2.2.2.2.2.2 x1 x2 z_123 e_z_123 _ rfl _ rfl) (cV ht mv_X4_moveFor tb_1122 rfl rfl ⟨Nat.le_of_ble_eq_true rfl, Nat.le_of_ble_eq_true rfl⟩) hP hS hX [7, 8] rfl rfl rfl rfl rfl rfl hl.1 rfl (Nat.le_of_ble_eq_true rfl) dX11_moveOf_69 ⟨Nat.le_of_ble_eq_true rfl, Nat.le_of_ble_eq_true rfl⟩ (fun H locs hP hS => ?_)
        have hP : PD D A [bl_X11 cy A_b (A_T 0) (A_a 0) r_b_war r_b_draftArmy r_b_draftWar r_b_reader r_b_armyReader r_b_warReader r_b_markedArmies r_b_markedWars r_b_latest r_b_trial (A_f 0) r_b_pairs b_latestStatus b_fractionTop b_fractionBottom b_marks, [(A_T 0, .inl (cy 4, 4, .inr (.inr (.inr (.inr (trf4 (A_y0 0) (A_y1 0) (A_y2 0) (A_y3 0)))))))], bl_X8 cy A_y0 y0_row y0_missing y0_sort y0_many, bl_X8 cy A_y1 y1_row y1_missing y1_sort y1_many, bl_X8 cy A_y2 y2_row y2_missing y2_sort y2_many, bl_X8 cy A_y3 y3_row y3_missing y3_sort y3_many, bl_X0 cy A_a a_name a_courage a_weight a_medals a_stood a_fled a_liked a_votes a_count a_living a_pride a_quota a_melted a_lost, bl_X4 cy A_f (A_n 0) f_sizes z_122.1, bl_X0 cy A_n z_122.2.1 z_122.2.2.1 z_122.2.2.2.1 z_123.2.1 z_122.2.2.2.2.2.1 z_122.2.2.2.2.2.2.1 z_122.2.2.2.2.2.2.2.1 z_123.2.2 z_122.2.2.2.2.2.2.2.2.1 z_122.2.2.2.2.2.2.2.2.2.1 z_122.2.2.2.2.2.2.2.2.2.2.1 z_122.2.2.2.2.2.2.2.2.2.2.2.1 z_122.2.2.2.2.2.2.2.2.2.2.2.2.1 z_122.2.2.2.2.2.2.2.2.2.2.2.2.2] H := hP
        refine lv_istore (lv' := [(7, .int z_123.1), (6, .int z_117), (5, .null), (0, .ref (A_b 0)), (1, .int x1), (2, .int x2), (3, .int x3), (4, .int x4)]) hx hb dX11_moveOf_72 hl (by decide) rfl (fun ls hl => ?_)
        refine lv_iload hx hb dX11_moveOf_74 (lv_at hl 0 rfl) ?_
        refine lv_iconst (v := (-1)) hx hb dX11_moveOf_76 (by decide) ?_
        refine lv_icmp_ne (tgt := 89) hx hb dX11_moveOf_77 (by decide) (fun c_124 => ?_) (fun c_124 => ?_)
        · have h := ie c_124 h
          refine lv_aload_n hx hb dX11_moveOf_89 rfl (lv_at hl 3 rfl) ?_
          refine lv_iload hx hb dX11_moveOf_90 (lv_at hl 0 rfl) ?_
          obtain ⟨z_125, e_z_125, h⟩ := bi h
          refine efVi (rest := []) ⟨hx, hb, hml, hown, ht⟩ (c_X11_answer l D cy fu A_b (A_T 0) (A_a 0) r_b_war r_b_draftArmy r_b_draftWar r_b_reader r_b_armyReader r_b_warReader r_b_markedArmies r_b_markedWars r_b_latest r_b_trial (A_f 0) r_b_pairs b_latestStatus b_fractionTop b_fractionBottom b_marks z_123.1 z_125 e_z_125 _ rfl _ rfl) (cV ht mv_X11_answer tb_696 rfl rfl ⟨Nat.le_of_ble_eq_true rfl, Nat.le_of_ble_eq_true rfl⟩) hP hS hX [0] rfl rfl rfl rfl rfl rfl hl.1 rfl (Nat.le_of_ble_eq_true rfl) dX11_moveOf_92 ⟨Nat.le_of_ble_eq_true rfl, Nat.le_of_ble_eq_true rfl⟩ (fun H locs hP hS => ?_)
          have hP : PD D A [bl_X11 cy A_b (A_T 0) (A_a 0) r_b_war r_b_draftArmy r_b_draftWar r_b_reader r_b_armyReader r_b_warReader r_b_markedArmies r_b_markedWars r_b_latest r_b_trial (A_f 0) r_b_pairs z_125.2 b_fractionTop b_fractionBottom b_marks, [(A_T 0, .inl (cy 4, 4, .inr (.inr (.inr (.inr (trf4 (A_y0 0) (A_y1 0) (A_y2 0) (A_y3 0)))))))], bl_X8 cy A_y0 y0_row y0_missing y0_sort y0_many, bl_X8 cy A_y1 y1_row y1_missing y1_sort y1_many, bl_X8 cy A_y2 y2_row y2_missing y2_sort y2_many, bl_X8 cy A_y3 y3_row y3_missing y3_sort y3_many, bl_X0 cy A_a a_name a_courage a_weight a_medals a_stood a_fled a_liked a_votes a_count a_living a_pride a_quota a_melted a_lost, bl_X4 cy A_f (A_n 0) f_sizes z_122.1, bl_X0 cy A_n z_122.2.1 z_122.2.2.1 z_122.2.2.2.1 z_123.2.1 z_122.2.2.2.2.2.1 z_122.2.2.2.2.2.2.1 z_122.2.2.2.2.2.2.2.1 z_123.2.2 z_122.2.2.2.2.2.2.2.2.1 z_122.2.2.2.2.2.2.2.2.2.1 z_122.2.2.2.2.2.2.2.2.2.2.1 z_122.2.2.2.2.2.2.2.2.2.2.2.1 z_122.2.2.2.2.2.2.2.2.2.2.2.2.1 z_122.2.2.2.2.2.2.2.2.2.2.2.2.2] H := hP
          cases h
          subst hW1
          exact W.iret hx hb hr (fun _ ht9 _ => ⟨⟨_, (), rfl, rfl, hPt ht9 hP.1⟩, hS.F ht9⟩) hS.2.2 dX11_moveOf_95
        · have h := it c_124 h
          refine lv_aload_n hx hb dX11_moveOf_80 rfl (lv_at hl 3 rfl) ?_
          refine lv_bipush (v := 6) hx hb dX11_moveOf_81 (by decide) ?_
          obtain ⟨z_126, e_z_126, h⟩ := bi h
          refine efVi (rest := []) ⟨hx, hb, hml, hown, ht⟩ (c_X11_refuse l D cy fu A_b (A_T 0) (A_a 0) r_b_war r_b_draftArmy r_b_draftWar r_b_reader r_b_armyReader r_b_warReader r_b_markedArmies r_b_markedWars r_b_latest r_b_trial (A_f 0) r_b_pairs b_latestStatus b_fractionTop b_fractionBottom b_marks 6 z_126 e_z_126 _ rfl _ rfl) (cV ht mv_X11_refuse tb_543 rfl rfl ⟨Nat.le_of_ble_eq_true rfl, Nat.le_of_ble_eq_true rfl⟩) hP hS hX [0] rfl rfl rfl rfl rfl rfl hl.1 rfl (Nat.le_of_ble_eq_true rfl) dX11_moveOf_83 ⟨Nat.le_of_ble_eq_true rfl, Nat.le_of_ble_eq_true rfl⟩ (fun H locs hP hS => ?_)
          have hP : PD D A [bl_X11 cy A_b (A_T 0) (A_a 0) r_b_war r_b_draftArmy r_b_draftWar r_b_reader r_b_armyReader r_b_warReader r_b_markedArmies r_b_markedWars r_b_latest r_b_trial (A_f 0) r_b_pairs z_126.2 b_fractionTop b_fractionBottom b_marks, [(A_T 0, .inl (cy 4, 4, .inr (.inr (.inr (.inr (trf4 (A_y0 0) (A_y1 0) (A_y2 0) (A_y3 0)))))))], bl_X8 cy A_y0 y0_row y0_missing y0_sort y0_many, bl_X8 cy A_y1 y1_row y1_missing y1_sort y1_many, bl_X8 cy A_y2 y2_row y2_missing y2_sort y2_many, bl_X8 cy A_y3 y3_row y3_missing y3_sort y3_many, bl_X0 cy A_a a_name a_courage a_weight a_medals a_stood a_fled a_liked a_votes a_count a_living a_pride a_quota a_melted a_lost, bl_X4 cy A_f (A_n 0) f_sizes z_122.1, bl_X0 cy A_n z_122.2.1 z_122.2.2.1 z_122.2.2.2.1 z_123.2.1 z_122.2.2.2.2.2.1 z_122.2.2.2.2.2.2.1 z_122.2.2.2.2.2.2.2.1 z_123.2.2 z_122.2.2.2.2.2.2.2.2.1 z_122.2.2.2.2.2.2.2.2.2.1 z_122.2.2.2.2.2.2.2.2.2.2.1 z_122.2.2.2.2.2.2.2.2.2.2.2.1 z_122.2.2.2.2.2.2.2.2.2.2.2.2.1 z_122.2.2.2.2.2.2.2.2.2.2.2.2.2] H := hP
          refine lv_goto (tgt := 95) hx hb dX11_moveOf_86 (by decide) ?_
          cases h
          subst hW1
          exact W.iret hx hb hr (fun _ ht9 _ => ⟨⟨_, (), rfl, rfl, hPt ht9 hP.1⟩, hS.F ht9⟩) hS.2.2 dX11_moveOf_95
      · have h := ie c_121 h
        refine lv_aload_n hx hb dX11_moveOf_41 rfl (lv_at hl 2 rfl) ?_
        refine lv_iload hx hb dX11_moveOf_42 (lv_at hl 0 rfl) ?_
        obtain ⟨z_127, e_z_127, h⟩ := bi h
        refine efVi (rest := []) ⟨hx, hb, hml, hown, ht⟩ (c_X11_refuse l D cy fu A_b (A_T 0) (A_a 0) r_b_war r_b_draftArmy r_b_draftWar r_b_reader r_b_armyReader r_b_warReader r_b_markedArmies r_b_markedWars r_b_latest r_b_trial (A_f 0) r_b_pairs b_latestStatus b_fractionTop b_fractionBottom b_marks z_117 z_127 e_z_127 _ rfl _ rfl) (cV ht mv_X11_refuse tb_543 rfl rfl ⟨Nat.le_of_ble_eq_true rfl, Nat.le_of_ble_eq_true rfl⟩) hP hS hX [0] rfl rfl rfl rfl rfl rfl hl.1 rfl (Nat.le_of_ble_eq_true rfl) dX11_moveOf_44 ⟨Nat.le_of_ble_eq_true rfl, Nat.le_of_ble_eq_true rfl⟩ (fun H locs hP hS => ?_)
        have hP : PD D A [bl_X11 cy A_b (A_T 0) (A_a 0) r_b_war r_b_draftArmy r_b_draftWar r_b_reader r_b_armyReader r_b_warReader r_b_markedArmies r_b_markedWars r_b_latest r_b_trial (A_f 0) r_b_pairs z_127.2 b_fractionTop b_fractionBottom b_marks, [(A_T 0, .inl (cy 4, 4, .inr (.inr (.inr (.inr (trf4 (A_y0 0) (A_y1 0) (A_y2 0) (A_y3 0)))))))], bl_X8 cy A_y0 y0_row y0_missing y0_sort y0_many, bl_X8 cy A_y1 y1_row y1_missing y1_sort y1_many, bl_X8 cy A_y2 y2_row y2_missing y2_sort y2_many, bl_X8 cy A_y3 y3_row y3_missing y3_sort y3_many, bl_X0 cy A_a a_name a_courage a_weight a_medals a_stood a_fled a_liked a_votes a_count a_living a_pride a_quota a_melted a_lost, bl_X4 cy A_f (A_n 0) f_sizes f_dangers, bl_X0 cy A_n n_name n_courage n_weight n_medals n_stood n_fled n_liked n_votes n_count n_living n_pride n_quota n_melted n_lost] H := hP
        cases h
        subst hW1
        exact W.iret hx hb hr (fun _ ht9 _ => ⟨⟨_, (), rfl, rfl, hPt ht9 hP.1⟩, hS.F ht9⟩) hS.2.2 dX11_moveOf_47
    · have h := it c_120 h
      refine lv_aload_n hx hb dX11_moveOf_30 rfl (lv_at hl 2 rfl) ?_
      refine lv_iconst (v := 1) hx hb dX11_moveOf_31 (by decide) ?_
      obtain ⟨z_128, e_z_128, h⟩ := bi h
      refine efVi (rest := []) ⟨hx, hb, hml, hown, ht⟩ (c_X11_refuse l D cy fu A_b (A_T 0) (A_a 0) r_b_war r_b_draftArmy r_b_draftWar r_b_reader r_b_armyReader r_b_warReader r_b_markedArmies r_b_markedWars r_b_latest r_b_trial (A_f 0) r_b_pairs b_latestStatus b_fractionTop b_fractionBottom b_marks 1 z_128 e_z_128 _ rfl _ rfl) (cV ht mv_X11_refuse tb_543 rfl rfl ⟨Nat.le_of_ble_eq_true rfl, Nat.le_of_ble_eq_true rfl⟩) hP hS hX [0] rfl rfl rfl rfl rfl rfl hl.1 rfl (Nat.le_of_ble_eq_true rfl) dX11_moveOf_32 ⟨Nat.le_of_ble_eq_true rfl, Nat.le_of_ble_eq_true rfl⟩ (fun H locs hP hS => ?_)
      have hP : PD D A [bl_X11 cy A_b (A_T 0) (A_a 0) r_b_war r_b_draftArmy r_b_draftWar r_b_reader r_b_armyReader r_b_warReader r_b_markedArmies r_b_markedWars r_b_latest r_b_trial (A_f 0) r_b_pairs z_128.2 b_fractionTop b_fractionBottom b_marks, [(A_T 0, .inl (cy 4, 4, .inr (.inr (.inr (.inr (trf4 (A_y0 0) (A_y1 0) (A_y2 0) (A_y3 0)))))))], bl_X8 cy A_y0 y0_row y0_missing y0_sort y0_many, bl_X8 cy A_y1 y1_row y1_missing y1_sort y1_many, bl_X8 cy A_y2 y2_row y2_missing y2_sort y2_many, bl_X8 cy A_y3 y3_row y3_missing y3_sort y3_many, bl_X0 cy A_a a_name a_courage a_weight a_medals a_stood a_fled a_liked a_votes a_count a_living a_pride a_quota a_melted a_lost, bl_X4 cy A_f (A_n 0) f_sizes f_dangers, bl_X0 cy A_n n_name n_courage n_weight n_medals n_stood n_fled n_liked n_votes n_count n_living n_pride n_quota n_melted n_lost] H := hP
      cases h
      subst hW1
      exact W.iret hx hb hr (fun _ ht9 _ => ⟨⟨_, (), rfl, rfl, hPt ht9 hP.1⟩, hS.F ht9⟩) hS.2.2 dX11_moveOf_35
theorem dX11_raised_0 : decode cX11_raised 0 = .ok (.lconst 1, 1) := by decide +kernel
theorem dX11_raised_1 : decode cX11_raised 1 = .ok (.lstore_n 3, 1) := by decide +kernel
theorem dX11_raised_2 : decode cX11_raised 2 = .ok (.iconst 0, 1) := by decide +kernel
theorem dX11_raised_3 : decode cX11_raised 3 = .ok (.istore 5, 2) := by decide +kernel
theorem dX11_raised_5 : decode cX11_raised 5 = .ok (.iload 5, 2) := by decide +kernel
theorem dX11_raised_7 : decode cX11_raised 7 = .ok (.iload_n 2, 1) := by decide +kernel
theorem dX11_raised_8 : decode cX11_raised 8 = .ok (.if_icmp .ge 13, 3) := by decide +kernel
theorem dX11_raised_11 : decode cX11_raised 11 = .ok (.lload_n 3, 1) := by decide +kernel
theorem dX11_raised_12 : decode cX11_raised 12 = .ok (.lload_n 0, 1) := by decide +kernel
theorem dX11_raised_13 : decode cX11_raised 13 = .ok (.lmul, 1) := by decide +kernel
theorem dX11_raised_14 : decode cX11_raised 14 = .ok (.lstore_n 3, 1) := by decide +kernel
theorem dX11_raised_15 : decode cX11_raised 15 = .ok (.iinc 5 1, 3) := by decide +kernel
theorem dX11_raised_18 : decode cX11_raised 18 = .ok (.goto (-13), 3) := by decide +kernel
theorem dX11_raised_21 : decode cX11_raised 21 = .ok (.lload_n 3, 1) := by decide +kernel
theorem dX11_raised_22 : decode cX11_raised 22 = .ok (.lreturn, 1) := by decide +kernel
theorem ms_X11_raised : MS yX11_raised cX11_raised 6 (some .long) 2 := ⟨tb_1135, tb_1134, tb_1, by decide +kernel, by decide +kernel, by decide +kernel⟩
def f_X11_raised_b5 (fu : Nat) (x0 : Int64) (x2 : Int32) (k5 : Int64 → Int32 → Option (Int64)) (x3 : Int64) (x5 : Int32) : Option (Int64) := (if x2 ≤ x5 then some (x3) else bnd (x3 * x0) fun x3_5 => bnd (x5 + 1) fun x5_6 => k5 x3_5 x5_6)
def f_X11_raised_l5 (fu : Nat) (x0 : Int64) (x2 : Int32) : Nat → Int64 → Int32 → Option (Int64)
  | 0, _, _ => none
  | n + 1, x3, x5 => f_X11_raised_b5 fu x0 x2 (f_X11_raised_l5 fu x0 x2 n) x3 x5
def f_X11_raised (fu : Nat) (x0 : Int64) (x2 : Int32) : Option (Int64) := f_X11_raised_l5 fu x0 x2 fu 1 0
abbrev rm_X11_raised : Room := { frames := 0, cells := 0, slots := 0, locals := 0 }
set_option maxHeartbeats 4000000 in
set_option maxRecDepth 100000 in
theorem c_X11_raised (l : Launch) (D : va_G) (cy : Nat → ClassId) (fu : Nat) (x0 : Int64) (x2 : Int32) (res : Int64) (h : f_X11_raised fu x0 x2 = some res) : Met l yX11_raised (WW yX11_raised cX11_raised 6 (some .long)) rm_X11_raised (Rd D cy [.long x0, .int x2] []) (vp_Sl (fun v => v = res)) 0 0 (fun _ => False) := by
  refine Met.ofW (cc := cX11_raised) (maxL := 6) (ret := (some .long)) (by decide) rfl ?_
  intro p e s m args below meth c s₁ B hml hv
  obtain ⟨hargs, hP, hX⟩ := hv
  have hx := B.exec
  have hb := B.bytes
  have hr := B.returns
  have ht : ∀ w ∈ lw_gd, w.before args s = true := fun w hw => atoms_spec (ws := WW yX11_raised cX11_raised 6 (some .long)) B.pre w (List.mem_cons_of_mem _ hw)
  have hown : s.vm.findClass RX11 = some m.cls := findClass_of_methodNamed B.named
  have hlocks := B.notSynchronized
  have hP : PB D [] s.heap := hP
  obtain ⟨ls, hl, hent⟩ := ent (m := m) (n := 6) hargs (Nat.le_of_ble_eq_true rfl) (lv := [(0, .long x0), (2, .int x2)]) rfl
  rw [hent]
  clear hent
  have l5 : ∀ (n5 : Nat) (x3 : Int64) (x5 : Int32) (ls : Array Slot), lv_has ls 6 [(0, .long x0), (2, .int x2), (3, .long x3), (5, .int x5)] → f_X11_raised_l5 fu x0 x2 n5 x3 x5 = some res → W p l e (headSpec (WW yX11_raised cX11_raised 6 (some .long)) rm_X11_raised).room s m args below meth c s.heap [] 0 0 (MQ below (vp_Sl (fun v => v = res)) args s 0 0 (fun _ => False)) (F0 m 5 ls []) := by
    intro n5
    induction n5 with
    | zero => intro x3 x5 ls hl h; cases h
    | succ n5 ih5 =>
      intro x3 x5 ls hl h
      have h : f_X11_raised_b5 fu x0 x2 (f_X11_raised_l5 fu x0 x2 n5) x3 x5 = some res := h
      unfold f_X11_raised_b5 at h
      refine lv_iload hx hb dX11_raised_5 (lv_at hl 3 rfl) ?_
      refine lv_iload_n hx hb dX11_raised_7 rfl (lv_at hl 1 rfl) ?_
      refine lv_icmp_ge (tgt := 21) hx hb dX11_raised_8 (by decide) (fun c_4 => ?_) (fun c_4 => ?_)
      · have h := it c_4 h
        refine lv_lload_n hx hb dX11_raised_21 rfl (lv_at hl 2 rfl) ?_
        cases h
        exact W.lret hx hb hr (fun _ ht9 _ => ⟨_, rfl, rfl, ht9⟩) (fun _ hq => by cases hq) dX11_raised_22
      · have h := ie c_4 h
        refine lv_lload_n hx hb dX11_raised_11 rfl (lv_at hl 2 rfl) ?_
        refine lv_lload_n hx hb dX11_raised_12 rfl (lv_at hl 0 rfl) ?_
        refine lv_lmul hx hb dX11_raised_13 ?_
        refine lv_topl (fun x3_5 e_x3_5 => ?_)
        have h := bn e_x3_5 h
        refine lv_lstore_n (lv' := [(3, .long x3_5), (0, .long x0), (2, .int x2), (5, .int x5)]) hx hb dX11_raised_14 rfl hl (by decide) rfl (fun ls hl => ?_)
        obtain ⟨x5_6, e_x5_6⟩ : ∃ y : Int32, y = x5 + 1 := ⟨_, rfl⟩
        have h := bn e_x5_6 h
        refine lv_iinc (v := x5_6) (lv' := [(5, .int x5_6), (3, .long x3_5), (0, .long x0), (2, .int x2)]) hx hb dX11_raised_15 hl (k := 3) rfl (by rw [e_x5_6]; rfl) (by decide) rfl (fun ls hl => ?_)
        refine lv_goto (tgt := 5) hx hb dX11_raised_18 (by decide) ?_
        exact ih5 x3_5 x5_6 ls (lv_sub hl [2, 3, 1, 0] rfl) h
  unfold f_X11_raised at h
  refine lv_lconst (v := 1) hx hb dX11_raised_0 (by decide) ?_
  refine lv_lstore_n (lv' := [(3, .long 1), (0, .long x0), (2, .int x2)]) hx hb dX11_raised_1 rfl hl (by decide) rfl (fun ls hl => ?_)
  refine lv_iconst (v := 0) hx hb dX11_raised_2 (by decide) ?_
  refine lv_istore (lv' := [(5, .int 0), (3, .long 1), (0, .long x0), (2, .int x2)]) hx hb dX11_raised_3 hl (by decide) rfl (fun ls hl => ?_)
  exact l5 fu 1 0 ls (lv_sub hl [2, 3, 1, 0] rfl) h
theorem dX11_waysToStand_0 : decode cX11_waysToStand 0 = .ok (.lconst 0, 1) := by decide +kernel
theorem dX11_waysToStand_1 : decode cX11_waysToStand 1 = .ok (.lstore_n 3, 1) := by decide +kernel
theorem dX11_waysToStand_2 : decode cX11_waysToStand 2 = .ok (.lconst 1, 1) := by decide +kernel
theorem dX11_waysToStand_3 : decode cX11_waysToStand 3 = .ok (.lstore 5, 2) := by decide +kernel
theorem dX11_waysToStand_5 : decode cX11_waysToStand 5 = .ok (.iconst 0, 1) := by decide +kernel
theorem dX11_waysToStand_6 : decode cX11_waysToStand 6 = .ok (.istore 7, 2) := by decide +kernel
theorem dX11_waysToStand_8 : decode cX11_waysToStand 8 = .ok (.iload 7, 2) := by decide +kernel
theorem dX11_waysToStand_10 : decode cX11_waysToStand 10 = .ok (.iload_n 1, 1) := by decide +kernel
theorem dX11_waysToStand_11 : decode cX11_waysToStand 11 = .ok (.if_icmp .gt 57, 3) := by decide +kernel
theorem dX11_waysToStand_14 : decode cX11_waysToStand 14 = .ok (.iload 7, 2) := by decide +kernel
theorem dX11_waysToStand_16 : decode cX11_waysToStand 16 = .ok (.iload_n 2, 1) := by decide +kernel
theorem dX11_waysToStand_17 : decode cX11_waysToStand 17 = .ok (.if_icmp .lt 29, 3) := by decide +kernel
theorem dX11_waysToStand_20 : decode cX11_waysToStand 20 = .ok (.lload_n 3, 1) := by decide +kernel
theorem dX11_waysToStand_21 : decode cX11_waysToStand 21 = .ok (.lload 5, 2) := by decide +kernel
theorem dX11_waysToStand_23 : decode cX11_waysToStand 23 = .ok (.iload_n 0, 1) := by decide +kernel
theorem dX11_waysToStand_24 : decode cX11_waysToStand 24 = .ok (.i2l, 1) := by decide +kernel
theorem dX11_waysToStand_25 : decode cX11_waysToStand 25 = .ok (.iload 7, 2) := by decide +kernel
theorem dX11_waysToStand_27 : decode cX11_waysToStand 27 = .ok (.invokestatic 395, 3) := by decide +kernel
theorem dX11_waysToStand_30 : decode cX11_waysToStand 30 = .ok (.lmul, 1) := by decide +kernel
theorem dX11_waysToStand_31 : decode cX11_waysToStand 31 = .ok (.bipush 20, 2) := by decide +kernel
theorem dX11_waysToStand_33 : decode cX11_waysToStand 33 = .ok (.iload_n 0, 1) := by decide +kernel
theorem dX11_waysToStand_34 : decode cX11_waysToStand 34 = .ok (.isub, 1) := by decide +kernel
theorem dX11_waysToStand_35 : decode cX11_waysToStand 35 = .ok (.i2l, 1) := by decide +kernel
theorem dX11_waysToStand_36 : decode cX11_waysToStand 36 = .ok (.iload_n 1, 1) := by decide +kernel
theorem dX11_waysToStand_37 : decode cX11_waysToStand 37 = .ok (.iload 7, 2) := by decide +kernel
theorem dX11_waysToStand_39 : decode cX11_waysToStand 39 = .ok (.isub, 1) := by decide +kernel
theorem dX11_waysToStand_40 : decode cX11_waysToStand 40 = .ok (.invokestatic 395, 3) := by decide +kernel
theorem dX11_waysToStand_43 : decode cX11_waysToStand 43 = .ok (.lmul, 1) := by decide +kernel
theorem dX11_waysToStand_44 : decode cX11_waysToStand 44 = .ok (.ladd, 1) := by decide +kernel
theorem dX11_waysToStand_45 : decode cX11_waysToStand 45 = .ok (.lstore_n 3, 1) := by decide +kernel
theorem dX11_waysToStand_46 : decode cX11_waysToStand 46 = .ok (.lload 5, 2) := by decide +kernel
theorem dX11_waysToStand_48 : decode cX11_waysToStand 48 = .ok (.iload_n 1, 1) := by decide +kernel
theorem dX11_waysToStand_49 : decode cX11_waysToStand 49 = .ok (.iload 7, 2) := by decide +kernel
theorem dX11_waysToStand_51 : decode cX11_waysToStand 51 = .ok (.isub, 1) := by decide +kernel
theorem dX11_waysToStand_52 : decode cX11_waysToStand 52 = .ok (.i2l, 1) := by decide +kernel
theorem dX11_waysToStand_53 : decode cX11_waysToStand 53 = .ok (.lmul, 1) := by decide +kernel
theorem dX11_waysToStand_54 : decode cX11_waysToStand 54 = .ok (.iload 7, 2) := by decide +kernel
theorem dX11_waysToStand_56 : decode cX11_waysToStand 56 = .ok (.iconst 1, 1) := by decide +kernel
theorem dX11_waysToStand_57 : decode cX11_waysToStand 57 = .ok (.iadd, 1) := by decide +kernel
theorem dX11_waysToStand_58 : decode cX11_waysToStand 58 = .ok (.i2l, 1) := by decide +kernel
theorem dX11_waysToStand_59 : decode cX11_waysToStand 59 = .ok (.ldiv, 1) := by decide +kernel
theorem dX11_waysToStand_60 : decode cX11_waysToStand 60 = .ok (.lstore 5, 2) := by decide +kernel
theorem dX11_waysToStand_62 : decode cX11_waysToStand 62 = .ok (.iinc 7 1, 3) := by decide +kernel
theorem dX11_waysToStand_65 : decode cX11_waysToStand 65 = .ok (.goto (-57), 3) := by decide +kernel
theorem dX11_waysToStand_68 : decode cX11_waysToStand 68 = .ok (.lload_n 3, 1) := by decide +kernel
theorem dX11_waysToStand_69 : decode cX11_waysToStand 69 = .ok (.lreturn, 1) := by decide +kernel
theorem ms_X11_waysToStand : MS yX11_waysToStand cX11_waysToStand 8 (some .long) 3 := ⟨tb_1132, tb_1131, tb_1, by decide +kernel, by decide +kernel, by decide +kernel⟩
def f_X11_waysToStand_j46 (fu : Nat) (x0 : Int32) (x1 : Int32) (x2 : Int32) (k8 : Int64 → Int64 → Int32 → Option (Int64)) (x3 : Int64) (x5 : Int64) (x7 : Int32) : Option (Int64) := (nzJ (Int32.toInt64 (x7 + 1))).bind fun y_9 => bnd ((x5 * (Int32.toInt64 (x1 - x7))) / (Int32.toInt64 (x7 + 1))) fun x5_10 => bnd (x7 + 1) fun x7_11 => k8 x3 x5_10 x7_11
def f_X11_waysToStand_b8 (fu : Nat) (x0 : Int32) (x1 : Int32) (x2 : Int32) (k8 : Int64 → Int64 → Int32 → Option (Int64)) (x3 : Int64) (x5 : Int64) (x7 : Int32) : Option (Int64) := (if x1 < x7 then some (x3) else (if x7 < x2 then f_X11_waysToStand_j46 fu x0 x1 x2 k8 x3 x5 x7 else (f_X11_raised fu (Int32.toInt64 x0) x7).bind fun z_14 => (f_X11_raised fu (Int32.toInt64 (20 - x0)) (x1 - x7)).bind fun z_15 => bnd (x3 + ((x5 * z_14) * z_15)) fun x3_16 => f_X11_waysToStand_j46 fu x0 x1 x2 k8 x3_16 x5 x7))
def f_X11_waysToStand_l8 (fu : Nat) (x0 : Int32) (x1 : Int32) (x2 : Int32) : Nat → Int64 → Int64 → Int32 → Option (Int64)
  | 0, _, _, _ => none
  | n + 1, x3, x5, x7 => f_X11_waysToStand_b8 fu x0 x1 x2 (f_X11_waysToStand_l8 fu x0 x1 x2 n) x3 x5 x7
def f_X11_waysToStand (fu : Nat) (x0 : Int32) (x1 : Int32) (x2 : Int32) : Option (Int64) := f_X11_waysToStand_l8 fu x0 x1 x2 fu 0 1 0
abbrev rm_X11_waysToStand : Room := { frames := 1, cells := 0, slots := 0, locals := 25 }
set_option maxHeartbeats 4000000 in
set_option maxRecDepth 100000 in
theorem c_X11_waysToStand (l : Launch) (D : va_G) (cy : Nat → ClassId) (fu : Nat) (x0 : Int32) (x1 : Int32) (x2 : Int32) (res : Int64) (h : f_X11_waysToStand fu x0 x1 x2 = some res) : Met l yX11_waysToStand (WW yX11_waysToStand cX11_waysToStand 8 (some .long)) rm_X11_waysToStand (Rd D cy [.int x0, .int x1, .int x2] []) (vp_Sl (fun v => v = res)) 0 0 (fun _ => False) := by
  refine Met.ofW (cc := cX11_waysToStand) (maxL := 8) (ret := (some .long)) (by decide) rfl ?_
  intro p e s m args below meth c s₁ B hml hv
  obtain ⟨hargs, hP, hX⟩ := hv
  have hx := B.exec
  have hb := B.bytes
  have hr := B.returns
  have ht : ∀ w ∈ lw_gd, w.before args s = true := fun w hw => atoms_spec (ws := WW yX11_waysToStand cX11_waysToStand 8 (some .long)) B.pre w (List.mem_cons_of_mem _ hw)
  have hown : s.vm.findClass RX11 = some m.cls := findClass_of_methodNamed B.named
  have hlocks := B.notSynchronized
  have hP : PB D [] s.heap := hP
  obtain ⟨ls, hl, hent⟩ := ent (m := m) (n := 8) hargs (Nat.le_of_ble_eq_true rfl) (lv := [(0, .int x0), (1, .int x1), (2, .int x2)]) rfl
  rw [hent]
  clear hent
  have l8 : ∀ (n8 : Nat) (x3 : Int64) (x5 : Int64) (x7 : Int32) (ls : Array Slot), lv_has ls 8 [(0, .int x0), (1, .int x1), (2, .int x2), (3, .long x3), (5, .long x5), (7, .int x7)] → f_X11_waysToStand_l8 fu x0 x1 x2 n8 x3 x5 x7 = some res → W p l e (headSpec (WW yX11_waysToStand cX11_waysToStand 8 (some .long)) rm_X11_waysToStand).room s m args below meth c s.heap [] 0 0 (MQ below (vp_Sl (fun v => v = res)) args s 0 0 (fun _ => False)) (F0 m 8 ls []) := by
    intro n8
    induction n8 with
    | zero => intro x3 x5 x7 ls hl h; cases h
    | succ n8 ih8 =>
      have j46 : ∀ (x3 : Int64) (x5 : Int64) (x7 : Int32) (ls : Array Slot), lv_has ls 8 [(0, .int x0), (1, .int x1), (2, .int x2), (3, .long x3), (5, .long x5), (7, .int x7)] → f_X11_waysToStand_j46 fu x0 x1 x2 (f_X11_waysToStand_l8 fu x0 x1 x2 n8) x3 x5 x7 = some res → W p l e (headSpec (WW yX11_waysToStand cX11_waysToStand 8 (some .long)) rm_X11_waysToStand).room s m args below meth c s.heap [] 0 0 (MQ below (vp_Sl (fun v => v = res)) args s 0 0 (fun _ => False)) (F0 m 46 ls []) := by
        intro x3 x5 x7 ls hl h
        unfold f_X11_waysToStand_j46 at h
        refine lv_lload hx hb dX11_waysToStand_46 (lv_at hl 4 rfl) ?_
        refine lv_iload_n hx hb dX11_waysToStand_48 rfl (lv_at hl 1 rfl) ?_
        refine lv_iload hx hb dX11_waysToStand_49 (lv_at hl 5 rfl) ?_
        refine lv_isub hx hb dX11_waysToStand_51 ?_
        refine lv_i2l (v := Int32.toInt64 (x1 - x7)) hx hb dX11_waysToStand_52 rfl ?_
        refine lv_lmul hx hb dX11_waysToStand_53 ?_
        refine lv_iload hx hb dX11_waysToStand_54 (lv_at hl 5 rfl) ?_
        refine lv_iconst (v := 1) hx hb dX11_waysToStand_56 (by decide) ?_
        refine lv_iadd hx hb dX11_waysToStand_57 ?_
        refine lv_i2l (v := Int32.toInt64 (x7 + 1)) hx hb dX11_waysToStand_58 rfl ?_
        obtain ⟨y_9, e_y_9, h⟩ := bi h
        refine lv_ldiv hx hb dX11_waysToStand_59 (nzJ_ok e_y_9).1 ?_
        refine lv_topl (fun x5_10 e_x5_10 => ?_)
        have h := bn e_x5_10 h
        refine lv_lstore (lv' := [(5, .long x5_10), (0, .int x0), (1, .int x1), (2, .int x2), (3, .long x3), (7, .int x7)]) hx hb dX11_waysToStand_60 hl (by decide) rfl (fun ls hl => ?_)
        obtain ⟨x7_11, e_x7_11⟩ : ∃ y : Int32, y = x7 + 1 := ⟨_, rfl⟩
        have h := bn e_x7_11 h
        refine lv_iinc (v := x7_11) (lv' := [(7, .int x7_11), (5, .long x5_10), (0, .int x0), (1, .int x1), (2, .int x2), (3, .long x3)]) hx hb dX11_waysToStand_62 hl (k := 5) rfl (by rw [e_x7_11]; rfl) (by decide) rfl (fun ls hl => ?_)
        refine lv_goto (tgt := 8) hx hb dX11_waysToStand_65 (by decide) ?_
        exact ih8 x3 x5_10 x7_11 ls (lv_sub hl [2, 3, 4, 5, 1, 0] rfl) h
      intro x3 x5 x7 ls hl h
      have h : f_X11_waysToStand_b8 fu x0 x1 x2 (f_X11_waysToStand_l8 fu x0 x1 x2 n8) x3 x5 x7 = some res := h
      unfold f_X11_waysToStand_b8 at h
      refine lv_iload hx hb dX11_waysToStand_8 (lv_at hl 5 rfl) ?_
      refine lv_iload_n hx hb dX11_waysToStand_10 rfl (lv_at hl 1 rfl) ?_
      refine lv_icmp_gt (tgt := 68) hx hb dX11_waysToStand_11 (by decide) (fun c_12 => ?_) (fun c_12 => ?_)
      · have h := it c_12 h
        refine lv_lload_n hx hb dX11_waysToStand_68 rfl (lv_at hl 3 rfl) ?_
        cases h
        exact W.lret hx hb hr (fun _ ht9 _ => ⟨_, rfl, rfl, ht9⟩) (fun _ hq => by cases hq) dX11_waysToStand_69
      · have h := ie c_12 h
        refine lv_iload hx hb dX11_waysToStand_14 (lv_at hl 5 rfl) ?_
        refine lv_iload_n hx hb dX11_waysToStand_16 rfl (lv_at hl 2 rfl) ?_
        refine lv_icmp_lt (tgt := 46) hx hb dX11_waysToStand_17 (by decide) (fun c_13 => ?_) (fun c_13 => ?_)
        · have h := it c_13 h
          exact j46 x3 x5 x7 ls (lv_sub hl [0, 1, 2, 3, 4, 5] rfl) h
        · have h := ie c_13 h
          refine lv_lload_n hx hb dX11_waysToStand_20 rfl (lv_at hl 3 rfl) ?_
          refine lv_lload hx hb dX11_waysToStand_21 (lv_at hl 4 rfl) ?_
          refine lv_iload_n hx hb dX11_waysToStand_23 rfl (lv_at hl 0 rfl) ?_
          refine lv_i2l (v := Int32.toInt64 x0) hx hb dX11_waysToStand_24 rfl ?_
          refine lv_iload hx hb dX11_waysToStand_25 (lv_at hl 5 rfl) ?_
          obtain ⟨z_14, e_z_14, h⟩ := bi h
          refine roSl (rest := [.long x5, .long x3]) ⟨hx, hb, hml, hown, ht⟩ (c_X11_raised l D cy fu  (Int32.toInt64 x0) x7 z_14 e_z_14) (cS ht ms_X11_raised tb_1133 rfl rfl ⟨Nat.le_of_ble_eq_true rfl, Nat.le_of_ble_eq_true rfl⟩) (P_sub hP [] rfl) hX rfl hl.1 rfl (Nat.le_of_ble_eq_true rfl) dX11_waysToStand_27 ⟨Nat.le_of_ble_eq_true rfl, Nat.le_of_ble_eq_true rfl⟩ ?_
          refine lv_lmul hx hb dX11_waysToStand_30 ?_
          refine lv_bipush (v := 20) hx hb dX11_waysToStand_31 (by decide) ?_
          refine lv_iload_n hx hb dX11_waysToStand_33 rfl (lv_at hl 0 rfl) ?_
          refine lv_isub hx hb dX11_waysToStand_34 ?_
          refine lv_i2l (v := Int32.toInt64 (20 - x0)) hx hb dX11_waysToStand_35 rfl ?_
          refine lv_iload_n hx hb dX11_waysToStand_36 rfl (lv_at hl 1 rfl) ?_
          refine lv_iload hx hb dX11_waysToStand_37 (lv_at hl 5 rfl) ?_
          refine lv_isub hx hb dX11_waysToStand_39 ?_
          obtain ⟨z_15, e_z_15, h⟩ := bi h
          refine roSl (rest := [.long (x5 * z_14), .long x3]) ⟨hx, hb, hml, hown, ht⟩ (c_X11_raised l D cy fu  (Int32.toInt64 (20 - x0)) (x1 - x7) z_15 e_z_15) (cS ht ms_X11_raised tb_1133 rfl rfl ⟨Nat.le_of_ble_eq_true rfl, Nat.le_of_ble_eq_true rfl⟩) (P_sub hP [] rfl) hX rfl hl.1 rfl (Nat.le_of_ble_eq_true rfl) dX11_waysToStand_40 ⟨Nat.le_of_ble_eq_true rfl, Nat.le_of_ble_eq_true rfl⟩ ?_
          refine lv_lmul hx hb dX11_waysToStand_43 ?_
          refine lv_ladd hx hb dX11_waysToStand_44 ?_
          refine lv_topl (fun x3_16 e_x3_16 => ?_)
          have h := bn e_x3_16 h
          refine lv_lstore_n (lv' := [(3, .long x3_16), (0, .int x0), (1, .int x1), (2, .int x2), (5, .long x5), (7, .int x7)]) hx hb dX11_waysToStand_45 rfl hl (by decide) rfl (fun ls hl => ?_)
          exact j46 x3_16 x5 x7 ls (lv_sub hl [1, 2, 3, 0, 4, 5] rfl) h
  unfold f_X11_waysToStand at h
  refine lv_lconst (v := 0) hx hb dX11_waysToStand_0 (by decide) ?_
  refine lv_lstore_n (lv' := [(3, .long 0), (0, .int x0), (1, .int x1), (2, .int x2)]) hx hb dX11_waysToStand_1 rfl hl (by decide) rfl (fun ls hl => ?_)
  refine lv_lconst (v := 1) hx hb dX11_waysToStand_2 (by decide) ?_
  refine lv_lstore (lv' := [(5, .long 1), (3, .long 0), (0, .int x0), (1, .int x1), (2, .int x2)]) hx hb dX11_waysToStand_3 hl (by decide) rfl (fun ls hl => ?_)
  refine lv_iconst (v := 0) hx hb dX11_waysToStand_5 (by decide) ?_
  refine lv_istore (lv' := [(7, .int 0), (5, .long 1), (3, .long 0), (0, .int x0), (1, .int x1), (2, .int x2)]) hx hb dX11_waysToStand_6 hl (by decide) rfl (fun ls hl => ?_)
  exact l8 fu 0 1 0 ls (lv_sub hl [3, 4, 5, 2, 1, 0] rfl) h
theorem dX11_chance_0 : decode cX11_chance 0 = .ok (.aload_n 0, 1) := by decide +kernel
theorem dX11_chance_1 : decode cX11_chance 1 = .ok (.getfield 29, 3) := by decide +kernel
theorem dX11_chance_4 : decode cX11_chance 4 = .ok (.iload_n 1, 1) := by decide +kernel
theorem dX11_chance_5 : decode cX11_chance 5 = .ok (.invokevirtual 248, 3) := by decide +kernel
theorem dX11_chance_8 : decode cX11_chance 8 = .ok (.ifCond .eq 23, 3) := by decide +kernel
theorem dX11_chance_11 : decode cX11_chance 11 = .ok (.iload_n 2, 1) := by decide +kernel
theorem dX11_chance_12 : decode cX11_chance 12 = .ok (.iconst 0, 1) := by decide +kernel
theorem dX11_chance_13 : decode cX11_chance 13 = .ok (.bipush 9, 2) := by decide +kernel
theorem dX11_chance_15 : decode cX11_chance 15 = .ok (.invokestatic 115, 3) := by decide +kernel
theorem dX11_chance_18 : decode cX11_chance 18 = .ok (.ifCond .eq 13, 3) := by decide +kernel
theorem dX11_chance_21 : decode cX11_chance 21 = .ok (.iload_n 3, 1) := by decide +kernel
theorem dX11_chance_22 : decode cX11_chance 22 = .ok (.iconst 0, 1) := by decide +kernel
theorem dX11_chance_23 : decode cX11_chance 23 = .ok (.bipush 9, 2) := by decide +kernel
theorem dX11_chance_25 : decode cX11_chance 25 = .ok (.invokestatic 115, 3) := by decide +kernel
theorem dX11_chance_28 : decode cX11_chance 28 = .ok (.ifCond .ne 9, 3) := by decide +kernel
theorem dX11_chance_31 : decode cX11_chance 31 = .ok (.aload_n 0, 1) := by decide +kernel
theorem dX11_chance_32 : decode cX11_chance 32 = .ok (.iconst 1, 1) := by decide +kernel
theorem dX11_chance_33 : decode cX11_chance 33 = .ok (.invokevirtual 119, 3) := by decide +kernel
theorem dX11_chance_36 : decode cX11_chance 36 = .ok (.ireturn, 1) := by decide +kernel
theorem dX11_chance_37 : decode cX11_chance 37 = .ok (.bipush 20, 2) := by decide +kernel
theorem dX11_chance_39 : decode cX11_chance 39 = .ok (.aload_n 0, 1) := by decide +kernel
theorem dX11_chance_40 : decode cX11_chance 40 = .ok (.getfield 29, 3) := by decide +kernel
theorem dX11_chance_43 : decode cX11_chance 43 = .ok (.iload_n 1, 1) := by decide +kernel
theorem dX11_chance_44 : decode cX11_chance 44 = .ok (.invokevirtual 260, 3) := by decide +kernel
theorem dX11_chance_47 : decode cX11_chance 47 = .ok (.invokestatic 196, 3) := by decide +kernel
theorem dX11_chance_50 : decode cX11_chance 50 = .ok (.istore 4, 2) := by decide +kernel
theorem dX11_chance_52 : decode cX11_chance 52 = .ok (.aload_n 0, 1) := by decide +kernel
theorem dX11_chance_53 : decode cX11_chance 53 = .ok (.iload 4, 2) := by decide +kernel
theorem dX11_chance_55 : decode cX11_chance 55 = .ok (.iload_n 2, 1) := by decide +kernel
theorem dX11_chance_56 : decode cX11_chance 56 = .ok (.iload_n 3, 1) := by decide +kernel
theorem dX11_chance_57 : decode cX11_chance 57 = .ok (.invokestatic 389, 3) := by decide +kernel
theorem dX11_chance_60 : decode cX11_chance 60 = .ok (.ldc2_w 393, 3) := by decide +kernel
theorem dX11_chance_63 : decode cX11_chance 63 = .ok (.iload_n 2, 1) := by decide +kernel
theorem dX11_chance_64 : decode cX11_chance 64 = .ok (.invokestatic 395, 3) := by decide +kernel
theorem dX11_chance_67 : decode cX11_chance 67 = .ok (.invokevirtual 331, 3) := by decide +kernel
theorem dX11_chance_70 : decode cX11_chance 70 = .ok (.aload_n 0, 1) := by decide +kernel
theorem dX11_chance_71 : decode cX11_chance 71 = .ok (.invokevirtual 127, 3) := by decide +kernel
theorem dX11_chance_74 : decode cX11_chance 74 = .ok (.ireturn, 1) := by decide +kernel
theorem mv_X11_chance : MV yX11_chance RX11 cX11_chance 5 (some .boolean) 3 := ⟨tb_1129, tb_1127, tb_1128, tb_1, by decide +kernel, by decide +kernel, by decide +kernel⟩
def f_X11_chance (fu : Nat) (b_latestStatus : Int32) (b_fractionTop : Int64) (b_fractionBottom : Int64) (a_courage : Nat → Int32) (a_medals : Nat → Int32) (a_count : Int32) (a_pride : Int32) (x1 : Int32) (x2 : Int32) (x3 : Int32) : Option (Int32 × Int32 × Int64 × Int64) := (f_X0_isMan fu a_count x1).bind fun z_20 => (if z_20 = 0 then (f_X11_deny fu b_latestStatus 1).bind fun z_22 => (bz z_22.1).bind fun _ => some (z_22.1, z_22.2, b_fractionTop, b_fractionBottom) else (f_X11_within fu x2 0 9).bind fun z_24 => (if z_24 = 0 then (f_X11_deny fu b_latestStatus 1).bind fun z_26 => (bz z_26.1).bind fun _ => some (z_26.1, z_26.2, b_fractionTop, b_fractionBottom) else (f_X11_within fu x3 0 9).bind fun z_28 => (if z_28 = 0 then (f_X11_deny fu b_latestStatus 1).bind fun z_37 => (bz z_37.1).bind fun _ => some (z_37.1, z_37.2, b_fractionTop, b_fractionBottom) else (f_X0_bravery fu a_courage a_medals a_count a_pride x1).bind fun z_30 => bnd (if z_30 < 20 then z_30 else 20) fun x4_31 => (f_X11_waysToStand fu x4_31 x2 x3).bind fun z_32 => (f_X11_raised fu 20 x2).bind fun z_33 => (f_X11_tell fu b_fractionTop b_fractionBottom z_32 z_33).bind fun z_34 => (f_X11_allow fu b_latestStatus).bind fun z_35 => (bz z_35.1).bind fun _ => some (z_35.1, z_35.2, z_34.1, z_34.2))))
abbrev rm_X11_chance : Room := { frames := 2, cells := 0, slots := 0, locals := 56 }
set_option maxHeartbeats 4000000 in
set_option maxRecDepth 100000 in
theorem c_X11_chance (l : Launch) (D : va_G) (cy : Nat → ClassId) (fu : Nat) (A_b : Nat → Nat) (r_b_trays : Nat) (r_b_war : Nat) (r_b_draftArmy : Nat) (r_b_draftWar : Nat) (r_b_reader : Nat) (r_b_armyReader : Nat) (r_b_warReader : Nat) (r_b_markedArmies : Nat) (r_b_markedWars : Nat) (r_b_latest : Nat) (r_b_trial : Nat) (r_b_foresight : Nat) (r_b_pairs : Nat) (b_latestStatus : Int32) (b_fractionTop : Int64) (b_fractionBottom : Int64) (b_marks : Int32) (A_a : Nat → Nat) (a_name : Nat → Int64) (a_courage : Nat → Int32) (a_weight : Nat → Int32) (a_medals : Nat → Int32) (a_stood : Nat → Int32) (a_fled : Nat → Int32) (a_liked : Nat → Int32) (a_votes : Nat → Int32) (a_count : Int32) (a_living : Int32) (a_pride : Int32) (a_quota : Int32) (a_melted : Int32) (a_lost : Int32) (x1 : Int32) (x2 : Int32) (x3 : Int32) (res : Int32 × Int32 × Int64 × Int64) (h : f_X11_chance fu b_latestStatus b_fractionTop b_fractionBottom a_courage a_medals a_count a_pride x1 x2 x3 = some res) (A : Nat → Prop) (hA : A = adr [bl_X11 cy A_b r_b_trays (A_a 0) r_b_war r_b_draftArmy r_b_draftWar r_b_reader r_b_armyReader r_b_warReader r_b_markedArmies r_b_markedWars r_b_latest r_b_trial r_b_foresight r_b_pairs b_latestStatus b_fractionTop b_fractionBottom b_marks, bl_X0 cy A_a a_name a_courage a_weight a_medals a_stood a_fled a_liked a_votes a_count a_living a_pride a_quota a_melted a_lost]) (W1 : List va_W) (hW1 : W1 = [bl_X11 cy A_b r_b_trays (A_a 0) r_b_war r_b_draftArmy r_b_draftWar r_b_reader r_b_armyReader r_b_warReader r_b_markedArmies r_b_markedWars r_b_latest r_b_trial r_b_foresight r_b_pairs res.2.1 res.2.2.1 res.2.2.2 b_marks, bl_X0 cy A_a a_name a_courage a_weight a_medals a_stood a_fled a_liked a_votes a_count a_living a_pride a_quota a_melted a_lost]) : Met l yX11_chance (WW yX11_chance cX11_chance 5 (some .boolean)) rm_X11_chance (Ed D cy [.ref (A_b 0), .int x1, .int x2, .int x3] [bl_X11 cy A_b r_b_trays (A_a 0) r_b_war r_b_draftArmy r_b_draftWar r_b_reader r_b_armyReader r_b_warReader r_b_markedArmies r_b_markedWars r_b_latest r_b_trial r_b_foresight r_b_pairs b_latestStatus b_fractionTop b_fractionBottom b_marks, bl_X0 cy A_a a_name a_courage a_weight a_medals a_stood a_fled a_liked a_votes a_count a_living a_pride a_quota a_melted a_lost]) (Qei D res.1 A W1) 0 0 A := by
  refine Met.ofW (cc := cX11_chance) (maxL := 5) (ret := (some .boolean)) (by decide) rfl ?_
  intro p e s m args below meth c s₁ B hml hv
  obtain ⟨hargs, hP, hX, hD0⟩ := hv
  have hx := B.exec
  have hb := B.bytes
  have hr := B.returns
  have ht : ∀ w ∈ lw_gd, w.before args s = true := fun w hw => atoms_spec (ws := WW yX11_chance cX11_chance 5 (some .boolean)) B.pre w (List.mem_cons_of_mem _ hw)
  have hown : s.vm.findClass RX11 = some m.cls := findClass_of_methodNamed B.named
  have hlocks := B.notSynchronized
  have hP : PD D A [bl_X11 cy A_b r_b_trays (A_a 0) r_b_war r_b_draftArmy r_b_draftWar r_b_reader r_b_armyReader r_b_warReader r_b_markedArmies r_b_markedWars r_b_latest r_b_trial r_b_foresight r_b_pairs b_latestStatus b_fractionTop b_fractionBottom b_marks, bl_X0 cy A_a a_name a_courage a_weight a_medals a_stood a_fled a_liked a_votes a_count a_living a_pride a_quota a_melted a_lost] s.heap := ⟨hP, by rw [hA]; exact hD0.own⟩
  have hS : va_S A s.heap s.heap [] := va_S.rf
  obtain ⟨ls, hl, hent⟩ := ent (m := m) (n := 5) hargs (Nat.le_of_ble_eq_true rfl) (lv := [(0, .ref (A_b 0)), (1, .int x1), (2, .int x2), (3, .int x3)]) rfl
  rw [hent]
  clear hent
  unfold f_X11_chance at h
  refine lv_aload_n hx hb dX11_chance_0 rfl (lv_at hl 0 rfl) ?_
  refine xget (i := 0) (j := 0) (k := 4) (T := TX11) hx hb ht tb_iX11 hown hX hP.1 rfl rfl rfl (by decide) tb_433 rfl dX11_chance_1 ?_
  refine lv_iload_n hx hb dX11_chance_4 rfl (lv_at hl 1 rfl) ?_
  obtain ⟨z_20, e_z_20, h⟩ := bi h
  refine roVi (rest := []) ⟨hx, hb, hml, hown, ht⟩ (c_X0_isMan l D cy fu A_a a_name a_courage a_weight a_medals a_stood a_fled a_liked a_votes a_count a_living a_pride a_quota a_melted a_lost x1 z_20 e_z_20) (cV ht mv_X0_isMan tb_774 rfl rfl ⟨Nat.le_of_ble_eq_true rfl, Nat.le_of_ble_eq_true rfl⟩) (P_sub hP.1 [1] rfl) hX rfl rfl rfl hl.1 rfl (Nat.le_of_ble_eq_true rfl) dX11_chance_5 ⟨Nat.le_of_ble_eq_true rfl, Nat.le_of_ble_eq_true rfl⟩ ?_
  refine lv_if_eq (tgt := 31) hx hb dX11_chance_8 (by decide) (fun c_21 => ?_) (fun c_21 => ?_)
  · have h := it c_21 h
    refine lv_aload_n hx hb dX11_chance_31 rfl (lv_at hl 0 rfl) ?_
    refine lv_iconst (v := 1) hx hb dX11_chance_32 (by decide) ?_
    obtain ⟨z_22, e_z_22, h⟩ := bi h
    refine efVi (rest := []) ⟨hx, hb, hml, hown, ht⟩ (c_X11_deny l D cy fu A_b r_b_trays (A_a 0) r_b_war r_b_draftArmy r_b_draftWar r_b_reader r_b_armyReader r_b_warReader r_b_markedArmies r_b_markedWars r_b_latest r_b_trial r_b_foresight r_b_pairs b_latestStatus b_fractionTop b_fractionBottom b_marks 1 z_22 e_z_22 _ rfl _ rfl) (cV ht mv_X11_deny tb_507 rfl rfl ⟨Nat.le_of_ble_eq_true rfl, Nat.le_of_ble_eq_true rfl⟩) hP hS hX [0] rfl rfl rfl rfl rfl rfl hl.1 rfl (Nat.le_of_ble_eq_true rfl) dX11_chance_33 ⟨Nat.le_of_ble_eq_true rfl, Nat.le_of_ble_eq_true rfl⟩ (fun H locs hP hS => ?_)
    have hP : PD D A [bl_X11 cy A_b r_b_trays (A_a 0) r_b_war r_b_draftArmy r_b_draftWar r_b_reader r_b_armyReader r_b_warReader r_b_markedArmies r_b_markedWars r_b_latest r_b_trial r_b_foresight r_b_pairs z_22.2 b_fractionTop b_fractionBottom b_marks, bl_X0 cy A_a a_name a_courage a_weight a_medals a_stood a_fled a_liked a_votes a_count a_living a_pride a_quota a_melted a_lost] H := hP
    obtain ⟨b_23, e_b_23, h⟩ := bi h
    obtain ⟨-, n_b_23, -⟩ := bz_ok e_b_23
    cases h
    subst hW1
    exact W.zret hx hb hr n_b_23 (fun _ ht9 _ => ⟨⟨_, (), rfl, rfl, hPt ht9 hP.1⟩, hS.F ht9⟩) hS.2.2 dX11_chance_36
  · have h := ie c_21 h
    refine lv_iload_n hx hb dX11_chance_11 rfl (lv_at hl 2 rfl) ?_
    refine lv_iconst (v := 0) hx hb dX11_chance_12 (by decide) ?_
    refine lv_bipush (v := 9) hx hb dX11_chance_13 (by decide) ?_
    obtain ⟨z_24, e_z_24, h⟩ := bi h
    refine roSi (rest := []) ⟨hx, hb, hml, hown, ht⟩ (c_X11_within l D cy fu  x2 0 9 z_24 e_z_24) (cS ht ms_X11_within tb_504 rfl rfl ⟨Nat.le_of_ble_eq_true rfl, Nat.le_of_ble_eq_true rfl⟩) (P_sub hP.1 [] rfl) hX rfl hl.1 rfl (Nat.le_of_ble_eq_true rfl) dX11_chance_15 ⟨Nat.le_of_ble_eq_true rfl, Nat.le_of_ble_eq_true rfl⟩ ?_
    refine lv_if_eq (tgt := 31) hx hb dX11_chance_18 (by decide) (fun c_25 => ?_) (fun c_25 => ?_)
    · have h := it c_25 h
      refine lv_aload_n hx hb dX11_chance_31 rfl (lv_at hl 0 rfl) ?_
      refine lv_iconst (v := 1) hx hb dX11_chance_32 (by decide) ?_
      obtain ⟨z_26, e_z_26, h⟩ := bi h
      refine efVi (rest := []) ⟨hx, hb, hml, hown, ht⟩ (c_X11_deny l D cy fu A_b r_b_trays (A_a 0) r_b_war r_b_draftArmy r_b_draftWar r_b_reader r_b_armyReader r_b_warReader r_b_markedArmies r_b_markedWars r_b_latest r_b_trial r_b_foresight r_b_pairs b_latestStatus b_fractionTop b_fractionBottom b_marks 1 z_26 e_z_26 _ rfl _ rfl) (cV ht mv_X11_deny tb_507 rfl rfl ⟨Nat.le_of_ble_eq_true rfl, Nat.le_of_ble_eq_true rfl⟩) hP hS hX [0] rfl rfl rfl rfl rfl rfl hl.1 rfl (Nat.le_of_ble_eq_true rfl) dX11_chance_33 ⟨Nat.le_of_ble_eq_true rfl, Nat.le_of_ble_eq_true rfl⟩ (fun H locs hP hS => ?_)
      have hP : PD D A [bl_X11 cy A_b r_b_trays (A_a 0) r_b_war r_b_draftArmy r_b_draftWar r_b_reader r_b_armyReader r_b_warReader r_b_markedArmies r_b_markedWars r_b_latest r_b_trial r_b_foresight r_b_pairs z_26.2 b_fractionTop b_fractionBottom b_marks, bl_X0 cy A_a a_name a_courage a_weight a_medals a_stood a_fled a_liked a_votes a_count a_living a_pride a_quota a_melted a_lost] H := hP
      obtain ⟨b_27, e_b_27, h⟩ := bi h
      obtain ⟨-, n_b_27, -⟩ := bz_ok e_b_27
      cases h
      subst hW1
      exact W.zret hx hb hr n_b_27 (fun _ ht9 _ => ⟨⟨_, (), rfl, rfl, hPt ht9 hP.1⟩, hS.F ht9⟩) hS.2.2 dX11_chance_36
    · have h := ie c_25 h
      refine lv_iload_n hx hb dX11_chance_21 rfl (lv_at hl 3 rfl) ?_
      refine lv_iconst (v := 0) hx hb dX11_chance_22 (by decide) ?_
      refine lv_bipush (v := 9) hx hb dX11_chance_23 (by decide) ?_
      obtain ⟨z_28, e_z_28, h⟩ := bi h
      refine roSi (rest := []) ⟨hx, hb, hml, hown, ht⟩ (c_X11_within l D cy fu  x3 0 9 z_28 e_z_28) (cS ht ms_X11_within tb_504 rfl rfl ⟨Nat.le_of_ble_eq_true rfl, Nat.le_of_ble_eq_true rfl⟩) (P_sub hP.1 [] rfl) hX rfl hl.1 rfl (Nat.le_of_ble_eq_true rfl) dX11_chance_25 ⟨Nat.le_of_ble_eq_true rfl, Nat.le_of_ble_eq_true rfl⟩ ?_
      refine lv_if_ne (tgt := 37) hx hb dX11_chance_28 (by decide) (fun c_29 => ?_) (fun c_29 => ?_)
      · have h := ie c_29 h
        refine lv_bipush (v := 20) hx hb dX11_chance_37 (by decide) ?_
        refine lv_aload_n hx hb dX11_chance_39 rfl (lv_at hl 0 rfl) ?_
        refine xget (i := 0) (j := 0) (k := 4) (T := TX11) hx hb ht tb_iX11 hown hX hP.1 rfl rfl rfl (by decide) tb_433 rfl dX11_chance_40 ?_
        refine lv_iload_n hx hb dX11_chance_43 rfl (lv_at hl 1 rfl) ?_
        obtain ⟨z_30, e_z_30, h⟩ := bi h
        refine roVi (rest := [.int 20]) ⟨hx, hb, hml, hown, ht⟩ (c_X0_bravery l D cy fu A_a a_name a_courage a_weight a_medals a_stood a_fled a_liked a_votes a_count a_living a_pride a_quota a_melted a_lost x1 z_30 e_z_30) (cV ht mv_X0_bravery tb_779 rfl rfl ⟨Nat.le_of_ble_eq_true rfl, Nat.le_of_ble_eq_true rfl⟩) (P_sub hP.1 [1] rfl) hX rfl rfl rfl hl.1 rfl (Nat.le_of_ble_eq_true rfl) dX11_chance_44 ⟨Nat.le_of_ble_eq_true rfl, Nat.le_of_ble_eq_true rfl⟩ ?_
        refine va_mmin hx hb (hml.trans hl.1.symm) hown (ht _ tb_704) (ht _ tb_583) (ht _ tb_19) (ht _ tb_584) (Nat.le_of_ble_eq_true rfl) (Nat.le_of_ble_eq_true rfl) (Nat.le_of_ble_eq_true rfl) (Nat.le_of_ble_eq_true rfl) dX11_chance_47 ?_
        refine lv_topi (fun x4_31 e_x4_31 => ?_)
        have h := bn e_x4_31 h
        refine lv_istore (lv' := [(4, .int x4_31), (0, .ref (A_b 0)), (1, .int x1), (2, .int x2), (3, .int x3)]) hx hb dX11_chance_50 hl (by decide) rfl (fun ls hl => ?_)
        refine lv_aload_n hx hb dX11_chance_52 rfl (lv_at hl 1 rfl) ?_
        refine lv_iload hx hb dX11_chance_53 (lv_at hl 0 rfl) ?_
        refine lv_iload_n hx hb dX11_chance_55 rfl (lv_at hl 3 rfl) ?_
        refine lv_iload_n hx hb dX11_chance_56 rfl (lv_at hl 4 rfl) ?_
        obtain ⟨z_32, e_z_32, h⟩ := bi h
        refine roSl (rest := [.ref (A_b 0)]) ⟨hx, hb, hml, hown, ht⟩ (c_X11_waysToStand l D cy fu  x4_31 x2 x3 z_32 e_z_32) (cS ht ms_X11_waysToStand tb_1130 rfl rfl ⟨Nat.le_of_ble_eq_true rfl, Nat.le_of_ble_eq_true rfl⟩) (P_sub hP.1 [] rfl) hX rfl hl.1 rfl (Nat.le_of_ble_eq_true rfl) dX11_chance_57 ⟨Nat.le_of_ble_eq_true rfl, Nat.le_of_ble_eq_true rfl⟩ ?_
        refine lv_ldc2 (v := 20) hx hb hown (ht _ tb_1136) dX11_chance_60 ?_
        refine lv_iload_n hx hb dX11_chance_63 rfl (lv_at hl 3 rfl) ?_
        obtain ⟨z_33, e_z_33, h⟩ := bi h
        refine roSl (rest := [.long z_32, .ref (A_b 0)]) ⟨hx, hb, hml, hown, ht⟩ (c_X11_raised l D cy fu  20 x2 z_33 e_z_33) (cS ht ms_X11_raised tb_1133 rfl rfl ⟨Nat.le_of_ble_eq_true rfl, Nat.le_of_ble_eq_true rfl⟩) (P_sub hP.1 [] rfl) hX rfl hl.1 rfl (Nat.le_of_ble_eq_true rfl) dX11_chance_64 ⟨Nat.le_of_ble_eq_true rfl, Nat.le_of_ble_eq_true rfl⟩ ?_
        obtain ⟨z_34, e_z_34, h⟩ := bi h
        refine efVv (rest := []) ⟨hx, hb, hml, hown, ht⟩ (c_X11_tell l D cy fu A_b r_b_trays (A_a 0) r_b_war r_b_draftArmy r_b_draftWar r_b_reader r_b_armyReader r_b_warReader r_b_markedArmies r_b_markedWars r_b_latest r_b_trial r_b_foresight r_b_pairs b_latestStatus b_fractionTop b_fractionBottom b_marks z_32 z_33 z_34 e_z_34 _ rfl _ rfl) (cV ht mv_X11_tell tb_957 rfl rfl ⟨Nat.le_of_ble_eq_true rfl, Nat.le_of_ble_eq_true rfl⟩) hP hS hX [0] rfl rfl rfl rfl rfl rfl hl.1 rfl (Nat.le_of_ble_eq_true rfl) dX11_chance_67 ⟨Nat.le_of_ble_eq_true rfl, Nat.le_of_ble_eq_true rfl⟩ (fun H locs hP hS => ?_)
        have hP : PD D A [bl_X11 cy A_b r_b_trays (A_a 0) r_b_war r_b_draftArmy r_b_draftWar r_b_reader r_b_armyReader r_b_warReader r_b_markedArmies r_b_markedWars r_b_latest r_b_trial r_b_foresight r_b_pairs b_latestStatus z_34.1 z_34.2 b_marks, bl_X0 cy A_a a_name a_courage a_weight a_medals a_stood a_fled a_liked a_votes a_count a_living a_pride a_quota a_melted a_lost] H := hP
        refine lv_aload_n hx hb dX11_chance_70 rfl (lv_at hl 1 rfl) ?_
        obtain ⟨z_35, e_z_35, h⟩ := bi h
        refine efVi (rest := []) ⟨hx, hb, hml, hown, ht⟩ (c_X11_allow l D cy fu A_b r_b_trays (A_a 0) r_b_war r_b_draftArmy r_b_draftWar r_b_reader r_b_armyReader r_b_warReader r_b_markedArmies r_b_markedWars r_b_latest r_b_trial r_b_foresight r_b_pairs b_latestStatus z_34.1 z_34.2 b_marks z_35 e_z_35 _ rfl _ rfl) (cV ht mv_X11_allow tb_518 rfl rfl ⟨Nat.le_of_ble_eq_true rfl, Nat.le_of_ble_eq_true rfl⟩) hP hS hX [0] rfl rfl rfl rfl rfl rfl hl.1 rfl (Nat.le_of_ble_eq_true rfl) dX11_chance_71 ⟨Nat.le_of_ble_eq_true rfl, Nat.le_of_ble_eq_true rfl⟩ (fun H locs hP hS => ?_)
        have hP : PD D A [bl_X11 cy A_b r_b_trays (A_a 0) r_b_war r_b_draftArmy r_b_draftWar r_b_reader r_b_armyReader r_b_warReader r_b_markedArmies r_b_markedWars r_b_latest r_b_trial r_b_foresight r_b_pairs z_35.2 z_34.1 z_34.2 b_marks, bl_X0 cy A_a a_name a_courage a_weight a_medals a_stood a_fled a_liked a_votes a_count a_living a_pride a_quota a_melted a_lost] H := hP
        obtain ⟨b_36, e_b_36, h⟩ := bi h
        obtain ⟨-, n_b_36, -⟩ := bz_ok e_b_36
        cases h
        subst hW1
        exact W.zret hx hb hr n_b_36 (fun _ ht9 _ => ⟨⟨_, (), rfl, rfl, hPt ht9 hP.1⟩, hS.F ht9⟩) hS.2.2 dX11_chance_74
      · have h := it c_29 h
        refine lv_aload_n hx hb dX11_chance_31 rfl (lv_at hl 0 rfl) ?_
        refine lv_iconst (v := 1) hx hb dX11_chance_32 (by decide) ?_
        obtain ⟨z_37, e_z_37, h⟩ := bi h
        refine efVi (rest := []) ⟨hx, hb, hml, hown, ht⟩ (c_X11_deny l D cy fu A_b r_b_trays (A_a 0) r_b_war r_b_draftArmy r_b_draftWar r_b_reader r_b_armyReader r_b_warReader r_b_markedArmies r_b_markedWars r_b_latest r_b_trial r_b_foresight r_b_pairs b_latestStatus b_fractionTop b_fractionBottom b_marks 1 z_37 e_z_37 _ rfl _ rfl) (cV ht mv_X11_deny tb_507 rfl rfl ⟨Nat.le_of_ble_eq_true rfl, Nat.le_of_ble_eq_true rfl⟩) hP hS hX [0] rfl rfl rfl rfl rfl rfl hl.1 rfl (Nat.le_of_ble_eq_true rfl) dX11_chance_33 ⟨Nat.le_of_ble_eq_true rfl, Nat.le_of_ble_eq_true rfl⟩ (fun H locs hP hS => ?_)
        have hP : PD D A [bl_X11 cy A_b r_b_trays (A_a 0) r_b_war r_b_draftArmy r_b_draftWar r_b_reader r_b_armyReader r_b_warReader r_b_markedArmies r_b_markedWars r_b_latest r_b_trial r_b_foresight r_b_pairs z_37.2 b_fractionTop b_fractionBottom b_marks, bl_X0 cy A_a a_name a_courage a_weight a_medals a_stood a_fled a_liked a_votes a_count a_living a_pride a_quota a_melted a_lost] H := hP
        obtain ⟨b_38, e_b_38, h⟩ := bi h
        obtain ⟨-, n_b_38, -⟩ := bz_ok e_b_38
        cases h
        subst hW1
        exact W.zret hx hb hr n_b_38 (fun _ ht9 _ => ⟨⟨_, (), rfl, rfl, hPt ht9 hP.1⟩, hS.F ht9⟩) hS.2.2 dX11_chance_36
theorem dX11_luck_0 : decode cX11_luck 0 = .ok (.aload_n 0, 1) := by decide +kernel
theorem dX11_luck_1 : decode cX11_luck 1 = .ok (.getfield 29, 3) := by decide +kernel
theorem dX11_luck_4 : decode cX11_luck 4 = .ok (.iload_n 1, 1) := by decide +kernel
theorem dX11_luck_5 : decode cX11_luck 5 = .ok (.invokevirtual 248, 3) := by decide +kernel
theorem dX11_luck_8 : decode cX11_luck 8 = .ok (.ifCond .eq 19, 3) := by decide +kernel
theorem dX11_luck_11 : decode cX11_luck 11 = .ok (.aload_n 0, 1) := by decide +kernel
theorem dX11_luck_12 : decode cX11_luck 12 = .ok (.getfield 29, 3) := by decide +kernel
theorem dX11_luck_15 : decode cX11_luck 15 = .ok (.iload_n 2, 1) := by decide +kernel
theorem dX11_luck_16 : decode cX11_luck 16 = .ok (.invokevirtual 248, 3) := by decide +kernel
theorem dX11_luck_19 : decode cX11_luck 19 = .ok (.ifCond .eq 8, 3) := by decide +kernel
theorem dX11_luck_22 : decode cX11_luck 22 = .ok (.iload_n 1, 1) := by decide +kernel
theorem dX11_luck_23 : decode cX11_luck 23 = .ok (.iload_n 2, 1) := by decide +kernel
theorem dX11_luck_24 : decode cX11_luck 24 = .ok (.if_icmp .ne 9, 3) := by decide +kernel
theorem dX11_luck_27 : decode cX11_luck 27 = .ok (.aload_n 0, 1) := by decide +kernel
theorem dX11_luck_28 : decode cX11_luck 28 = .ok (.iconst 1, 1) := by decide +kernel
theorem dX11_luck_29 : decode cX11_luck 29 = .ok (.invokevirtual 119, 3) := by decide +kernel
theorem dX11_luck_32 : decode cX11_luck 32 = .ok (.ireturn, 1) := by decide +kernel
theorem dX11_luck_33 : decode cX11_luck 33 = .ok (.aload_n 0, 1) := by decide +kernel
theorem dX11_luck_34 : decode cX11_luck 34 = .ok (.getfield 29, 3) := by decide +kernel
theorem dX11_luck_37 : decode cX11_luck 37 = .ok (.iload_n 1, 1) := by decide +kernel
theorem dX11_luck_38 : decode cX11_luck 38 = .ok (.invokevirtual 257, 3) := by decide +kernel
theorem dX11_luck_41 : decode cX11_luck 41 = .ok (.ifCond .eq 14, 3) := by decide +kernel
theorem dX11_luck_44 : decode cX11_luck 44 = .ok (.aload_n 0, 1) := by decide +kernel
theorem dX11_luck_45 : decode cX11_luck 45 = .ok (.getfield 29, 3) := by decide +kernel
theorem dX11_luck_48 : decode cX11_luck 48 = .ok (.iload_n 2, 1) := by decide +kernel
theorem dX11_luck_49 : decode cX11_luck 49 = .ok (.invokevirtual 257, 3) := by decide +kernel
theorem dX11_luck_52 : decode cX11_luck 52 = .ok (.ifCond .ne 10, 3) := by decide +kernel
theorem dX11_luck_55 : decode cX11_luck 55 = .ok (.aload_n 0, 1) := by decide +kernel
theorem dX11_luck_56 : decode cX11_luck 56 = .ok (.bipush 7, 2) := by decide +kernel
theorem dX11_luck_58 : decode cX11_luck 58 = .ok (.invokevirtual 119, 3) := by decide +kernel
theorem dX11_luck_61 : decode cX11_luck 61 = .ok (.ireturn, 1) := by decide +kernel
theorem dX11_luck_62 : decode cX11_luck 62 = .ok (.iconst 0, 1) := by decide +kernel
theorem dX11_luck_63 : decode cX11_luck 63 = .ok (.istore_n 3, 1) := by decide +kernel
theorem dX11_luck_64 : decode cX11_luck 64 = .ok (.iconst 1, 1) := by decide +kernel
theorem dX11_luck_65 : decode cX11_luck 65 = .ok (.istore 4, 2) := by decide +kernel
theorem dX11_luck_67 : decode cX11_luck 67 = .ok (.iload 4, 2) := by decide +kernel
theorem dX11_luck_69 : decode cX11_luck 69 = .ok (.bipush 20, 2) := by decide +kernel
theorem dX11_luck_71 : decode cX11_luck 71 = .ok (.if_icmp .gt 45, 3) := by decide +kernel
theorem dX11_luck_74 : decode cX11_luck 74 = .ok (.aload_n 0, 1) := by decide +kernel
theorem dX11_luck_75 : decode cX11_luck 75 = .ok (.getfield 29, 3) := by decide +kernel
theorem dX11_luck_78 : decode cX11_luck 78 = .ok (.iload_n 1, 1) := by decide +kernel
theorem dX11_luck_79 : decode cX11_luck 79 = .ok (.iload 4, 2) := by decide +kernel
theorem dX11_luck_81 : decode cX11_luck 81 = .ok (.invokevirtual 399, 3) := by decide +kernel
theorem dX11_luck_84 : decode cX11_luck 84 = .ok (.ifCond .eq 32, 3) := by decide +kernel
theorem dX11_luck_87 : decode cX11_luck 87 = .ok (.aload_n 0, 1) := by decide +kernel
theorem dX11_luck_88 : decode cX11_luck 88 = .ok (.getfield 29, 3) := by decide +kernel
theorem dX11_luck_91 : decode cX11_luck 91 = .ok (.aload_n 0, 1) := by decide +kernel
theorem dX11_luck_92 : decode cX11_luck 92 = .ok (.getfield 29, 3) := by decide +kernel
theorem dX11_luck_95 : decode cX11_luck 95 = .ok (.iload 4, 2) := by decide +kernel
theorem dX11_luck_97 : decode cX11_luck 97 = .ok (.invokevirtual 297, 3) := by decide +kernel
theorem dX11_luck_100 : decode cX11_luck 100 = .ok (.invokevirtual 312, 3) := by decide +kernel
theorem dX11_luck_103 : decode cX11_luck 103 = .ok (.iload_n 2, 1) := by decide +kernel
theorem dX11_luck_104 : decode cX11_luck 104 = .ok (.if_icmp .ne 6, 3) := by decide +kernel
theorem dX11_luck_107 : decode cX11_luck 107 = .ok (.iinc 3 1, 3) := by decide +kernel
theorem dX11_luck_110 : decode cX11_luck 110 = .ok (.iinc 4 1, 3) := by decide +kernel
theorem dX11_luck_113 : decode cX11_luck 113 = .ok (.goto (-46), 3) := by decide +kernel
theorem dX11_luck_116 : decode cX11_luck 116 = .ok (.aload_n 0, 1) := by decide +kernel
theorem dX11_luck_117 : decode cX11_luck 117 = .ok (.iload_n 3, 1) := by decide +kernel
theorem dX11_luck_118 : decode cX11_luck 118 = .ok (.i2l, 1) := by decide +kernel
theorem dX11_luck_119 : decode cX11_luck 119 = .ok (.ldc2_w 393, 3) := by decide +kernel
theorem dX11_luck_122 : decode cX11_luck 122 = .ok (.invokevirtual 331, 3) := by decide +kernel
theorem dX11_luck_125 : decode cX11_luck 125 = .ok (.aload_n 0, 1) := by decide +kernel
theorem dX11_luck_126 : decode cX11_luck 126 = .ok (.invokevirtual 127, 3) := by decide +kernel
theorem dX11_luck_129 : decode cX11_luck 129 = .ok (.ireturn, 1) := by decide +kernel
theorem mv_X11_luck : MV yX11_luck RX11 cX11_luck 5 (some .boolean) 2 := ⟨tb_1140, tb_1138, tb_1139, tb_1, by decide +kernel, by decide +kernel, by decide +kernel⟩
def f_X11_luck_j116 (fu : Nat) (a_courage : Nat → Int32) (a_weight : Nat → Int32) (a_medals : Nat → Int32) (a_liked : Nat → Int32) (a_count : Int32) (a_living : Int32) (a_pride : Int32) (x1 : Int32) (x2 : Int32) (b_latestStatus : Int32) (b_fractionTop : Int64) (b_fractionBottom : Int64) (a_votes : Nat → Int32) (x3 : Int32) : Option (Int32 × Int32 × Int64 × Int64 × (Nat → Int32)) := (f_X11_tell fu b_fractionTop b_fractionBottom (Int32.toInt64 x3) 20).bind fun z_32 => (f_X11_allow fu b_latestStatus).bind fun z_33 => (bz z_33.1).bind fun _ => some (z_33.1, z_33.2, z_32.1, z_32.2, a_votes)
def f_X11_luck_b67 (fu : Nat) (a_courage : Nat → Int32) (a_weight : Nat → Int32) (a_medals : Nat → Int32) (a_liked : Nat → Int32) (a_count : Int32) (a_living : Int32) (a_pride : Int32) (x1 : Int32) (x2 : Int32) (k67 : Int32 → Int64 → Int64 → (Nat → Int32) → Int32 → Int32 → (Option (Int32 × Int32 × Int64 × Int64 × (Nat → Int32)))) (b_latestStatus : Int32) (b_fractionTop : Int64) (b_fractionBottom : Int64) (a_votes : Nat → Int32) (x3 : Int32) (x4 : Int32) : Option (Int32 × Int32 × Int64 × Int64 × (Nat → Int32)) := (if 20 < x4 then f_X11_luck_j116 fu a_courage a_weight a_medals a_liked a_count a_living a_pride x1 x2 b_latestStatus b_fractionTop b_fractionBottom a_votes x3 else (f_X0_stands fu a_courage a_medals a_count a_pride x1 x4).bind fun z_36 => (if z_36 = 0 then f_X11_luck_j116 fu a_courage a_weight a_medals a_liked a_count a_living a_pride x1 x2 b_latestStatus b_fractionTop b_fractionBottom a_votes x3 else (f_X0_runners fu a_courage a_medals a_count a_living a_pride x4).bind fun z_38 => (f_X0_winnerOf fu a_weight a_liked a_votes a_count a_living z_38).bind fun z_39 => (if z_39.1 = x2 then bnd (x3 + 1) fun x3_42 => bnd (x4 + 1) fun x4_43 => k67 b_latestStatus b_fractionTop b_fractionBottom z_39.2 x3_42 x4_43 else bnd (x4 + 1) fun x4_41 => k67 b_latestStatus b_fractionTop b_fractionBottom z_39.2 x3 x4_41)))
def f_X11_luck_l67 (fu : Nat) (a_courage : Nat → Int32) (a_weight : Nat → Int32) (a_medals : Nat → Int32) (a_liked : Nat → Int32) (a_count : Int32) (a_living : Int32) (a_pride : Int32) (x1 : Int32) (x2 : Int32) : Nat → Int32 → Int64 → Int64 → (Nat → Int32) → Int32 → Int32 → (Option (Int32 × Int32 × Int64 × Int64 × (Nat → Int32)))
  | 0, _, _, _, _, _, _ => none
  | n + 1, b_latestStatus, b_fractionTop, b_fractionBottom, a_votes, x3, x4 => f_X11_luck_b67 fu a_courage a_weight a_medals a_liked a_count a_living a_pride x1 x2 (f_X11_luck_l67 fu a_courage a_weight a_medals a_liked a_count a_living a_pride x1 x2 n) b_latestStatus b_fractionTop b_fractionBottom a_votes x3 x4
def f_X11_luck (fu : Nat) (b_latestStatus : Int32) (b_fractionTop : Int64) (b_fractionBottom : Int64) (a_courage : Nat → Int32) (a_weight : Nat → Int32) (a_medals : Nat → Int32) (a_liked : Nat → Int32) (a_votes : Nat → Int32) (a_count : Int32) (a_living : Int32) (a_pride : Int32) (x1 : Int32) (x2 : Int32) : Option (Int32 × Int32 × Int64 × Int64 × (Nat → Int32)) := (f_X0_isMan fu a_count x1).bind fun z_44 => (if z_44 = 0 then (f_X11_deny fu b_latestStatus 1).bind fun z_46 => (bz z_46.1).bind fun _ => some (z_46.1, z_46.2, b_fractionTop, b_fractionBottom, a_votes) else (f_X0_isMan fu a_count x2).bind fun z_48 => (if z_48 = 0 then (f_X11_deny fu b_latestStatus 1).bind fun z_50 => (bz z_50.1).bind fun _ => some (z_50.1, z_50.2, b_fractionTop, b_fractionBottom, a_votes) else (if x1 = x2 then (f_X11_deny fu b_latestStatus 1).bind fun z_61 => (bz z_61.1).bind fun _ => some (z_61.1, z_61.2, b_fractionTop, b_fractionBottom, a_votes) else (f_X0_lives fu a_count a_living x1).bind fun z_53 => (if z_53 = 0 then (f_X11_deny fu b_latestStatus 7).bind fun z_55 => (bz z_55.1).bind fun _ => some (z_55.1, z_55.2, b_fractionTop, b_fractionBottom, a_votes) else (f_X0_lives fu a_count a_living x2).bind fun z_57 => (if z_57 = 0 then (f_X11_deny fu b_latestStatus 7).bind fun z_59 => (bz z_59.1).bind fun _ => some (z_59.1, z_59.2, b_fractionTop, b_fractionBottom, a_votes) else f_X11_luck_l67 fu a_courage a_weight a_medals a_liked a_count a_living a_pride x1 x2 fu b_latestStatus b_fractionTop b_fractionBottom a_votes 0 1)))))
abbrev rm_X11_luck : Room := { frames := 3, cells := 0, slots := 0, locals := 66 }
set_option maxHeartbeats 4000000 in
set_option maxRecDepth 100000 in
theorem c_X11_luck (l : Launch) (D : va_G) (cy : Nat → ClassId) (fu : Nat) (A_b : Nat → Nat) (r_b_trays : Nat) (r_b_war : Nat) (r_b_draftArmy : Nat) (r_b_draftWar : Nat) (r_b_reader : Nat) (r_b_armyReader : Nat) (r_b_warReader : Nat) (r_b_markedArmies : Nat) (r_b_markedWars : Nat) (r_b_latest : Nat) (r_b_trial : Nat) (r_b_foresight : Nat) (r_b_pairs : Nat) (b_latestStatus : Int32) (b_fractionTop : Int64) (b_fractionBottom : Int64) (b_marks : Int32) (A_a : Nat → Nat) (a_name : Nat → Int64) (a_courage : Nat → Int32) (a_weight : Nat → Int32) (a_medals : Nat → Int32) (a_stood : Nat → Int32) (a_fled : Nat → Int32) (a_liked : Nat → Int32) (a_votes : Nat → Int32) (a_count : Int32) (a_living : Int32) (a_pride : Int32) (a_quota : Int32) (a_melted : Int32) (a_lost : Int32) (x1 : Int32) (x2 : Int32) (res : Int32 × Int32 × Int64 × Int64 × (Nat → Int32)) (h : f_X11_luck fu b_latestStatus b_fractionTop b_fractionBottom a_courage a_weight a_medals a_liked a_votes a_count a_living a_pride x1 x2 = some res) (A : Nat → Prop) (hA : A = adr [bl_X11 cy A_b r_b_trays (A_a 0) r_b_war r_b_draftArmy r_b_draftWar r_b_reader r_b_armyReader r_b_warReader r_b_markedArmies r_b_markedWars r_b_latest r_b_trial r_b_foresight r_b_pairs b_latestStatus b_fractionTop b_fractionBottom b_marks, bl_X0 cy A_a a_name a_courage a_weight a_medals a_stood a_fled a_liked a_votes a_count a_living a_pride a_quota a_melted a_lost]) (W1 : List va_W) (hW1 : W1 = [bl_X11 cy A_b r_b_trays (A_a 0) r_b_war r_b_draftArmy r_b_draftWar r_b_reader r_b_armyReader r_b_warReader r_b_markedArmies r_b_markedWars r_b_latest r_b_trial r_b_foresight r_b_pairs res.2.1 res.2.2.1 res.2.2.2.1 b_marks, bl_X0 cy A_a a_name a_courage a_weight a_medals a_stood a_fled a_liked res.2.2.2.2 a_count a_living a_pride a_quota a_melted a_lost]) : Met l yX11_luck (WW yX11_luck cX11_luck 5 (some .boolean)) rm_X11_luck (Ed D cy [.ref (A_b 0), .int x1, .int x2] [bl_X11 cy A_b r_b_trays (A_a 0) r_b_war r_b_draftArmy r_b_draftWar r_b_reader r_b_armyReader r_b_warReader r_b_markedArmies r_b_markedWars r_b_latest r_b_trial r_b_foresight r_b_pairs b_latestStatus b_fractionTop b_fractionBottom b_marks, bl_X0 cy A_a a_name a_courage a_weight a_medals a_stood a_fled a_liked a_votes a_count a_living a_pride a_quota a_melted a_lost]) (Qei D res.1 A W1) 0 0 A := by
  refine Met.ofW (cc := cX11_luck) (maxL := 5) (ret := (some .boolean)) (by decide) rfl ?_
  intro p e s m args below meth c s₁ B hml hv
  obtain ⟨hargs, hP, hX, hD0⟩ := hv
  have hx := B.exec
  have hb := B.bytes
  have hr := B.returns
  have ht : ∀ w ∈ lw_gd, w.before args s = true := fun w hw => atoms_spec (ws := WW yX11_luck cX11_luck 5 (some .boolean)) B.pre w (List.mem_cons_of_mem _ hw)
  have hown : s.vm.findClass RX11 = some m.cls := findClass_of_methodNamed B.named
  have hlocks := B.notSynchronized
  have hP : PD D A [bl_X11 cy A_b r_b_trays (A_a 0) r_b_war r_b_draftArmy r_b_draftWar r_b_reader r_b_armyReader r_b_warReader r_b_markedArmies r_b_markedWars r_b_latest r_b_trial r_b_foresight r_b_pairs b_latestStatus b_fractionTop b_fractionBottom b_marks, bl_X0 cy A_a a_name a_courage a_weight a_medals a_stood a_fled a_liked a_votes a_count a_living a_pride a_quota a_melted a_lost] s.heap := ⟨hP, by rw [hA]; exact hD0.own⟩
  have hS : va_S A s.heap s.heap [] := va_S.rf
  obtain ⟨ls, hl, hent⟩ := ent (m := m) (n := 5) hargs (Nat.le_of_ble_eq_true rfl) (lv := [(0, .ref (A_b 0)), (1, .int x1), (2, .int x2)]) rfl
  rw [hent]
  clear hent
  have j116 : ∀ (b_latestStatus : Int32) (b_fractionTop : Int64) (b_fractionBottom : Int64) (a_votes : Nat → Int32) (x3 : Int32) (H : Heap) (locs : List Loc) (_ : PD D A [bl_X11 cy A_b r_b_trays (A_a 0) r_b_war r_b_draftArmy r_b_draftWar r_b_reader r_b_armyReader r_b_warReader r_b_markedArmies r_b_markedWars r_b_latest r_b_trial r_b_foresight r_b_pairs b_latestStatus b_fractionTop b_fractionBottom b_marks, bl_X0 cy A_a a_name a_courage a_weight a_medals a_stood a_fled a_liked a_votes a_count a_living a_pride a_quota a_melted a_lost] H) (_ : va_S A s.heap H locs) (ls : Array Slot), lv_has ls 5 [(0, .ref (A_b 0)), (3, .int x3)] → f_X11_luck_j116 fu a_courage a_weight a_medals a_liked a_count a_living a_pride x1 x2 b_latestStatus b_fractionTop b_fractionBottom a_votes x3 = some res → W p l e (headSpec (WW yX11_luck cX11_luck 5 (some .boolean)) rm_X11_luck).room s m args below meth c H locs 0 0 (MQ below (Qei D res.1 A W1) args s 0 0 A) (F0 m 116 ls []) := by
    intro b_latestStatus b_fractionTop b_fractionBottom a_votes x3 H locs hP hS ls hl h
    unfold f_X11_luck_j116 at h
    refine lv_aload_n hx hb dX11_luck_116 rfl (lv_at hl 0 rfl) ?_
    refine lv_iload_n hx hb dX11_luck_117 rfl (lv_at hl 1 rfl) ?_
    refine lv_i2l (v := Int32.toInt64 x3) hx hb dX11_luck_118 rfl ?_
    refine lv_ldc2 (v := 20) hx hb hown (ht _ tb_1136) dX11_luck_119 ?_
    obtain ⟨z_32, e_z_32, h⟩ := bi h
    refine efVv (rest := []) ⟨hx, hb, hml, hown, ht⟩ (c_X11_tell l D cy fu A_b r_b_trays (A_a 0) r_b_war r_b_draftArmy r_b_draftWar r_b_reader r_b_armyReader r_b_warReader r_b_markedArmies r_b_markedWars r_b_latest r_b_trial r_b_foresight r_b_pairs b_latestStatus b_fractionTop b_fractionBottom b_marks (Int32.toInt64 x3) 20 z_32 e_z_32 _ rfl _ rfl) (cV ht mv_X11_tell tb_957 rfl rfl ⟨Nat.le_of_ble_eq_true rfl, Nat.le_of_ble_eq_true rfl⟩) hP hS hX [0] rfl rfl rfl rfl rfl rfl hl.1 rfl (Nat.le_of_ble_eq_true rfl) dX11_luck_122 ⟨Nat.le_of_ble_eq_true rfl, Nat.le_of_ble_eq_true rfl⟩ (fun H locs hP hS => ?_)
    have hP : PD D A [bl_X11 cy A_b r_b_trays (A_a 0) r_b_war r_b_draftArmy r_b_draftWar r_b_reader r_b_armyReader r_b_warReader r_b_markedArmies r_b_markedWars r_b_latest r_b_trial r_b_foresight r_b_pairs b_latestStatus z_32.1 z_32.2 b_marks, bl_X0 cy A_a a_name a_courage a_weight a_medals a_stood a_fled a_liked a_votes a_count a_living a_pride a_quota a_melted a_lost] H := hP
    refine lv_aload_n hx hb dX11_luck_125 rfl (lv_at hl 0 rfl) ?_
    obtain ⟨z_33, e_z_33, h⟩ := bi h
    refine efVi (rest := []) ⟨hx, hb, hml, hown, ht⟩ (c_X11_allow l D cy fu A_b r_b_trays (A_a 0) r_b_war r_b_draftArmy r_b_draftWar r_b_reader r_b_armyReader r_b_warReader r_b_markedArmies r_b_markedWars r_b_latest r_b_trial r_b_foresight r_b_pairs b_latestStatus z_32.1 z_32.2 b_marks z_33 e_z_33 _ rfl _ rfl) (cV ht mv_X11_allow tb_518 rfl rfl ⟨Nat.le_of_ble_eq_true rfl, Nat.le_of_ble_eq_true rfl⟩) hP hS hX [0] rfl rfl rfl rfl rfl rfl hl.1 rfl (Nat.le_of_ble_eq_true rfl) dX11_luck_126 ⟨Nat.le_of_ble_eq_true rfl, Nat.le_of_ble_eq_true rfl⟩ (fun H locs hP hS => ?_)
    have hP : PD D A [bl_X11 cy A_b r_b_trays (A_a 0) r_b_war r_b_draftArmy r_b_draftWar r_b_reader r_b_armyReader r_b_warReader r_b_markedArmies r_b_markedWars r_b_latest r_b_trial r_b_foresight r_b_pairs z_33.2 z_32.1 z_32.2 b_marks, bl_X0 cy A_a a_name a_courage a_weight a_medals a_stood a_fled a_liked a_votes a_count a_living a_pride a_quota a_melted a_lost] H := hP
    obtain ⟨b_34, e_b_34, h⟩ := bi h
    obtain ⟨-, n_b_34, -⟩ := bz_ok e_b_34
    cases h
    subst hW1
    exact W.zret hx hb hr n_b_34 (fun _ ht9 _ => ⟨⟨_, (), rfl, rfl, hPt ht9 hP.1⟩, hS.F ht9⟩) hS.2.2 dX11_luck_129
  have l67 : ∀ (n67 : Nat) (b_latestStatus : Int32) (b_fractionTop : Int64) (b_fractionBottom : Int64) (a_votes : Nat → Int32) (x3 : Int32) (x4 : Int32) (H : Heap) (locs : List Loc) (_ : PD D A [bl_X11 cy A_b r_b_trays (A_a 0) r_b_war r_b_draftArmy r_b_draftWar r_b_reader r_b_armyReader r_b_warReader r_b_markedArmies r_b_markedWars r_b_latest r_b_trial r_b_foresight r_b_pairs b_latestStatus b_fractionTop b_fractionBottom b_marks, bl_X0 cy A_a a_name a_courage a_weight a_medals a_stood a_fled a_liked a_votes a_count a_living a_pride a_quota a_melted a_lost] H) (_ : va_S A s.heap H locs) (ls : Array Slot), lv_has ls 5 [(0, .ref (A_b 0)), (1, .int x1), (2, .int x2), (3, .int x3), (4, .int x4)] → f_X11_luck_l67 fu a_courage a_weight a_medals a_liked a_count a_living a_pride x1 x2 n67 b_latestStatus b_fractionTop b_fractionBottom a_votes x3 x4 = some res → W p l e (headSpec (WW yX11_luck cX11_luck 5 (some .boolean)) rm_X11_luck).room s m args below meth c H locs 0 0 (MQ below (Qei D res.1 A W1) args s 0 0 A) (F0 m 67 ls []) := by
    intro n67
    induction n67 with
    | zero => intro b_latestStatus b_fractionTop b_fractionBottom a_votes x3 x4 H locs hP hS ls hl h; cases h
    | succ n67 ih67 =>
      intro b_latestStatus b_fractionTop b_fractionBottom a_votes x3 x4 H locs hP hS ls hl h
      have h : f_X11_luck_b67 fu a_courage a_weight a_medals a_liked a_count a_living a_pride x1 x2 (f_X11_luck_l67 fu a_courage a_weight a_medals a_liked a_count a_living a_pride x1 x2 n67) b_latestStatus b_fractionTop b_fractionBottom a_votes x3 x4 = some res := h
      unfold f_X11_luck_b67 at h
      refine lv_iload hx hb dX11_luck_67 (lv_at hl 4 rfl) ?_
      refine lv_bipush (v := 20) hx hb dX11_luck_69 (by decide) ?_
      refine lv_icmp_gt (tgt := 116) hx hb dX11_luck_71 (by decide) (fun c_35 => ?_) (fun c_35 => ?_)
      · have h := it c_35 h
        exact j116 b_latestStatus b_fractionTop b_fractionBottom a_votes x3 _ _ hP hS ls (lv_sub hl [0, 3] rfl) h
      · have h := ie c_35 h
        refine lv_aload_n hx hb dX11_luck_74 rfl (lv_at hl 0 rfl) ?_
        refine xget (i := 0) (j := 0) (k := 4) (T := TX11) hx hb ht tb_iX11 hown hX hP.1 rfl rfl rfl (by decide) tb_433 rfl dX11_luck_75 ?_
        refine lv_iload_n hx hb dX11_luck_78 rfl (lv_at hl 1 rfl) ?_
        refine lv_iload hx hb dX11_luck_79 (lv_at hl 4 rfl) ?_
        obtain ⟨z_36, e_z_36, h⟩ := bi h
        refine roVi (rest := []) ⟨hx, hb, hml, hown, ht⟩ (c_X0_stands l D cy fu A_a a_name a_courage a_weight a_medals a_stood a_fled a_liked a_votes a_count a_living a_pride a_quota a_melted a_lost x1 x4 z_36 e_z_36) (cV ht mv_X0_stands tb_1141 rfl rfl ⟨Nat.le_of_ble_eq_true rfl, Nat.le_of_ble_eq_true rfl⟩) (P_sub hP.1 [1] rfl) hX rfl rfl rfl hl.1 rfl (Nat.le_of_ble_eq_true rfl) dX11_luck_81 ⟨Nat.le_of_ble_eq_true rfl, Nat.le_of_ble_eq_true rfl⟩ ?_
        refine lv_if_eq (tgt := 116) hx hb dX11_luck_84 (by decide) (fun c_37 => ?_) (fun c_37 => ?_)
        · have h := it c_37 h
          exact j116 b_latestStatus b_fractionTop b_fractionBottom a_votes x3 _ _ hP hS ls (lv_sub hl [0, 3] rfl) h
        · have h := ie c_37 h
          refine lv_aload_n hx hb dX11_luck_87 rfl (lv_at hl 0 rfl) ?_
          refine xget (i := 0) (j := 0) (k := 4) (T := TX11) hx hb ht tb_iX11 hown hX hP.1 rfl rfl rfl (by decide) tb_433 rfl dX11_luck_88 ?_
          refine lv_aload_n hx hb dX11_luck_91 rfl (lv_at hl 0 rfl) ?_
          refine xget (i := 0) (j := 0) (k := 4) (T := TX11) hx hb ht tb_iX11 hown hX hP.1 rfl rfl rfl (by decide) tb_433 rfl dX11_luck_92 ?_
          refine lv_iload hx hb dX11_luck_95 (lv_at hl 4 rfl) ?_
          obtain ⟨z_38, e_z_38, h⟩ := bi h
          refine roVi (rest := [.ref (A_a 0)]) ⟨hx, hb, hml, hown, ht⟩ (c_X0_runners l D cy fu A_a a_name a_courage a_weight a_medals a_stood a_fled a_liked a_votes a_count a_living a_pride a_quota a_melted a_lost x4 z_38 e_z_38) (cV ht mv_X0_runners tb_884 rfl rfl ⟨Nat.le_of_ble_eq_true rfl, Nat.le_of_ble_eq_true rfl⟩) (P_sub hP.1 [1] rfl) hX rfl rfl rfl hl.1 rfl (Nat.le_of_ble_eq_true rfl) dX11_luck_97 ⟨Nat.le_of_ble_eq_true rfl, Nat.le_of_ble_eq_true rfl⟩ ?_
          obtain ⟨z_39, e_z_39, h⟩ := bi h
          refine efVi (rest := []) ⟨hx, hb, hml, hown, ht⟩ (c_X0_winnerOf l D cy fu A_a a_name a_courage a_weight a_medals a_stood a_fled a_liked a_votes a_count a_living a_pride a_quota a_melted a_lost z_38 z_39 e_z_39 _ rfl _ rfl) (cV ht mv_X0_winnerOf tb_917 rfl rfl ⟨Nat.le_of_ble_eq_true rfl, Nat.le_of_ble_eq_true rfl⟩) hP hS hX [1] rfl rfl rfl rfl rfl rfl hl.1 rfl (Nat.le_of_ble_eq_true rfl) dX11_luck_100 ⟨Nat.le_of_ble_eq_true rfl, Nat.le_of_ble_eq_true rfl⟩ (fun H locs hP hS => ?_)
          have hP : PD D A [bl_X11 cy A_b r_b_trays (A_a 0) r_b_war r_b_draftArmy r_b_draftWar r_b_reader r_b_armyReader r_b_warReader r_b_markedArmies r_b_markedWars r_b_latest r_b_trial r_b_foresight r_b_pairs b_latestStatus b_fractionTop b_fractionBottom b_marks, bl_X0 cy A_a a_name a_courage a_weight a_medals a_stood a_fled a_liked z_39.2 a_count a_living a_pride a_quota a_melted a_lost] H := hP
          refine lv_iload_n hx hb dX11_luck_103 rfl (lv_at hl 2 rfl) ?_
          refine lv_icmp_ne (tgt := 110) hx hb dX11_luck_104 (by decide) (fun c_40 => ?_) (fun c_40 => ?_)
          · have h := ie c_40 h
            obtain ⟨x4_41, e_x4_41⟩ : ∃ y : Int32, y = x4 + 1 := ⟨_, rfl⟩
            have h := bn e_x4_41 h
            refine lv_iinc (v := x4_41) (lv' := [(4, .int x4_41), (0, .ref (A_b 0)), (1, .int x1), (2, .int x2), (3, .int x3)]) hx hb dX11_luck_110 hl (k := 4) rfl (by rw [e_x4_41]; rfl) (by decide) rfl (fun ls hl => ?_)
            refine lv_goto (tgt := 67) hx hb dX11_luck_113 (by decide) ?_
            exact ih67 b_latestStatus b_fractionTop b_fractionBottom z_39.2 x3 x4_41 _ _ hP hS ls (lv_sub hl [1, 2, 3, 4, 0] rfl) h
          · have h := it c_40 h
            obtain ⟨x3_42, e_x3_42⟩ : ∃ y : Int32, y = x3 + 1 := ⟨_, rfl⟩
            have h := bn e_x3_42 h
            refine lv_iinc (v := x3_42) (lv' := [(3, .int x3_42), (0, .ref (A_b 0)), (1, .int x1), (2, .int x2), (4, .int x4)]) hx hb dX11_luck_107 hl (k := 3) rfl (by rw [e_x3_42]; rfl) (by decide) rfl (fun ls hl => ?_)
            obtain ⟨x4_43, e_x4_43⟩ : ∃ y : Int32, y = x4 + 1 := ⟨_, rfl⟩
            have h := bn e_x4_43 h
            refine lv_iinc (v := x4_43) (lv' := [(4, .int x4_43), (3, .int x3_42), (0, .ref (A_b 0)), (1, .int x1), (2, .int x2)]) hx hb dX11_luck_110 hl (k := 4) rfl (by rw [e_x4_43]; rfl) (by decide) rfl (fun ls hl => ?_)
            refine lv_goto (tgt := 67) hx hb dX11_luck_113 (by decide) ?_
            exact ih67 b_latestStatus b_fractionTop b_fractionBottom z_39.2 x3_42 x4_43 _ _ hP hS ls (lv_sub hl [2, 3, 4, 1, 0] rfl) h
  unfold f_X11_luck at h
  refine lv_aload_n hx hb dX11_luck_0 rfl (lv_at hl 0 rfl) ?_
  refine xget (i := 0) (j := 0) (k := 4) (T := TX11) hx hb ht tb_iX11 hown hX hP.1 rfl rfl rfl (by decide) tb_433 rfl dX11_luck_1 ?_
  refine lv_iload_n hx hb dX11_luck_4 rfl (lv_at hl 1 rfl) ?_
  obtain ⟨z_44, e_z_44, h⟩ := bi h
  refine roVi (rest := []) ⟨hx, hb, hml, hown, ht⟩ (c_X0_isMan l D cy fu A_a a_name a_courage a_weight a_medals a_stood a_fled a_liked a_votes a_count a_living a_pride a_quota a_melted a_lost x1 z_44 e_z_44) (cV ht mv_X0_isMan tb_774 rfl rfl ⟨Nat.le_of_ble_eq_true rfl, Nat.le_of_ble_eq_true rfl⟩) (P_sub hP.1 [1] rfl) hX rfl rfl rfl hl.1 rfl (Nat.le_of_ble_eq_true rfl) dX11_luck_5 ⟨Nat.le_of_ble_eq_true rfl, Nat.le_of_ble_eq_true rfl⟩ ?_
  refine lv_if_eq (tgt := 27) hx hb dX11_luck_8 (by decide) (fun c_45 => ?_) (fun c_45 => ?_)
  · have h := it c_45 h
    refine lv_aload_n hx hb dX11_luck_27 rfl (lv_at hl 0 rfl) ?_
    refine lv_iconst (v := 1) hx hb dX11_luck_28 (by decide) ?_
    obtain ⟨z_46, e_z_46, h⟩ := bi h
    refine efVi (rest := []) ⟨hx, hb, hml, hown, ht⟩ (c_X11_deny l D cy fu A_b r_b_trays (A_a 0) r_b_war r_b_draftArmy r_b_draftWar r_b_reader r_b_armyReader r_b_warReader r_b_markedArmies r_b_markedWars r_b_latest r_b_trial r_b_foresight r_b_pairs b_latestStatus b_fractionTop b_fractionBottom b_marks 1 z_46 e_z_46 _ rfl _ rfl) (cV ht mv_X11_deny tb_507 rfl rfl ⟨Nat.le_of_ble_eq_true rfl, Nat.le_of_ble_eq_true rfl⟩) hP hS hX [0] rfl rfl rfl rfl rfl rfl hl.1 rfl (Nat.le_of_ble_eq_true rfl) dX11_luck_29 ⟨Nat.le_of_ble_eq_true rfl, Nat.le_of_ble_eq_true rfl⟩ (fun H locs hP hS => ?_)
    have hP : PD D A [bl_X11 cy A_b r_b_trays (A_a 0) r_b_war r_b_draftArmy r_b_draftWar r_b_reader r_b_armyReader r_b_warReader r_b_markedArmies r_b_markedWars r_b_latest r_b_trial r_b_foresight r_b_pairs z_46.2 b_fractionTop b_fractionBottom b_marks, bl_X0 cy A_a a_name a_courage a_weight a_medals a_stood a_fled a_liked a_votes a_count a_living a_pride a_quota a_melted a_lost] H := hP
    obtain ⟨b_47, e_b_47, h⟩ := bi h
    obtain ⟨-, n_b_47, -⟩ := bz_ok e_b_47
    cases h
    subst hW1
    exact W.zret hx hb hr n_b_47 (fun _ ht9 _ => ⟨⟨_, (), rfl, rfl, hPt ht9 hP.1⟩, hS.F ht9⟩) hS.2.2 dX11_luck_32
  · have h := ie c_45 h
    refine lv_aload_n hx hb dX11_luck_11 rfl (lv_at hl 0 rfl) ?_
    refine xget (i := 0) (j := 0) (k := 4) (T := TX11) hx hb ht tb_iX11 hown hX hP.1 rfl rfl rfl (by decide) tb_433 rfl dX11_luck_12 ?_
    refine lv_iload_n hx hb dX11_luck_15 rfl (lv_at hl 2 rfl) ?_
    obtain ⟨z_48, e_z_48, h⟩ := bi h
    refine roVi (rest := []) ⟨hx, hb, hml, hown, ht⟩ (c_X0_isMan l D cy fu A_a a_name a_courage a_weight a_medals a_stood a_fled a_liked a_votes a_count a_living a_pride a_quota a_melted a_lost x2 z_48 e_z_48) (cV ht mv_X0_isMan tb_774 rfl rfl ⟨Nat.le_of_ble_eq_true rfl, Nat.le_of_ble_eq_true rfl⟩) (P_sub hP.1 [1] rfl) hX rfl rfl rfl hl.1 rfl (Nat.le_of_ble_eq_true rfl) dX11_luck_16 ⟨Nat.le_of_ble_eq_true rfl, Nat.le_of_ble_eq_true rfl⟩ ?_
    refine lv_if_eq (tgt := 27) hx hb dX11_luck_19 (by decide) (fun c_49 => ?_) (fun c_49 => ?_)
    · have h := it c_49 h
      refine lv_aload_n hx hb dX11_luck_27 rfl (lv_at hl 0 rfl) ?_
      refine lv_iconst (v := 1) hx hb dX11_luck_28 (by decide) ?_
      obtain ⟨z_50, e_z_50, h⟩ := bi h
      refine efVi (rest := []) ⟨hx, hb, hml, hown, ht⟩ (c_X11_deny l D cy fu A_b r_b_trays (A_a 0) r_b_war r_b_draftArmy r_b_draftWar r_b_reader r_b_armyReader r_b_warReader r_b_markedArmies r_b_markedWars r_b_latest r_b_trial r_b_foresight r_b_pairs b_latestStatus b_fractionTop b_fractionBottom b_marks 1 z_50 e_z_50 _ rfl _ rfl) (cV ht mv_X11_deny tb_507 rfl rfl ⟨Nat.le_of_ble_eq_true rfl, Nat.le_of_ble_eq_true rfl⟩) hP hS hX [0] rfl rfl rfl rfl rfl rfl hl.1 rfl (Nat.le_of_ble_eq_true rfl) dX11_luck_29 ⟨Nat.le_of_ble_eq_true rfl, Nat.le_of_ble_eq_true rfl⟩ (fun H locs hP hS => ?_)
      have hP : PD D A [bl_X11 cy A_b r_b_trays (A_a 0) r_b_war r_b_draftArmy r_b_draftWar r_b_reader r_b_armyReader r_b_warReader r_b_markedArmies r_b_markedWars r_b_latest r_b_trial r_b_foresight r_b_pairs z_50.2 b_fractionTop b_fractionBottom b_marks, bl_X0 cy A_a a_name a_courage a_weight a_medals a_stood a_fled a_liked a_votes a_count a_living a_pride a_quota a_melted a_lost] H := hP
      obtain ⟨b_51, e_b_51, h⟩ := bi h
      obtain ⟨-, n_b_51, -⟩ := bz_ok e_b_51
      cases h
      subst hW1
      exact W.zret hx hb hr n_b_51 (fun _ ht9 _ => ⟨⟨_, (), rfl, rfl, hPt ht9 hP.1⟩, hS.F ht9⟩) hS.2.2 dX11_luck_32
    · have h := ie c_49 h
      refine lv_iload_n hx hb dX11_luck_22 rfl (lv_at hl 1 rfl) ?_
      refine lv_iload_n hx hb dX11_luck_23 rfl (lv_at hl 2 rfl) ?_
      refine lv_icmp_ne (tgt := 33) hx hb dX11_luck_24 (by decide) (fun c_52 => ?_) (fun c_52 => ?_)
      · have h := ie c_52 h
        refine lv_aload_n hx hb dX11_luck_33 rfl (lv_at hl 0 rfl) ?_
        refine xget (i := 0) (j := 0) (k := 4) (T := TX11) hx hb ht tb_iX11 hown hX hP.1 rfl rfl rfl (by decide) tb_433 rfl dX11_luck_34 ?_
        refine lv_iload_n hx hb dX11_luck_37 rfl (lv_at hl 1 rfl) ?_
        obtain ⟨z_53, e_z_53, h⟩ := bi h
        refine roVi (rest := []) ⟨hx, hb, hml, hown, ht⟩ (c_X0_lives l D cy fu A_a a_name a_courage a_weight a_medals a_stood a_fled a_liked a_votes a_count a_living a_pride a_quota a_melted a_lost x1 z_53 e_z_53) (cV ht mv_X0_lives tb_775 rfl rfl ⟨Nat.le_of_ble_eq_true rfl, Nat.le_of_ble_eq_true rfl⟩) (P_sub hP.1 [1] rfl) hX rfl rfl rfl hl.1 rfl (Nat.le_of_ble_eq_true rfl) dX11_luck_38 ⟨Nat.le_of_ble_eq_true rfl, Nat.le_of_ble_eq_true rfl⟩ ?_
        refine lv_if_eq (tgt := 55) hx hb dX11_luck_41 (by decide) (fun c_54 => ?_) (fun c_54 => ?_)
        · have h := it c_54 h
          refine lv_aload_n hx hb dX11_luck_55 rfl (lv_at hl 0 rfl) ?_
          refine lv_bipush (v := 7) hx hb dX11_luck_56 (by decide) ?_
          obtain ⟨z_55, e_z_55, h⟩ := bi h
          refine efVi (rest := []) ⟨hx, hb, hml, hown, ht⟩ (c_X11_deny l D cy fu A_b r_b_trays (A_a 0) r_b_war r_b_draftArmy r_b_draftWar r_b_reader r_b_armyReader r_b_warReader r_b_markedArmies r_b_markedWars r_b_latest r_b_trial r_b_foresight r_b_pairs b_latestStatus b_fractionTop b_fractionBottom b_marks 7 z_55 e_z_55 _ rfl _ rfl) (cV ht mv_X11_deny tb_507 rfl rfl ⟨Nat.le_of_ble_eq_true rfl, Nat.le_of_ble_eq_true rfl⟩) hP hS hX [0] rfl rfl rfl rfl rfl rfl hl.1 rfl (Nat.le_of_ble_eq_true rfl) dX11_luck_58 ⟨Nat.le_of_ble_eq_true rfl, Nat.le_of_ble_eq_true rfl⟩ (fun H locs hP hS => ?_)
          have hP : PD D A [bl_X11 cy A_b r_b_trays (A_a 0) r_b_war r_b_draftArmy r_b_draftWar r_b_reader r_b_armyReader r_b_warReader r_b_markedArmies r_b_markedWars r_b_latest r_b_trial r_b_foresight r_b_pairs z_55.2 b_fractionTop b_fractionBottom b_marks, bl_X0 cy A_a a_name a_courage a_weight a_medals a_stood a_fled a_liked a_votes a_count a_living a_pride a_quota a_melted a_lost] H := hP
          obtain ⟨b_56, e_b_56, h⟩ := bi h
          obtain ⟨-, n_b_56, -⟩ := bz_ok e_b_56
          cases h
          subst hW1
          exact W.zret hx hb hr n_b_56 (fun _ ht9 _ => ⟨⟨_, (), rfl, rfl, hPt ht9 hP.1⟩, hS.F ht9⟩) hS.2.2 dX11_luck_61
        · have h := ie c_54 h
          refine lv_aload_n hx hb dX11_luck_44 rfl (lv_at hl 0 rfl) ?_
          refine xget (i := 0) (j := 0) (k := 4) (T := TX11) hx hb ht tb_iX11 hown hX hP.1 rfl rfl rfl (by decide) tb_433 rfl dX11_luck_45 ?_
          refine lv_iload_n hx hb dX11_luck_48 rfl (lv_at hl 2 rfl) ?_
          obtain ⟨z_57, e_z_57, h⟩ := bi h
          refine roVi (rest := []) ⟨hx, hb, hml, hown, ht⟩ (c_X0_lives l D cy fu A_a a_name a_courage a_weight a_medals a_stood a_fled a_liked a_votes a_count a_living a_pride a_quota a_melted a_lost x2 z_57 e_z_57) (cV ht mv_X0_lives tb_775 rfl rfl ⟨Nat.le_of_ble_eq_true rfl, Nat.le_of_ble_eq_true rfl⟩) (P_sub hP.1 [1] rfl) hX rfl rfl rfl hl.1 rfl (Nat.le_of_ble_eq_true rfl) dX11_luck_49 ⟨Nat.le_of_ble_eq_true rfl, Nat.le_of_ble_eq_true rfl⟩ ?_
          refine lv_if_ne (tgt := 62) hx hb dX11_luck_52 (by decide) (fun c_58 => ?_) (fun c_58 => ?_)
          · have h := ie c_58 h
            refine lv_iconst (v := 0) hx hb dX11_luck_62 (by decide) ?_
            refine lv_istore_n (lv' := [(3, .int 0), (0, .ref (A_b 0)), (1, .int x1), (2, .int x2)]) hx hb dX11_luck_63 rfl hl (by decide) rfl (fun ls hl => ?_)
            refine lv_iconst (v := 1) hx hb dX11_luck_64 (by decide) ?_
            refine lv_istore (lv' := [(4, .int 1), (3, .int 0), (0, .ref (A_b 0)), (1, .int x1), (2, .int x2)]) hx hb dX11_luck_65 hl (by decide) rfl (fun ls hl => ?_)
            exact l67 fu b_latestStatus b_fractionTop b_fractionBottom a_votes 0 1 _ _ hP hS ls (lv_sub hl [2, 3, 4, 1, 0] rfl) h
          · have h := it c_58 h
            refine lv_aload_n hx hb dX11_luck_55 rfl (lv_at hl 0 rfl) ?_
            refine lv_bipush (v := 7) hx hb dX11_luck_56 (by decide) ?_
            obtain ⟨z_59, e_z_59, h⟩ := bi h
            refine efVi (rest := []) ⟨hx, hb, hml, hown, ht⟩ (c_X11_deny l D cy fu A_b r_b_trays (A_a 0) r_b_war r_b_draftArmy r_b_draftWar r_b_reader r_b_armyReader r_b_warReader r_b_markedArmies r_b_markedWars r_b_latest r_b_trial r_b_foresight r_b_pairs b_latestStatus b_fractionTop b_fractionBottom b_marks 7 z_59 e_z_59 _ rfl _ rfl) (cV ht mv_X11_deny tb_507 rfl rfl ⟨Nat.le_of_ble_eq_true rfl, Nat.le_of_ble_eq_true rfl⟩) hP hS hX [0] rfl rfl rfl rfl rfl rfl hl.1 rfl (Nat.le_of_ble_eq_true rfl) dX11_luck_58 ⟨Nat.le_of_ble_eq_true rfl, Nat.le_of_ble_eq_true rfl⟩ (fun H locs hP hS => ?_)
            have hP : PD D A [bl_X11 cy A_b r_b_trays (A_a 0) r_b_war r_b_draftArmy r_b_draftWar r_b_reader r_b_armyReader r_b_warReader r_b_markedArmies r_b_markedWars r_b_latest r_b_trial r_b_foresight r_b_pairs z_59.2 b_fractionTop b_fractionBottom b_marks, bl_X0 cy A_a a_name a_courage a_weight a_medals a_stood a_fled a_liked a_votes a_count a_living a_pride a_quota a_melted a_lost] H := hP
            obtain ⟨b_60, e_b_60, h⟩ := bi h
            obtain ⟨-, n_b_60, -⟩ := bz_ok e_b_60
            cases h
            subst hW1
            exact W.zret hx hb hr n_b_60 (fun _ ht9 _ => ⟨⟨_, (), rfl, rfl, hPt ht9 hP.1⟩, hS.F ht9⟩) hS.2.2 dX11_luck_61
      · have h := it c_52 h
        refine lv_aload_n hx hb dX11_luck_27 rfl (lv_at hl 0 rfl) ?_
        refine lv_iconst (v := 1) hx hb dX11_luck_28 (by decide) ?_
        obtain ⟨z_61, e_z_61, h⟩ := bi h
        refine efVi (rest := []) ⟨hx, hb, hml, hown, ht⟩ (c_X11_deny l D cy fu A_b r_b_trays (A_a 0) r_b_war r_b_draftArmy r_b_draftWar r_b_reader r_b_armyReader r_b_warReader r_b_markedArmies r_b_markedWars r_b_latest r_b_trial r_b_foresight r_b_pairs b_latestStatus b_fractionTop b_fractionBottom b_marks 1 z_61 e_z_61 _ rfl _ rfl) (cV ht mv_X11_deny tb_507 rfl rfl ⟨Nat.le_of_ble_eq_true rfl, Nat.le_of_ble_eq_true rfl⟩) hP hS hX [0] rfl rfl rfl rfl rfl rfl hl.1 rfl (Nat.le_of_ble_eq_true rfl) dX11_luck_29 ⟨Nat.le_of_ble_eq_true rfl, Nat.le_of_ble_eq_true rfl⟩ (fun H locs hP hS => ?_)
        have hP : PD D A [bl_X11 cy A_b r_b_trays (A_a 0) r_b_war r_b_draftArmy r_b_draftWar r_b_reader r_b_armyReader r_b_warReader r_b_markedArmies r_b_markedWars r_b_latest r_b_trial r_b_foresight r_b_pairs z_61.2 b_fractionTop b_fractionBottom b_marks, bl_X0 cy A_a a_name a_courage a_weight a_medals a_stood a_fled a_liked a_votes a_count a_living a_pride a_quota a_melted a_lost] H := hP
        obtain ⟨b_62, e_b_62, h⟩ := bi h
        obtain ⟨-, n_b_62, -⟩ := bz_ok e_b_62
        cases h
        subst hW1
        exact W.zret hx hb hr n_b_62 (fun _ ht9 _ => ⟨⟨_, (), rfl, rfl, hPt ht9 hP.1⟩, hS.F ht9⟩) hS.2.2 dX11_luck_32
theorem dX11_hopeful_0 : decode cX11_hopeful 0 = .ok (.iconst 0, 1) := by decide +kernel
theorem dX11_hopeful_1 : decode cX11_hopeful 1 = .ok (.istore_n 1, 1) := by decide +kernel
theorem dX11_hopeful_2 : decode cX11_hopeful 2 = .ok (.iconst 0, 1) := by decide +kernel
theorem dX11_hopeful_3 : decode cX11_hopeful 3 = .ok (.istore_n 2, 1) := by decide +kernel
theorem dX11_hopeful_4 : decode cX11_hopeful 4 = .ok (.iconst 1, 1) := by decide +kernel
theorem dX11_hopeful_5 : decode cX11_hopeful 5 = .ok (.istore_n 3, 1) := by decide +kernel
theorem dX11_hopeful_6 : decode cX11_hopeful 6 = .ok (.iload_n 3, 1) := by decide +kernel
theorem dX11_hopeful_7 : decode cX11_hopeful 7 = .ok (.bipush 99, 2) := by decide +kernel
theorem dX11_hopeful_9 : decode cX11_hopeful 9 = .ok (.if_icmp .gt 68, 3) := by decide +kernel
theorem dX11_hopeful_12 : decode cX11_hopeful 12 = .ok (.aload_n 0, 1) := by decide +kernel
theorem dX11_hopeful_13 : decode cX11_hopeful 13 = .ok (.getfield 29, 3) := by decide +kernel
theorem dX11_hopeful_16 : decode cX11_hopeful 16 = .ok (.iload_n 3, 1) := by decide +kernel
theorem dX11_hopeful_17 : decode cX11_hopeful 17 = .ok (.invokevirtual 297, 3) := by decide +kernel
theorem dX11_hopeful_20 : decode cX11_hopeful 20 = .ok (.istore 4, 2) := by decide +kernel
theorem dX11_hopeful_22 : decode cX11_hopeful 22 = .ok (.iload 4, 2) := by decide +kernel
theorem dX11_hopeful_24 : decode cX11_hopeful 24 = .ok (.iload_n 2, 1) := by decide +kernel
theorem dX11_hopeful_25 : decode cX11_hopeful 25 = .ok (.if_icmp .eq 43, 3) := by decide +kernel
theorem dX11_hopeful_28 : decode cX11_hopeful 28 = .ok (.iload 4, 2) := by decide +kernel
theorem dX11_hopeful_30 : decode cX11_hopeful 30 = .ok (.aload_n 0, 1) := by decide +kernel
theorem dX11_hopeful_31 : decode cX11_hopeful 31 = .ok (.getfield 29, 3) := by decide +kernel
theorem dX11_hopeful_34 : decode cX11_hopeful 34 = .ok (.getfield 221, 3) := by decide +kernel
theorem dX11_hopeful_37 : decode cX11_hopeful 37 = .ok (.if_icmp .eq 31, 3) := by decide +kernel
theorem dX11_hopeful_40 : decode cX11_hopeful 40 = .ok (.aload_n 0, 1) := by decide +kernel
theorem dX11_hopeful_41 : decode cX11_hopeful 41 = .ok (.getfield 29, 3) := by decide +kernel
theorem dX11_hopeful_44 : decode cX11_hopeful 44 = .ok (.iload 4, 2) := by decide +kernel
theorem dX11_hopeful_46 : decode cX11_hopeful 46 = .ok (.invokevirtual 312, 3) := by decide +kernel
theorem dX11_hopeful_49 : decode cX11_hopeful 49 = .ok (.istore 5, 2) := by decide +kernel
theorem dX11_hopeful_51 : decode cX11_hopeful 51 = .ok (.iload_n 1, 1) := by decide +kernel
theorem dX11_hopeful_52 : decode cX11_hopeful 52 = .ok (.iload 5, 2) := by decide +kernel
theorem dX11_hopeful_54 : decode cX11_hopeful 54 = .ok (.iconst (-1), 1) := by decide +kernel
theorem dX11_hopeful_55 : decode cX11_hopeful 55 = .ok (.if_icmp .ne 7, 3) := by decide +kernel
theorem dX11_hopeful_58 : decode cX11_hopeful 58 = .ok (.iconst 0, 1) := by decide +kernel
theorem dX11_hopeful_59 : decode cX11_hopeful 59 = .ok (.goto 7, 3) := by decide +kernel
theorem dX11_hopeful_62 : decode cX11_hopeful 62 = .ok (.iconst 1, 1) := by decide +kernel
theorem dX11_hopeful_63 : decode cX11_hopeful 63 = .ok (.iload 5, 2) := by decide +kernel
theorem dX11_hopeful_65 : decode cX11_hopeful 65 = .ok (.ishl, 1) := by decide +kernel
theorem dX11_hopeful_66 : decode cX11_hopeful 66 = .ok (.ior, 1) := by decide +kernel
theorem dX11_hopeful_67 : decode cX11_hopeful 67 = .ok (.istore_n 1, 1) := by decide +kernel
theorem dX11_hopeful_68 : decode cX11_hopeful 68 = .ok (.iload 4, 2) := by decide +kernel
theorem dX11_hopeful_70 : decode cX11_hopeful 70 = .ok (.istore_n 2, 1) := by decide +kernel
theorem dX11_hopeful_71 : decode cX11_hopeful 71 = .ok (.iinc 3 1, 3) := by decide +kernel
theorem dX11_hopeful_74 : decode cX11_hopeful 74 = .ok (.goto (-68), 3) := by decide +kernel
theorem dX11_hopeful_77 : decode cX11_hopeful 77 = .ok (.aload_n 0, 1) := by decide +kernel
theorem dX11_hopeful_78 : decode cX11_hopeful 78 = .ok (.iload_n 1, 1) := by decide +kernel
theorem dX11_hopeful_79 : decode cX11_hopeful 79 = .ok (.invokevirtual 193, 3) := by decide +kernel
theorem dX11_hopeful_82 : decode cX11_hopeful 82 = .ok (.ireturn, 1) := by decide +kernel
theorem mv_X11_hopeful : MV yX11_hopeful RX11 cX11_hopeful 6 (some .int) 0 := ⟨tb_1145, tb_1143, tb_1144, tb_1, by decide +kernel, by decide +kernel, by decide +kernel⟩
def f_X11_hopeful_b6 (fu : Nat) (a_courage : Nat → Int32) (a_weight : Nat → Int32) (a_medals : Nat → Int32) (a_liked : Nat → Int32) (a_count : Int32) (a_living : Int32) (a_pride : Int32) (k6 : Int32 → (Nat → Int32) → Int32 → Int32 → Int32 → (Option (Int32 × Int32 × (Nat → Int32)))) (b_latestStatus : Int32) (a_votes : Nat → Int32) (x1 : Int32) (x2 : Int32) (x3 : Int32) : Option (Int32 × Int32 × (Nat → Int32)) := (if 99 < x3 then (f_X11_answer fu b_latestStatus x1).bind fun z_15 => some (z_15.1, z_15.2, a_votes) else (f_X0_runners fu a_courage a_medals a_count a_living a_pride x3).bind fun z_16 => (if z_16 = x2 then bnd (x3 + 1) fun x3_18 => k6 b_latestStatus a_votes x1 z_16 x3_18 else (if z_16 = a_living then bnd (x3 + 1) fun x3_20 => k6 b_latestStatus a_votes x1 z_16 x3_20 else (f_X0_winnerOf fu a_weight a_liked a_votes a_count a_living z_16).bind fun z_21 => (if z_21.1 = (-1) then bnd (x1 ||| 0) fun x1_25 => bnd (x3 + 1) fun x3_26 => k6 b_latestStatus z_21.2 x1_25 z_16 x3_26 else bnd (x1 ||| ((1 : Int32) <<< (z_21.1 &&& 31))) fun x1_23 => bnd (x3 + 1) fun x3_24 => k6 b_latestStatus z_21.2 x1_23 z_16 x3_24))))
def f_X11_hopeful_l6 (fu : Nat) (a_courage : Nat → Int32) (a_weight : Nat → Int32) (a_medals : Nat → Int32) (a_liked : Nat → Int32) (a_count : Int32) (a_living : Int32) (a_pride : Int32) : Nat → Int32 → (Nat → Int32) → Int32 → Int32 → Int32 → (Option (Int32 × Int32 × (Nat → Int32)))
  | 0, _, _, _, _, _ => none
  | n + 1, b_latestStatus, a_votes, x1, x2, x3 => f_X11_hopeful_b6 fu a_courage a_weight a_medals a_liked a_count a_living a_pride (f_X11_hopeful_l6 fu a_courage a_weight a_medals a_liked a_count a_living a_pride n) b_latestStatus a_votes x1 x2 x3
def f_X11_hopeful (fu : Nat) (b_latestStatus : Int32) (a_courage : Nat → Int32) (a_weight : Nat → Int32) (a_medals : Nat → Int32) (a_liked : Nat → Int32) (a_votes : Nat → Int32) (a_count : Int32) (a_living : Int32) (a_pride : Int32) : Option (Int32 × Int32 × (Nat → Int32)) := f_X11_hopeful_l6 fu a_courage a_weight a_medals a_liked a_count a_living a_pride fu b_latestStatus a_votes 0 0 1
abbrev rm_X11_hopeful : Room := { frames := 2, cells := 0, slots := 0, locals := 50 }
set_option maxHeartbeats 4000000 in
set_option maxRecDepth 100000 in
theorem c_X11_hopeful (l : Launch) (D : va_G) (cy : Nat → ClassId) (fu : Nat) (A_b : Nat → Nat) (r_b_trays : Nat) (r_b_war : Nat) (r_b_draftArmy : Nat) (r_b_draftWar : Nat) (r_b_reader : Nat) (r_b_armyReader : Nat) (r_b_warReader : Nat) (r_b_markedArmies : Nat) (r_b_markedWars : Nat) (r_b_latest : Nat) (r_b_trial : Nat) (r_b_foresight : Nat) (r_b_pairs : Nat) (b_latestStatus : Int32) (b_fractionTop : Int64) (b_fractionBottom : Int64) (b_marks : Int32) (A_a : Nat → Nat) (a_name : Nat → Int64) (a_courage : Nat → Int32) (a_weight : Nat → Int32) (a_medals : Nat → Int32) (a_stood : Nat → Int32) (a_fled : Nat → Int32) (a_liked : Nat → Int32) (a_votes : Nat → Int32) (a_count : Int32) (a_living : Int32) (a_pride : Int32) (a_quota : Int32) (a_melted : Int32) (a_lost : Int32) (res : Int32 × Int32 × (Nat → Int32)) (h : f_X11_hopeful fu b_latestStatus a_courage a_weight a_medals a_liked a_votes a_count a_living a_pride = some res) (A : Nat → Prop) (hA : A = adr [bl_X11 cy A_b r_b_trays (A_a 0) r_b_war r_b_draftArmy r_b_draftWar r_b_reader r_b_armyReader r_b_warReader r_b_markedArmies r_b_markedWars r_b_latest r_b_trial r_b_foresight r_b_pairs b_latestStatus b_fractionTop b_fractionBottom b_marks, bl_X0 cy A_a a_name a_courage a_weight a_medals a_stood a_fled a_liked a_votes a_count a_living a_pride a_quota a_melted a_lost]) (W1 : List va_W) (hW1 : W1 = [bl_X11 cy A_b r_b_trays (A_a 0) r_b_war r_b_draftArmy r_b_draftWar r_b_reader r_b_armyReader r_b_warReader r_b_markedArmies r_b_markedWars r_b_latest r_b_trial r_b_foresight r_b_pairs res.2.1 b_fractionTop b_fractionBottom b_marks, bl_X0 cy A_a a_name a_courage a_weight a_medals a_stood a_fled a_liked res.2.2 a_count a_living a_pride a_quota a_melted a_lost]) : Met l yX11_hopeful (WW yX11_hopeful cX11_hopeful 6 (some .int)) rm_X11_hopeful (Ed D cy [.ref (A_b 0)] [bl_X11 cy A_b r_b_trays (A_a 0) r_b_war r_b_draftArmy r_b_draftWar r_b_reader r_b_armyReader r_b_warReader r_b_markedArmies r_b_markedWars r_b_latest r_b_trial r_b_foresight r_b_pairs b_latestStatus b_fractionTop b_fractionBottom b_marks, bl_X0 cy A_a a_name a_courage a_weight a_medals a_stood a_fled a_liked a_votes a_count a_living a_pride a_quota a_melted a_lost]) (Qei D res.1 A W1) 0 0 A := by
  refine Met.ofW (cc := cX11_hopeful) (maxL := 6) (ret := (some .int)) (by decide) rfl ?_
  intro p e s m args below meth c s₁ B hml hv
  obtain ⟨hargs, hP, hX, hD0⟩ := hv
  have hx := B.exec
  have hb := B.bytes
  have hr := B.returns
  have ht : ∀ w ∈ lw_gd, w.before args s = true := fun w hw => atoms_spec (ws := WW yX11_hopeful cX11_hopeful 6 (some .int)) B.pre w (List.mem_cons_of_mem _ hw)
  have hown : s.vm.findClass RX11 = some m.cls := findClass_of_methodNamed B.named
  have hlocks := B.notSynchronized
  have hP : PD D A [bl_X11 cy A_b r_b_trays (A_a 0) r_b_war r_b_draftArmy r_b_draftWar r_b_reader r_b_armyReader r_b_warReader r_b_markedArmies r_b_markedWars r_b_latest r_b_trial r_b_foresight r_b_pairs b_latestStatus b_fractionTop b_fractionBottom b_marks, bl_X0 cy A_a a_name a_courage a_weight a_medals a_stood a_fled a_liked a_votes a_count a_living a_pride a_quota a_melted a_lost] s.heap := ⟨hP, by rw [hA]; exact hD0.own⟩
  have hS : va_S A s.heap s.heap [] := va_S.rf
  obtain ⟨ls, hl, hent⟩ := ent (m := m) (n := 6) hargs (Nat.le_of_ble_eq_true rfl) (lv := [(0, .ref (A_b 0))]) rfl
  rw [hent]
  clear hent
  have l6 : ∀ (n6 : Nat) (b_latestStatus : Int32) (a_votes : Nat → Int32) (x1 : Int32) (x2 : Int32) (x3 : Int32) (H : Heap) (locs : List Loc) (_ : PD D A [bl_X11 cy A_b r_b_trays (A_a 0) r_b_war r_b_draftArmy r_b_draftWar r_b_reader r_b_armyReader r_b_warReader r_b_markedArmies r_b_markedWars r_b_latest r_b_trial r_b_foresight r_b_pairs b_latestStatus b_fractionTop b_fractionBottom b_marks, bl_X0 cy A_a a_name a_courage a_weight a_medals a_stood a_fled a_liked a_votes a_count a_living a_pride a_quota a_melted a_lost] H) (_ : va_S A s.heap H locs) (ls : Array Slot), lv_has ls 6 [(0, .ref (A_b 0)), (1, .int x1), (2, .int x2), (3, .int x3)] → f_X11_hopeful_l6 fu a_courage a_weight a_medals a_liked a_count a_living a_pride n6 b_latestStatus a_votes x1 x2 x3 = some res → W p l e (headSpec (WW yX11_hopeful cX11_hopeful 6 (some .int)) rm_X11_hopeful).room s m args below meth c H locs 0 0 (MQ below (Qei D res.1 A W1) args s 0 0 A) (F0 m 6 ls []) := by
    intro n6
    induction n6 with
    | zero => intro b_latestStatus a_votes x1 x2 x3 H locs hP hS ls hl h; cases h
    | succ n6 ih6 =>
      intro b_latestStatus a_votes x1 x2 x3 H locs hP hS ls hl h
      have h : f_X11_hopeful_b6 fu a_courage a_weight a_medals a_liked a_count a_living a_pride (f_X11_hopeful_l6 fu a_courage a_weight a_medals a_liked a_count a_living a_pride n6) b_latestStatus a_votes x1 x2 x3 = some res := h
      unfold f_X11_hopeful_b6 at h
      refine lv_iload_n hx hb dX11_hopeful_6 rfl (lv_at hl 3 rfl) ?_
      refine lv_bipush (v := 99) hx hb dX11_hopeful_7 (by decide) ?_
      refine lv_icmp_gt (tgt := 77) hx hb dX11_hopeful_9 (by decide) (fun c_14 => ?_) (fun c_14 => ?_)
      · have h := it c_14 h
        refine lv_aload_n hx hb dX11_hopeful_77 rfl (lv_at hl 0 rfl) ?_
        refine lv_iload_n hx hb dX11_hopeful_78 rfl (lv_at hl 1 rfl) ?_
        obtain ⟨z_15, e_z_15, h⟩ := bi h
        refine efVi (rest := []) ⟨hx, hb, hml, hown, ht⟩ (c_X11_answer l D cy fu A_b r_b_trays (A_a 0) r_b_war r_b_draftArmy r_b_draftWar r_b_reader r_b_armyReader r_b_warReader r_b_markedArmies r_b_markedWars r_b_latest r_b_trial r_b_foresight r_b_pairs b_latestStatus b_fractionTop b_fractionBottom b_marks x1 z_15 e_z_15 _ rfl _ rfl) (cV ht mv_X11_answer tb_696 rfl rfl ⟨Nat.le_of_ble_eq_true rfl, Nat.le_of_ble_eq_true rfl⟩) hP hS hX [0] rfl rfl rfl rfl rfl rfl hl.1 rfl (Nat.le_of_ble_eq_true rfl) dX11_hopeful_79 ⟨Nat.le_of_ble_eq_true rfl, Nat.le_of_ble_eq_true rfl⟩ (fun H locs hP hS => ?_)
        have hP : PD D A [bl_X11 cy A_b r_b_trays (A_a 0) r_b_war r_b_draftArmy r_b_draftWar r_b_reader r_b_armyReader r_b_warReader r_b_markedArmies r_b_markedWars r_b_latest r_b_trial r_b_foresight r_b_pairs z_15.2 b_fractionTop b_fractionBottom b_marks, bl_X0 cy A_a a_name a_courage a_weight a_medals a_stood a_fled a_liked a_votes a_count a_living a_pride a_quota a_melted a_lost] H := hP
        cases h
        subst hW1
        exact W.iret hx hb hr (fun _ ht9 _ => ⟨⟨_, (), rfl, rfl, hPt ht9 hP.1⟩, hS.F ht9⟩) hS.2.2 dX11_hopeful_82
      · have h := ie c_14 h
        refine lv_aload_n hx hb dX11_hopeful_12 rfl (lv_at hl 0 rfl) ?_
        refine xget (i := 0) (j := 0) (k := 4) (T := TX11) hx hb ht tb_iX11 hown hX hP.1 rfl rfl rfl (by decide) tb_433 rfl dX11_hopeful_13 ?_
        refine lv_iload_n hx hb dX11_hopeful_16 rfl (lv_at hl 3 rfl) ?_
        obtain ⟨z_16, e_z_16, h⟩ := bi h
        refine roVi (rest := []) ⟨hx, hb, hml, hown, ht⟩ (c_X0_runners l D cy fu A_a a_name a_courage a_weight a_medals a_stood a_fled a_liked a_votes a_count a_living a_pride a_quota a_melted a_lost x3 z_16 e_z_16) (cV ht mv_X0_runners tb_884 rfl rfl ⟨Nat.le_of_ble_eq_true rfl, Nat.le_of_ble_eq_true rfl⟩) (P_sub hP.1 [1] rfl) hX rfl rfl rfl hl.1 rfl (Nat.le_of_ble_eq_true rfl) dX11_hopeful_17 ⟨Nat.le_of_ble_eq_true rfl, Nat.le_of_ble_eq_true rfl⟩ ?_
        refine lv_istore (lv' := [(4, .int z_16), (0, .ref (A_b 0)), (1, .int x1), (2, .int x2), (3, .int x3)]) hx hb dX11_hopeful_20 hl (by decide) rfl (fun ls hl => ?_)
        refine lv_iload hx hb dX11_hopeful_22 (lv_at hl 0 rfl) ?_
        refine lv_iload_n hx hb dX11_hopeful_24 rfl (lv_at hl 3 rfl) ?_
        refine lv_icmp_eq (tgt := 68) hx hb dX11_hopeful_25 (by decide) (fun c_17 => ?_) (fun c_17 => ?_)
        · have h := it c_17 h
          refine lv_iload hx hb dX11_hopeful_68 (lv_at hl 0 rfl) ?_
          refine lv_istore_n (lv' := [(2, .int z_16), (4, .int z_16), (0, .ref (A_b 0)), (1, .int x1), (3, .int x3)]) hx hb dX11_hopeful_70 rfl hl (by decide) rfl (fun ls hl => ?_)
          obtain ⟨x3_18, e_x3_18⟩ : ∃ y : Int32, y = x3 + 1 := ⟨_, rfl⟩
          have h := bn e_x3_18 h
          refine lv_iinc (v := x3_18) (lv' := [(3, .int x3_18), (2, .int z_16), (4, .int z_16), (0, .ref (A_b 0)), (1, .int x1)]) hx hb dX11_hopeful_71 hl (k := 4) rfl (by rw [e_x3_18]; rfl) (by decide) rfl (fun ls hl => ?_)
          refine lv_goto (tgt := 6) hx hb dX11_hopeful_74 (by decide) ?_
          exact ih6 b_latestStatus a_votes x1 z_16 x3_18 _ _ hP hS ls (lv_sub hl [3, 4, 1, 0] rfl) h
        · have h := ie c_17 h
          refine lv_iload hx hb dX11_hopeful_28 (lv_at hl 0 rfl) ?_
          refine lv_aload_n hx hb dX11_hopeful_30 rfl (lv_at hl 1 rfl) ?_
          refine xget (i := 0) (j := 0) (k := 4) (T := TX11) hx hb ht tb_iX11 hown hX hP.1 rfl rfl rfl (by decide) tb_433 rfl dX11_hopeful_31 ?_
          refine xget (i := 1) (j := 0) (k := 9) (T := TX0) hx hb ht tb_iX0 hown hX hP.1 rfl rfl rfl (by decide) tb_64 rfl dX11_hopeful_34 ?_
          refine lv_icmp_eq (tgt := 68) hx hb dX11_hopeful_37 (by decide) (fun c_19 => ?_) (fun c_19 => ?_)
          · have h := it c_19 h
            refine lv_iload hx hb dX11_hopeful_68 (lv_at hl 0 rfl) ?_
            refine lv_istore_n (lv' := [(2, .int z_16), (4, .int z_16), (0, .ref (A_b 0)), (1, .int x1), (3, .int x3)]) hx hb dX11_hopeful_70 rfl hl (by decide) rfl (fun ls hl => ?_)
            obtain ⟨x3_20, e_x3_20⟩ : ∃ y : Int32, y = x3 + 1 := ⟨_, rfl⟩
            have h := bn e_x3_20 h
            refine lv_iinc (v := x3_20) (lv' := [(3, .int x3_20), (2, .int z_16), (4, .int z_16), (0, .ref (A_b 0)), (1, .int x1)]) hx hb dX11_hopeful_71 hl (k := 4) rfl (by rw [e_x3_20]; rfl) (by decide) rfl (fun ls hl => ?_)
            refine lv_goto (tgt := 6) hx hb dX11_hopeful_74 (by decide) ?_
            exact ih6 b_latestStatus a_votes x1 z_16 x3_20 _ _ hP hS ls (lv_sub hl [3, 4, 1, 0] rfl) h
          · have h := ie c_19 h
            refine lv_aload_n hx hb dX11_hopeful_40 rfl (lv_at hl 1 rfl) ?_
            refine xget (i := 0) (j := 0) (k := 4) (T := TX11) hx hb ht tb_iX11 hown hX hP.1 rfl rfl rfl (by decide) tb_433 rfl dX11_hopeful_41 ?_
            refine lv_iload hx hb dX11_hopeful_44 (lv_at hl 0 rfl) ?_
            obtain ⟨z_21, e_z_21, h⟩ := bi h
            refine efVi (rest := []) ⟨hx, hb, hml, hown, ht⟩ (c_X0_winnerOf l D cy fu A_a a_name a_courage a_weight a_medals a_stood a_fled a_liked a_votes a_count a_living a_pride a_quota a_melted a_lost z_16 z_21 e_z_21 _ rfl _ rfl) (cV ht mv_X0_winnerOf tb_917 rfl rfl ⟨Nat.le_of_ble_eq_true rfl, Nat.le_of_ble_eq_true rfl⟩) hP hS hX [1] rfl rfl rfl rfl rfl rfl hl.1 rfl (Nat.le_of_ble_eq_true rfl) dX11_hopeful_46 ⟨Nat.le_of_ble_eq_true rfl, Nat.le_of_ble_eq_true rfl⟩ (fun H locs hP hS => ?_)
            have hP : PD D A [bl_X11 cy A_b r_b_trays (A_a 0) r_b_war r_b_draftArmy r_b_draftWar r_b_reader r_b_armyReader r_b_warReader r_b_markedArmies r_b_markedWars r_b_latest r_b_trial r_b_foresight r_b_pairs b_latestStatus b_fractionTop b_fractionBottom b_marks, bl_X0 cy A_a a_name a_courage a_weight a_medals a_stood a_fled a_liked z_21.2 a_count a_living a_pride a_quota a_melted a_lost] H := hP
            refine lv_istore (lv' := [(5, .int z_21.1), (4, .int z_16), (0, .ref (A_b 0)), (1, .int x1), (2, .int x2), (3, .int x3)]) hx hb dX11_hopeful_49 hl (by decide) rfl (fun ls hl => ?_)
            refine lv_iload_n hx hb dX11_hopeful_51 rfl (lv_at hl 3 rfl) ?_
            refine lv_iload hx hb dX11_hopeful_52 (lv_at hl 0 rfl) ?_
            refine lv_iconst (v := (-1)) hx hb dX11_hopeful_54 (by decide) ?_
            refine lv_icmp_ne (tgt := 62) hx hb dX11_hopeful_55 (by decide) (fun c_22 => ?_) (fun c_22 => ?_)
            · have h := ie c_22 h
              refine lv_iconst (v := 1) hx hb dX11_hopeful_62 (by decide) ?_
              refine lv_iload hx hb dX11_hopeful_63 (lv_at hl 0 rfl) ?_
              refine lv_ishl hx hb dX11_hopeful_65 ?_
              refine lv_ior hx hb dX11_hopeful_66 ?_
              refine lv_topi (fun x1_23 e_x1_23 => ?_)
              have h := bn e_x1_23 h
              refine lv_istore_n (lv' := [(1, .int x1_23), (5, .int z_21.1), (4, .int z_16), (0, .ref (A_b 0)), (2, .int x2), (3, .int x3)]) hx hb dX11_hopeful_67 rfl hl (by decide) rfl (fun ls hl => ?_)
              refine lv_iload hx hb dX11_hopeful_68 (lv_at hl 2 rfl) ?_
              refine lv_istore_n (lv' := [(2, .int z_16), (1, .int x1_23), (5, .int z_21.1), (4, .int z_16), (0, .ref (A_b 0)), (3, .int x3)]) hx hb dX11_hopeful_70 rfl hl (by decide) rfl (fun ls hl => ?_)
              obtain ⟨x3_24, e_x3_24⟩ : ∃ y : Int32, y = x3 + 1 := ⟨_, rfl⟩
              have h := bn e_x3_24 h
              refine lv_iinc (v := x3_24) (lv' := [(3, .int x3_24), (2, .int z_16), (1, .int x1_23), (5, .int z_21.1), (4, .int z_16), (0, .ref (A_b 0))]) hx hb dX11_hopeful_71 hl (k := 5) rfl (by rw [e_x3_24]; rfl) (by decide) rfl (fun ls hl => ?_)
              refine lv_goto (tgt := 6) hx hb dX11_hopeful_74 (by decide) ?_
              exact ih6 b_latestStatus z_21.2 x1_23 z_16 x3_24 _ _ hP hS ls (lv_sub hl [5, 2, 1, 0] rfl) h
            · have h := it c_22 h
              refine lv_iconst (v := 0) hx hb dX11_hopeful_58 (by decide) ?_
              refine lv_goto (tgt := 66) hx hb dX11_hopeful_59 (by decide) ?_
              refine lv_ior hx hb dX11_hopeful_66 ?_
              refine lv_topi (fun x1_25 e_x1_25 => ?_)
              have h := bn e_x1_25 h
              refine lv_istore_n (lv' := [(1, .int x1_25), (5, .int z_21.1), (4, .int z_16), (0, .ref (A_b 0)), (2, .int x2), (3, .int x3)]) hx hb dX11_hopeful_67 rfl hl (by decide) rfl (fun ls hl => ?_)
              refine lv_iload hx hb dX11_hopeful_68 (lv_at hl 2 rfl) ?_
              refine lv_istore_n (lv' := [(2, .int z_16), (1, .int x1_25), (5, .int z_21.1), (4, .int z_16), (0, .ref (A_b 0)), (3, .int x3)]) hx hb dX11_hopeful_70 rfl hl (by decide) rfl (fun ls hl => ?_)
              obtain ⟨x3_26, e_x3_26⟩ : ∃ y : Int32, y = x3 + 1 := ⟨_, rfl⟩
              have h := bn e_x3_26 h
              refine lv_iinc (v := x3_26) (lv' := [(3, .int x3_26), (2, .int z_16), (1, .int x1_25), (5, .int z_21.1), (4, .int z_16), (0, .ref (A_b 0))]) hx hb dX11_hopeful_71 hl (k := 5) rfl (by rw [e_x3_26]; rfl) (by decide) rfl (fun ls hl => ?_)
              refine lv_goto (tgt := 6) hx hb dX11_hopeful_74 (by decide) ?_
              exact ih6 b_latestStatus z_21.2 x1_25 z_16 x3_26 _ _ hP hS ls (lv_sub hl [5, 2, 1, 0] rfl) h
  unfold f_X11_hopeful at h
  refine lv_iconst (v := 0) hx hb dX11_hopeful_0 (by decide) ?_
  refine lv_istore_n (lv' := [(1, .int 0), (0, .ref (A_b 0))]) hx hb dX11_hopeful_1 rfl hl (by decide) rfl (fun ls hl => ?_)
  refine lv_iconst (v := 0) hx hb dX11_hopeful_2 (by decide) ?_
  refine lv_istore_n (lv' := [(2, .int 0), (1, .int 0), (0, .ref (A_b 0))]) hx hb dX11_hopeful_3 rfl hl (by decide) rfl (fun ls hl => ?_)
  refine lv_iconst (v := 1) hx hb dX11_hopeful_4 (by decide) ?_
  refine lv_istore_n (lv' := [(3, .int 1), (2, .int 0), (1, .int 0), (0, .ref (A_b 0))]) hx hb dX11_hopeful_5 rfl hl (by decide) rfl (fun ls hl => ?_)
  exact l6 fu b_latestStatus a_votes 0 0 1 _ _ hP hS ls (lv_sub hl [3, 2, 1, 0] rfl) h

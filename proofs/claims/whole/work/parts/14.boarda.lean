abbrev bl_X11 (cy : Nat → ClassId) (A : Nat → Nat) (r_trays : Nat) (r_army : Nat) (r_war : Nat) (r_draftArmy : Nat) (r_draftWar : Nat) (r_reader : Nat) (r_armyReader : Nat) (r_warReader : Nat) (r_markedArmies : Nat) (r_markedWars : Nat) (r_latest : Nat) (r_trial : Nat) (r_foresight : Nat) (r_pairs : Nat) (v_latestStatus : Int32) (v_fractionTop : Int64) (v_fractionBottom : Int64) (v_marks : Int32) : va_W := [(A 0, .inr (10, [.int v_latestStatus, .long v_fractionTop, .long v_fractionBottom, .ref r_trays, .ref r_army, .ref r_war, .ref r_draftArmy, .ref r_draftWar, .ref r_reader, .ref r_armyReader, .ref r_warReader, .ref r_markedArmies, .ref r_markedWars, .int v_marks, .ref r_latest, .ref r_trial, .ref r_foresight, .ref r_pairs]))]
theorem dX11_trayAt_0 : decode cX11_trayAt 0 = .ok (.iload_n 1, 1) := by decide +kernel
theorem dX11_trayAt_1 : decode cX11_trayAt 1 = .ok (.iconst 0, 1) := by decide +kernel
theorem dX11_trayAt_2 : decode cX11_trayAt 2 = .ok (.iconst 3, 1) := by decide +kernel
theorem dX11_trayAt_3 : decode cX11_trayAt 3 = .ok (.invokestatic 115, 3) := by decide +kernel
theorem dX11_trayAt_6 : decode cX11_trayAt 6 = .ok (.ifCond .eq 12, 3) := by decide +kernel
theorem dX11_trayAt_9 : decode cX11_trayAt 9 = .ok (.aload_n 0, 1) := by decide +kernel
theorem dX11_trayAt_10 : decode cX11_trayAt 10 = .ok (.getfield 22, 3) := by decide +kernel
theorem dX11_trayAt_13 : decode cX11_trayAt 13 = .ok (.iload_n 1, 1) := by decide +kernel
theorem dX11_trayAt_14 : decode cX11_trayAt 14 = .ok (.aaload, 1) := by decide +kernel
theorem dX11_trayAt_15 : decode cX11_trayAt 15 = .ok (.goto 4, 3) := by decide +kernel
theorem dX11_trayAt_18 : decode cX11_trayAt 18 = .ok (.aconst_null, 1) := by decide +kernel
theorem dX11_trayAt_19 : decode cX11_trayAt 19 = .ok (.areturn, 1) := by decide +kernel
theorem mv_X11_trayAt : MV yX11_trayAt RX11 cX11_trayAt 2 (some (.object "MedalBoard$Tray")) 1 := ⟨tb_503, tb_502, ts_0, tb_1, by decide +kernel, by decide +kernel, by decide +kernel⟩
def f_X11_trayAt (fu : Nat) (T_row : Nat → Option Nat) (x1 : Int32) : Option (Option Nat) := (f_X11_within fu x1 0 3).bind fun z_4 => (if z_4 = 0 then some (none) else (rdQ T_row 4 x1).bind fun v_6 => some (v_6))
abbrev rm_X11_trayAt : Room := { frames := 1, cells := 0, slots := 0, locals := 22 }
set_option maxHeartbeats 4000000 in
set_option maxRecDepth 100000 in
theorem c_X11_trayAt (l : Launch) (D : va_G) (cy : Nat → ClassId) (fu : Nat) (A_b : Nat → Nat) (r_b_army : Nat) (r_b_war : Nat) (r_b_draftArmy : Nat) (r_b_draftWar : Nat) (r_b_reader : Nat) (r_b_armyReader : Nat) (r_b_warReader : Nat) (r_b_markedArmies : Nat) (r_b_markedWars : Nat) (r_b_latest : Nat) (r_b_trial : Nat) (r_b_foresight : Nat) (r_b_pairs : Nat) (b_latestStatus : Int32) (b_fractionTop : Int64) (b_fractionBottom : Int64) (b_marks : Int32) (A_T : Nat → Nat) (T_row : Nat → Option Nat) (x1 : Int32) (res : Option Nat) (h : f_X11_trayAt fu T_row x1 = some res) : Met l yX11_trayAt (WW yX11_trayAt cX11_trayAt 2 (some (.object "MedalBoard$Tray"))) rm_X11_trayAt (Rd D cy [.ref (A_b 0), .int x1] [bl_X11 cy A_b (A_T 0) r_b_army r_b_war r_b_draftArmy r_b_draftWar r_b_reader r_b_armyReader r_b_warReader r_b_markedArmies r_b_markedWars r_b_latest r_b_trial r_b_foresight r_b_pairs b_latestStatus b_fractionTop b_fractionBottom b_marks, [(A_T 0, .inl (cy 4, 4, .inr (.inr (.inr (.inr T_row)))))]]) (va_Sq (fun v => v = res)) 0 0 (fun _ => False) := by
  refine Met.ofW (cc := cX11_trayAt) (maxL := 2) (ret := (some (.object "MedalBoard$Tray"))) (by decide) rfl ?_
  intro p e s m args below meth c s₁ B hml hv
  obtain ⟨hargs, hP, hX⟩ := hv
  have hx := B.exec
  have hb := B.bytes
  have hr := B.returns
  have ht : ∀ w ∈ lw_gd, w.before args s = true := fun w hw => atoms_spec (ws := WW yX11_trayAt cX11_trayAt 2 (some (.object "MedalBoard$Tray"))) B.pre w (List.mem_cons_of_mem _ hw)
  have hown : s.vm.findClass RX11 = some m.cls := findClass_of_methodNamed B.named
  have hlocks := B.notSynchronized
  have hP : PB D [bl_X11 cy A_b (A_T 0) r_b_army r_b_war r_b_draftArmy r_b_draftWar r_b_reader r_b_armyReader r_b_warReader r_b_markedArmies r_b_markedWars r_b_latest r_b_trial r_b_foresight r_b_pairs b_latestStatus b_fractionTop b_fractionBottom b_marks, [(A_T 0, .inl (cy 4, 4, .inr (.inr (.inr (.inr T_row)))))]] s.heap := hP
  obtain ⟨ls, hl, hent⟩ := ent (m := m) (n := 2) hargs (Nat.le_of_ble_eq_true rfl) (lv := [(0, .ref (A_b 0)), (1, .int x1)]) rfl
  rw [hent]
  clear hent
  unfold f_X11_trayAt at h
  refine lv_iload_n hx hb dX11_trayAt_0 rfl (lv_at hl 1 rfl) ?_
  refine lv_iconst (v := 0) hx hb dX11_trayAt_1 (by decide) ?_
  refine lv_iconst (v := 3) hx hb dX11_trayAt_2 (by decide) ?_
  obtain ⟨z_4, e_z_4, h⟩ := bi h
  refine roSi (rest := []) ⟨hx, hb, hml, hown, ht⟩ (c_X11_within l D cy fu  x1 0 3 z_4 e_z_4) (cS ht ms_X11_within tb_504 rfl rfl ⟨Nat.le_of_ble_eq_true rfl, Nat.le_of_ble_eq_true rfl⟩) (P_sub hP [] rfl) hX rfl hl.1 rfl (Nat.le_of_ble_eq_true rfl) dX11_trayAt_3 ⟨Nat.le_of_ble_eq_true rfl, Nat.le_of_ble_eq_true rfl⟩ ?_
  refine lv_if_eq (tgt := 18) hx hb dX11_trayAt_6 (by decide) (fun c_5 => ?_) (fun c_5 => ?_)
  · have h := it c_5 h
    refine lv_null hx hb dX11_trayAt_18 ?_
    cases h
    exact W.aret hx hb hr (Or.inl ⟨_, rfl⟩) (Or.inl rfl) (fun _ ht9 _ => ⟨_, rfl, rfl, ht9⟩) (fun _ hq => by cases hq) dX11_trayAt_19
  · have h := ie c_5 h
    refine lv_aload_n hx hb dX11_trayAt_9 rfl (lv_at hl 0 rfl) ?_
    refine xget (i := 0) (j := 0) (k := 3) (T := TX11) hx hb ht tb_iX11 hown hX hP rfl rfl rfl (by decide) tb_432 rfl dX11_trayAt_10 ?_
    refine lv_iload_n hx hb dX11_trayAt_13 rfl (lv_at hl 1 rfl) ?_
    obtain ⟨v_6, e_v_6, h⟩ := bi h
    refine xaald (i0 := 1) (j0 := 0) (t0 := 4) hx hb hX hP rfl rfl rfl e_v_6 dX11_trayAt_14 ?_
    refine lv_goto (tgt := 19) hx hb dX11_trayAt_15 (by decide) ?_
    cases h
    exact W.aret hx hb hr (Or.inl ⟨_, rfl⟩) (xrf_or) (fun _ ht9 _ => ⟨_, rfl, rfl, ht9⟩) (fun _ hq => by cases hq) dX11_trayAt_19
theorem tray_0 {fu : Nat} {a0 a1 a2 a3 : Nat} {x : Int32} (c : x = 0) : f_X11_trayAt fu (trf4 a0 a1 a2 a3) x = some (some a0) := by subst c; rfl
theorem tray_1 {fu : Nat} {a0 a1 a2 a3 : Nat} {x : Int32} (c : x = 1) : f_X11_trayAt fu (trf4 a0 a1 a2 a3) x = some (some a1) := by subst c; rfl
theorem tray_2 {fu : Nat} {a0 a1 a2 a3 : Nat} {x : Int32} (c : x = 2) : f_X11_trayAt fu (trf4 a0 a1 a2 a3) x = some (some a2) := by subst c; rfl
theorem tray_3 {fu : Nat} {a0 a1 a2 a3 : Nat} {x : Int32} (c : x = 3) : f_X11_trayAt fu (trf4 a0 a1 a2 a3) x = some (some a3) := by subst c; rfl
theorem tray_out {fu : Nat} {f : Nat → Option Nat} {x : Int32} (c : ¬ x = 0 ∧ ¬ x = 1 ∧ ¬ x = 2 ∧ ¬ x = 3) : f_X11_trayAt fu f x = some none := by
  have h : f_X11_within fu x 0 3 = some 0 := by
    unfold f_X11_within
    obtain ⟨c0, c1, c2, c3⟩ := c
    have n0 := lv_neT (a := 0) c0 rfl
    have n1 := lv_neT (a := 1) c1 rfl
    have n2 := lv_neT (a := 2) c2 rfl
    have n3 := lv_neT (a := 3) c3 rfl
    by_cases h1 : x < 0
    · rw [if_pos h1]
    · rw [if_neg h1]
      have h2 : ¬ x ≤ 3 := by
        rw [Int32.lt_iff_toInt_lt] at h1
        rw [Int32.le_iff_toInt_le]
        have e0 : (0 : Int32).toInt = 0 := rfl
        have e3 : (3 : Int32).toInt = 3 := rfl
        omega
      first | rw [if_neg h2] | rw [if_pos (Int32.not_le.mp h2)]
  unfold f_X11_trayAt
  rw [h]
  rfl
theorem dX11_status_0 : decode cX11_status 0 = .ok (.aload_n 0, 1) := by decide +kernel
theorem dX11_status_1 : decode cX11_status 1 = .ok (.getfield 9, 3) := by decide +kernel
theorem dX11_status_4 : decode cX11_status 4 = .ok (.ireturn, 1) := by decide +kernel
theorem mv_X11_status : MV yX11_status RX11 cX11_status 1 (some .int) 0 := ⟨tb_487, tb_485, tb_486, tb_1, by decide +kernel, by decide +kernel, by decide +kernel⟩
def f_X11_status (fu : Nat) (b_latestStatus : Int32) : Option (Int32) := some (b_latestStatus)
abbrev rm_X11_status : Room := { frames := 0, cells := 0, slots := 0, locals := 0 }
set_option maxHeartbeats 4000000 in
set_option maxRecDepth 100000 in
theorem c_X11_status (l : Launch) (D : va_G) (cy : Nat → ClassId) (fu : Nat) (A_b : Nat → Nat) (r_b_trays : Nat) (r_b_army : Nat) (r_b_war : Nat) (r_b_draftArmy : Nat) (r_b_draftWar : Nat) (r_b_reader : Nat) (r_b_armyReader : Nat) (r_b_warReader : Nat) (r_b_markedArmies : Nat) (r_b_markedWars : Nat) (r_b_latest : Nat) (r_b_trial : Nat) (r_b_foresight : Nat) (r_b_pairs : Nat) (b_latestStatus : Int32) (b_fractionTop : Int64) (b_fractionBottom : Int64) (b_marks : Int32) (res : Int32) (h : f_X11_status fu b_latestStatus = some res) : Met l yX11_status (WW yX11_status cX11_status 1 (some .int)) rm_X11_status (Rd D cy [.ref (A_b 0)] [bl_X11 cy A_b r_b_trays r_b_army r_b_war r_b_draftArmy r_b_draftWar r_b_reader r_b_armyReader r_b_warReader r_b_markedArmies r_b_markedWars r_b_latest r_b_trial r_b_foresight r_b_pairs b_latestStatus b_fractionTop b_fractionBottom b_marks]) (vp_Si (fun v => v = res)) 0 0 (fun _ => False) := by
  refine Met.ofW (cc := cX11_status) (maxL := 1) (ret := (some .int)) (by decide) rfl ?_
  intro p e s m args below meth c s₁ B hml hv
  obtain ⟨hargs, hP, hX⟩ := hv
  have hx := B.exec
  have hb := B.bytes
  have hr := B.returns
  have ht : ∀ w ∈ lw_gd, w.before args s = true := fun w hw => atoms_spec (ws := WW yX11_status cX11_status 1 (some .int)) B.pre w (List.mem_cons_of_mem _ hw)
  have hown : s.vm.findClass RX11 = some m.cls := findClass_of_methodNamed B.named
  have hlocks := B.notSynchronized
  have hP : PB D [bl_X11 cy A_b r_b_trays r_b_army r_b_war r_b_draftArmy r_b_draftWar r_b_reader r_b_armyReader r_b_warReader r_b_markedArmies r_b_markedWars r_b_latest r_b_trial r_b_foresight r_b_pairs b_latestStatus b_fractionTop b_fractionBottom b_marks] s.heap := hP
  obtain ⟨ls, hl, hent⟩ := ent (m := m) (n := 1) hargs (Nat.le_of_ble_eq_true rfl) (lv := [(0, .ref (A_b 0))]) rfl
  rw [hent]
  clear hent
  unfold f_X11_status at h
  refine lv_aload_n hx hb dX11_status_0 rfl (lv_at hl 0 rfl) ?_
  refine xget (i := 0) (j := 0) (k := 0) (T := TX11) hx hb ht tb_iX11 hown hX hP rfl rfl rfl (by decide) tb_429 rfl dX11_status_1 ?_
  cases h
  exact W.iret hx hb hr (fun _ ht9 _ => ⟨_, rfl, rfl, ht9⟩) (fun _ hq => by cases hq) dX11_status_4
theorem dX11_top_0 : decode cX11_top 0 = .ok (.aload_n 0, 1) := by decide +kernel
theorem dX11_top_1 : decode cX11_top 1 = .ok (.getfield 13, 3) := by decide +kernel
theorem dX11_top_4 : decode cX11_top 4 = .ok (.lreturn, 1) := by decide +kernel
theorem mv_X11_top : MV yX11_top RX11 cX11_top 1 (some .long) 0 := ⟨tb_491, tb_489, tb_490, tb_1, by decide +kernel, by decide +kernel, by decide +kernel⟩
def f_X11_top (fu : Nat) (b_fractionTop : Int64) : Option (Int64) := some (b_fractionTop)
abbrev rm_X11_top : Room := { frames := 0, cells := 0, slots := 0, locals := 0 }
set_option maxHeartbeats 4000000 in
set_option maxRecDepth 100000 in
theorem c_X11_top (l : Launch) (D : va_G) (cy : Nat → ClassId) (fu : Nat) (A_b : Nat → Nat) (r_b_trays : Nat) (r_b_army : Nat) (r_b_war : Nat) (r_b_draftArmy : Nat) (r_b_draftWar : Nat) (r_b_reader : Nat) (r_b_armyReader : Nat) (r_b_warReader : Nat) (r_b_markedArmies : Nat) (r_b_markedWars : Nat) (r_b_latest : Nat) (r_b_trial : Nat) (r_b_foresight : Nat) (r_b_pairs : Nat) (b_latestStatus : Int32) (b_fractionTop : Int64) (b_fractionBottom : Int64) (b_marks : Int32) (res : Int64) (h : f_X11_top fu b_fractionTop = some res) : Met l yX11_top (WW yX11_top cX11_top 1 (some .long)) rm_X11_top (Rd D cy [.ref (A_b 0)] [bl_X11 cy A_b r_b_trays r_b_army r_b_war r_b_draftArmy r_b_draftWar r_b_reader r_b_armyReader r_b_warReader r_b_markedArmies r_b_markedWars r_b_latest r_b_trial r_b_foresight r_b_pairs b_latestStatus b_fractionTop b_fractionBottom b_marks]) (vp_Sl (fun v => v = res)) 0 0 (fun _ => False) := by
  refine Met.ofW (cc := cX11_top) (maxL := 1) (ret := (some .long)) (by decide) rfl ?_
  intro p e s m args below meth c s₁ B hml hv
  obtain ⟨hargs, hP, hX⟩ := hv
  have hx := B.exec
  have hb := B.bytes
  have hr := B.returns
  have ht : ∀ w ∈ lw_gd, w.before args s = true := fun w hw => atoms_spec (ws := WW yX11_top cX11_top 1 (some .long)) B.pre w (List.mem_cons_of_mem _ hw)
  have hown : s.vm.findClass RX11 = some m.cls := findClass_of_methodNamed B.named
  have hlocks := B.notSynchronized
  have hP : PB D [bl_X11 cy A_b r_b_trays r_b_army r_b_war r_b_draftArmy r_b_draftWar r_b_reader r_b_armyReader r_b_warReader r_b_markedArmies r_b_markedWars r_b_latest r_b_trial r_b_foresight r_b_pairs b_latestStatus b_fractionTop b_fractionBottom b_marks] s.heap := hP
  obtain ⟨ls, hl, hent⟩ := ent (m := m) (n := 1) hargs (Nat.le_of_ble_eq_true rfl) (lv := [(0, .ref (A_b 0))]) rfl
  rw [hent]
  clear hent
  unfold f_X11_top at h
  refine lv_aload_n hx hb dX11_top_0 rfl (lv_at hl 0 rfl) ?_
  refine xget (i := 0) (j := 0) (k := 1) (T := TX11) hx hb ht tb_iX11 hown hX hP rfl rfl rfl (by decide) tb_430 rfl dX11_top_1 ?_
  cases h
  exact W.lret hx hb hr (fun _ ht9 _ => ⟨_, rfl, rfl, ht9⟩) (fun _ hq => by cases hq) dX11_top_4
theorem dX11_bottom_0 : decode cX11_bottom 0 = .ok (.aload_n 0, 1) := by decide +kernel
theorem dX11_bottom_1 : decode cX11_bottom 1 = .ok (.getfield 17, 3) := by decide +kernel
theorem dX11_bottom_4 : decode cX11_bottom 4 = .ok (.lreturn, 1) := by decide +kernel
theorem mv_X11_bottom : MV yX11_bottom RX11 cX11_bottom 1 (some .long) 0 := ⟨tb_495, tb_493, tb_494, tb_1, by decide +kernel, by decide +kernel, by decide +kernel⟩
def f_X11_bottom (fu : Nat) (b_fractionBottom : Int64) : Option (Int64) := some (b_fractionBottom)
abbrev rm_X11_bottom : Room := { frames := 0, cells := 0, slots := 0, locals := 0 }
set_option maxHeartbeats 4000000 in
set_option maxRecDepth 100000 in
theorem c_X11_bottom (l : Launch) (D : va_G) (cy : Nat → ClassId) (fu : Nat) (A_b : Nat → Nat) (r_b_trays : Nat) (r_b_army : Nat) (r_b_war : Nat) (r_b_draftArmy : Nat) (r_b_draftWar : Nat) (r_b_reader : Nat) (r_b_armyReader : Nat) (r_b_warReader : Nat) (r_b_markedArmies : Nat) (r_b_markedWars : Nat) (r_b_latest : Nat) (r_b_trial : Nat) (r_b_foresight : Nat) (r_b_pairs : Nat) (b_latestStatus : Int32) (b_fractionTop : Int64) (b_fractionBottom : Int64) (b_marks : Int32) (res : Int64) (h : f_X11_bottom fu b_fractionBottom = some res) : Met l yX11_bottom (WW yX11_bottom cX11_bottom 1 (some .long)) rm_X11_bottom (Rd D cy [.ref (A_b 0)] [bl_X11 cy A_b r_b_trays r_b_army r_b_war r_b_draftArmy r_b_draftWar r_b_reader r_b_armyReader r_b_warReader r_b_markedArmies r_b_markedWars r_b_latest r_b_trial r_b_foresight r_b_pairs b_latestStatus b_fractionTop b_fractionBottom b_marks]) (vp_Sl (fun v => v = res)) 0 0 (fun _ => False) := by
  refine Met.ofW (cc := cX11_bottom) (maxL := 1) (ret := (some .long)) (by decide) rfl ?_
  intro p e s m args below meth c s₁ B hml hv
  obtain ⟨hargs, hP, hX⟩ := hv
  have hx := B.exec
  have hb := B.bytes
  have hr := B.returns
  have ht : ∀ w ∈ lw_gd, w.before args s = true := fun w hw => atoms_spec (ws := WW yX11_bottom cX11_bottom 1 (some .long)) B.pre w (List.mem_cons_of_mem _ hw)
  have hown : s.vm.findClass RX11 = some m.cls := findClass_of_methodNamed B.named
  have hlocks := B.notSynchronized
  have hP : PB D [bl_X11 cy A_b r_b_trays r_b_army r_b_war r_b_draftArmy r_b_draftWar r_b_reader r_b_armyReader r_b_warReader r_b_markedArmies r_b_markedWars r_b_latest r_b_trial r_b_foresight r_b_pairs b_latestStatus b_fractionTop b_fractionBottom b_marks] s.heap := hP
  obtain ⟨ls, hl, hent⟩ := ent (m := m) (n := 1) hargs (Nat.le_of_ble_eq_true rfl) (lv := [(0, .ref (A_b 0))]) rfl
  rw [hent]
  clear hent
  unfold f_X11_bottom at h
  refine lv_aload_n hx hb dX11_bottom_0 rfl (lv_at hl 0 rfl) ?_
  refine xget (i := 0) (j := 0) (k := 2) (T := TX11) hx hb ht tb_iX11 hown hX hP rfl rfl rfl (by decide) tb_431 rfl dX11_bottom_1 ?_
  cases h
  exact W.lret hx hb hr (fun _ ht9 _ => ⟨_, rfl, rfl, ht9⟩) (fun _ hq => by cases hq) dX11_bottom_4
theorem dX11_deny_0 : decode cX11_deny 0 = .ok (.aload_n 0, 1) := by decide +kernel
theorem dX11_deny_1 : decode cX11_deny 1 = .ok (.iload_n 1, 1) := by decide +kernel
theorem dX11_deny_2 : decode cX11_deny 2 = .ok (.putfield 9, 3) := by decide +kernel
theorem dX11_deny_5 : decode cX11_deny 5 = .ok (.iconst 0, 1) := by decide +kernel
theorem dX11_deny_6 : decode cX11_deny 6 = .ok (.ireturn, 1) := by decide +kernel
theorem mv_X11_deny : MV yX11_deny RX11 cX11_deny 2 (some .boolean) 1 := ⟨tb_510, tb_509, ts_1, tb_1, by decide +kernel, by decide +kernel, by decide +kernel⟩
def f_X11_deny (fu : Nat) (b_latestStatus : Int32) (x1 : Int32) : Option (Int32 × Int32) := some (0, x1)
abbrev rm_X11_deny : Room := { frames := 0, cells := 0, slots := 0, locals := 0 }
set_option maxHeartbeats 4000000 in
set_option maxRecDepth 100000 in
theorem c_X11_deny (l : Launch) (D : va_G) (cy : Nat → ClassId) (fu : Nat) (A_b : Nat → Nat) (r_b_trays : Nat) (r_b_army : Nat) (r_b_war : Nat) (r_b_draftArmy : Nat) (r_b_draftWar : Nat) (r_b_reader : Nat) (r_b_armyReader : Nat) (r_b_warReader : Nat) (r_b_markedArmies : Nat) (r_b_markedWars : Nat) (r_b_latest : Nat) (r_b_trial : Nat) (r_b_foresight : Nat) (r_b_pairs : Nat) (b_latestStatus : Int32) (b_fractionTop : Int64) (b_fractionBottom : Int64) (b_marks : Int32) (x1 : Int32) (res : Int32 × Int32) (h : f_X11_deny fu b_latestStatus x1 = some res) (A : Nat → Prop) (hA : A = adr [bl_X11 cy A_b r_b_trays r_b_army r_b_war r_b_draftArmy r_b_draftWar r_b_reader r_b_armyReader r_b_warReader r_b_markedArmies r_b_markedWars r_b_latest r_b_trial r_b_foresight r_b_pairs b_latestStatus b_fractionTop b_fractionBottom b_marks]) (W1 : List va_W) (hW1 : W1 = [bl_X11 cy A_b r_b_trays r_b_army r_b_war r_b_draftArmy r_b_draftWar r_b_reader r_b_armyReader r_b_warReader r_b_markedArmies r_b_markedWars r_b_latest r_b_trial r_b_foresight r_b_pairs res.2 b_fractionTop b_fractionBottom b_marks]) : Met l yX11_deny (WW yX11_deny cX11_deny 2 (some .boolean)) rm_X11_deny (Ed D cy [.ref (A_b 0), .int x1] [bl_X11 cy A_b r_b_trays r_b_army r_b_war r_b_draftArmy r_b_draftWar r_b_reader r_b_armyReader r_b_warReader r_b_markedArmies r_b_markedWars r_b_latest r_b_trial r_b_foresight r_b_pairs b_latestStatus b_fractionTop b_fractionBottom b_marks]) (Qei D res.1 A W1) 0 0 A := by
  refine Met.ofW (cc := cX11_deny) (maxL := 2) (ret := (some .boolean)) (by decide) rfl ?_
  intro p e s m args below meth c s₁ B hml hv
  obtain ⟨hargs, hP, hX, hD0⟩ := hv
  have hx := B.exec
  have hb := B.bytes
  have hr := B.returns
  have ht : ∀ w ∈ lw_gd, w.before args s = true := fun w hw => atoms_spec (ws := WW yX11_deny cX11_deny 2 (some .boolean)) B.pre w (List.mem_cons_of_mem _ hw)
  have hown : s.vm.findClass RX11 = some m.cls := findClass_of_methodNamed B.named
  have hlocks := B.notSynchronized
  have hP : PD D A [bl_X11 cy A_b r_b_trays r_b_army r_b_war r_b_draftArmy r_b_draftWar r_b_reader r_b_armyReader r_b_warReader r_b_markedArmies r_b_markedWars r_b_latest r_b_trial r_b_foresight r_b_pairs b_latestStatus b_fractionTop b_fractionBottom b_marks] s.heap := ⟨hP, by rw [hA]; exact hD0.own⟩
  have hS : va_S A s.heap s.heap [] := va_S.rf
  obtain ⟨ls, hl, hent⟩ := ent (m := m) (n := 2) hargs (Nat.le_of_ble_eq_true rfl) (lv := [(0, .ref (A_b 0)), (1, .int x1)]) rfl
  rw [hent]
  clear hent
  unfold f_X11_deny at h
  refine lv_aload_n hx hb dX11_deny_0 rfl (lv_at hl 0 rfl) ?_
  refine lv_iload_n hx hb dX11_deny_1 rfl (lv_at hl 1 rfl) ?_
  refine xput (i := 0) (j := 0) (k := 0) (T := TX11) tyX11 tyX11_ok nmX11 hx hb ht tb_iX11 hown hX hP hS rfl rfl rfl (by decide) tb_429 rfl rfl rfl (Nat.le_of_ble_eq_true rfl) dX11_deny_2 (fun H locs hP hS => ?_)
  have hP : PD D A [bl_X11 cy A_b r_b_trays r_b_army r_b_war r_b_draftArmy r_b_draftWar r_b_reader r_b_armyReader r_b_warReader r_b_markedArmies r_b_markedWars r_b_latest r_b_trial r_b_foresight r_b_pairs x1 b_fractionTop b_fractionBottom b_marks] H := hP
  refine lv_iconst (v := 0) hx hb dX11_deny_5 (by decide) ?_
  cases h
  subst hW1
  exact W.zret hx hb hr rfl (fun _ ht9 _ => ⟨⟨_, (), rfl, rfl, hPt ht9 hP.1⟩, hS.F ht9⟩) hS.2.2 dX11_deny_6
theorem dX11_allow_0 : decode cX11_allow 0 = .ok (.aload_n 0, 1) := by decide +kernel
theorem dX11_allow_1 : decode cX11_allow 1 = .ok (.iconst 0, 1) := by decide +kernel
theorem dX11_allow_2 : decode cX11_allow 2 = .ok (.putfield 9, 3) := by decide +kernel
theorem dX11_allow_5 : decode cX11_allow 5 = .ok (.iconst 1, 1) := by decide +kernel
theorem dX11_allow_6 : decode cX11_allow 6 = .ok (.ireturn, 1) := by decide +kernel
theorem mv_X11_allow : MV yX11_allow RX11 cX11_allow 1 (some .boolean) 0 := ⟨tb_521, tb_520, ts_2, tb_1, by decide +kernel, by decide +kernel, by decide +kernel⟩
def f_X11_allow (fu : Nat) (b_latestStatus : Int32) : Option (Int32 × Int32) := some (1, 0)
abbrev rm_X11_allow : Room := { frames := 0, cells := 0, slots := 0, locals := 0 }
set_option maxHeartbeats 4000000 in
set_option maxRecDepth 100000 in
theorem c_X11_allow (l : Launch) (D : va_G) (cy : Nat → ClassId) (fu : Nat) (A_b : Nat → Nat) (r_b_trays : Nat) (r_b_army : Nat) (r_b_war : Nat) (r_b_draftArmy : Nat) (r_b_draftWar : Nat) (r_b_reader : Nat) (r_b_armyReader : Nat) (r_b_warReader : Nat) (r_b_markedArmies : Nat) (r_b_markedWars : Nat) (r_b_latest : Nat) (r_b_trial : Nat) (r_b_foresight : Nat) (r_b_pairs : Nat) (b_latestStatus : Int32) (b_fractionTop : Int64) (b_fractionBottom : Int64) (b_marks : Int32) (res : Int32 × Int32) (h : f_X11_allow fu b_latestStatus = some res) (A : Nat → Prop) (hA : A = adr [bl_X11 cy A_b r_b_trays r_b_army r_b_war r_b_draftArmy r_b_draftWar r_b_reader r_b_armyReader r_b_warReader r_b_markedArmies r_b_markedWars r_b_latest r_b_trial r_b_foresight r_b_pairs b_latestStatus b_fractionTop b_fractionBottom b_marks]) (W1 : List va_W) (hW1 : W1 = [bl_X11 cy A_b r_b_trays r_b_army r_b_war r_b_draftArmy r_b_draftWar r_b_reader r_b_armyReader r_b_warReader r_b_markedArmies r_b_markedWars r_b_latest r_b_trial r_b_foresight r_b_pairs res.2 b_fractionTop b_fractionBottom b_marks]) : Met l yX11_allow (WW yX11_allow cX11_allow 1 (some .boolean)) rm_X11_allow (Ed D cy [.ref (A_b 0)] [bl_X11 cy A_b r_b_trays r_b_army r_b_war r_b_draftArmy r_b_draftWar r_b_reader r_b_armyReader r_b_warReader r_b_markedArmies r_b_markedWars r_b_latest r_b_trial r_b_foresight r_b_pairs b_latestStatus b_fractionTop b_fractionBottom b_marks]) (Qei D res.1 A W1) 0 0 A := by
  refine Met.ofW (cc := cX11_allow) (maxL := 1) (ret := (some .boolean)) (by decide) rfl ?_
  intro p e s m args below meth c s₁ B hml hv
  obtain ⟨hargs, hP, hX, hD0⟩ := hv
  have hx := B.exec
  have hb := B.bytes
  have hr := B.returns
  have ht : ∀ w ∈ lw_gd, w.before args s = true := fun w hw => atoms_spec (ws := WW yX11_allow cX11_allow 1 (some .boolean)) B.pre w (List.mem_cons_of_mem _ hw)
  have hown : s.vm.findClass RX11 = some m.cls := findClass_of_methodNamed B.named
  have hlocks := B.notSynchronized
  have hP : PD D A [bl_X11 cy A_b r_b_trays r_b_army r_b_war r_b_draftArmy r_b_draftWar r_b_reader r_b_armyReader r_b_warReader r_b_markedArmies r_b_markedWars r_b_latest r_b_trial r_b_foresight r_b_pairs b_latestStatus b_fractionTop b_fractionBottom b_marks] s.heap := ⟨hP, by rw [hA]; exact hD0.own⟩
  have hS : va_S A s.heap s.heap [] := va_S.rf
  obtain ⟨ls, hl, hent⟩ := ent (m := m) (n := 1) hargs (Nat.le_of_ble_eq_true rfl) (lv := [(0, .ref (A_b 0))]) rfl
  rw [hent]
  clear hent
  unfold f_X11_allow at h
  refine lv_aload_n hx hb dX11_allow_0 rfl (lv_at hl 0 rfl) ?_
  refine lv_iconst (v := 0) hx hb dX11_allow_1 (by decide) ?_
  refine xput (i := 0) (j := 0) (k := 0) (T := TX11) tyX11 tyX11_ok nmX11 hx hb ht tb_iX11 hown hX hP hS rfl rfl rfl (by decide) tb_429 rfl rfl rfl (Nat.le_of_ble_eq_true rfl) dX11_allow_2 (fun H locs hP hS => ?_)
  have hP : PD D A [bl_X11 cy A_b r_b_trays r_b_army r_b_war r_b_draftArmy r_b_draftWar r_b_reader r_b_armyReader r_b_warReader r_b_markedArmies r_b_markedWars r_b_latest r_b_trial r_b_foresight r_b_pairs 0 b_fractionTop b_fractionBottom b_marks] H := hP
  refine lv_iconst (v := 1) hx hb dX11_allow_5 (by decide) ?_
  cases h
  subst hW1
  exact W.zret hx hb hr rfl (fun _ ht9 _ => ⟨⟨_, (), rfl, rfl, hPt ht9 hP.1⟩, hS.F ht9⟩) hS.2.2 dX11_allow_6
theorem dX11_tray_0 : decode cX11_tray 0 = .ok (.aload_n 0, 1) := by decide +kernel
theorem dX11_tray_1 : decode cX11_tray 1 = .ok (.iload_n 1, 1) := by decide +kernel
theorem dX11_tray_2 : decode cX11_tray 2 = .ok (.invokevirtual 111, 3) := by decide +kernel
theorem dX11_tray_5 : decode cX11_tray 5 = .ok (.astore 4, 2) := by decide +kernel
theorem dX11_tray_7 : decode cX11_tray 7 = .ok (.aload 4, 2) := by decide +kernel
theorem dX11_tray_9 : decode cX11_tray 9 = .ok (.ifnull 22, 3) := by decide +kernel
theorem dX11_tray_12 : decode cX11_tray 12 = .ok (.iload_n 2, 1) := by decide +kernel
theorem dX11_tray_13 : decode cX11_tray 13 = .ok (.iconst 0, 1) := by decide +kernel
theorem dX11_tray_14 : decode cX11_tray 14 = .ok (.iconst 3, 1) := by decide +kernel
theorem dX11_tray_15 : decode cX11_tray 15 = .ok (.invokestatic 115, 3) := by decide +kernel
theorem dX11_tray_18 : decode cX11_tray 18 = .ok (.ifCond .eq 13, 3) := by decide +kernel
theorem dX11_tray_21 : decode cX11_tray 21 = .ok (.iload_n 3, 1) := by decide +kernel
theorem dX11_tray_22 : decode cX11_tray 22 = .ok (.iconst 0, 1) := by decide +kernel
theorem dX11_tray_23 : decode cX11_tray 23 = .ok (.bipush 60, 2) := by decide +kernel
theorem dX11_tray_25 : decode cX11_tray 25 = .ok (.invokestatic 115, 3) := by decide +kernel
theorem dX11_tray_28 : decode cX11_tray 28 = .ok (.ifCond .ne 9, 3) := by decide +kernel
theorem dX11_tray_31 : decode cX11_tray 31 = .ok (.aload_n 0, 1) := by decide +kernel
theorem dX11_tray_32 : decode cX11_tray 32 = .ok (.iconst 1, 1) := by decide +kernel
theorem dX11_tray_33 : decode cX11_tray 33 = .ok (.invokevirtual 119, 3) := by decide +kernel
theorem dX11_tray_36 : decode cX11_tray 36 = .ok (.ireturn, 1) := by decide +kernel
theorem dX11_tray_37 : decode cX11_tray 37 = .ok (.aload 4, 2) := by decide +kernel
theorem dX11_tray_39 : decode cX11_tray 39 = .ok (.iload_n 2, 1) := by decide +kernel
theorem dX11_tray_40 : decode cX11_tray 40 = .ok (.iload_n 3, 1) := by decide +kernel
theorem dX11_tray_41 : decode cX11_tray 41 = .ok (.invokevirtual 123, 3) := by decide +kernel
theorem dX11_tray_44 : decode cX11_tray 44 = .ok (.aload_n 0, 1) := by decide +kernel
theorem dX11_tray_45 : decode cX11_tray 45 = .ok (.invokevirtual 127, 3) := by decide +kernel
theorem dX11_tray_48 : decode cX11_tray 48 = .ok (.ireturn, 1) := by decide +kernel
theorem mv_X11_tray : MV yX11_tray RX11 cX11_tray 5 (some .boolean) 3 := ⟨tb_499, tb_497, tb_498, tb_1, by decide +kernel, by decide +kernel, by decide +kernel⟩
def f_X11_tray (fu : Nat) (b_latestStatus : Int32) (y0_row : Nat → Int64) (y0_missing : Int32) (y0_sort : Int32) (y0_many : Int32) (y1_row : Nat → Int64) (y1_missing : Int32) (y1_sort : Int32) (y1_many : Int32) (y2_row : Nat → Int64) (y2_missing : Int32) (y2_sort : Int32) (y2_many : Int32) (y3_row : Nat → Int64) (y3_missing : Int32) (y3_sort : Int32) (y3_many : Int32) (x1 : Int32) (x2 : Int32) (x3 : Int32) : Option (Int32 × Int32 × (Nat → Int64) × Int32 × Int32 × Int32 × (Nat → Int64) × Int32 × Int32 × Int32 × (Nat → Int64) × Int32 × Int32 × Int32 × (Nat → Int64) × Int32 × Int32 × Int32) := (if x1 = 0 then (f_X11_within fu x2 0 3).bind fun z_52 => (if z_52 = 0 then (f_X11_deny fu b_latestStatus 1).bind fun z_54 => (bz z_54.1).bind fun _ => some (z_54.1, z_54.2, y0_row, y0_missing, y0_sort, y0_many, y1_row, y1_missing, y1_sort, y1_many, y2_row, y2_missing, y2_sort, y2_many, y3_row, y3_missing, y3_sort, y3_many) else (f_X11_within fu x3 0 60).bind fun z_56 => (if z_56 = 0 then (f_X11_deny fu b_latestStatus 1).bind fun z_61 => (bz z_61.1).bind fun _ => some (z_61.1, z_61.2, y0_row, y0_missing, y0_sort, y0_many, y1_row, y1_missing, y1_sort, y1_many, y2_row, y2_missing, y2_sort, y2_many, y3_row, y3_missing, y3_sort, y3_many) else (f_X8_lay fu y0_row y0_missing y0_sort y0_many x2 x3).bind fun z_58 => (f_X11_allow fu b_latestStatus).bind fun z_59 => (bz z_59.1).bind fun _ => some (z_59.1, z_59.2, z_58.1, z_58.2.1, z_58.2.2.1, z_58.2.2.2, y1_row, y1_missing, y1_sort, y1_many, y2_row, y2_missing, y2_sort, y2_many, y3_row, y3_missing, y3_sort, y3_many))) else (if x1 = 1 then (f_X11_within fu x2 0 3).bind fun z_64 => (if z_64 = 0 then (f_X11_deny fu b_latestStatus 1).bind fun z_66 => (bz z_66.1).bind fun _ => some (z_66.1, z_66.2, y0_row, y0_missing, y0_sort, y0_many, y1_row, y1_missing, y1_sort, y1_many, y2_row, y2_missing, y2_sort, y2_many, y3_row, y3_missing, y3_sort, y3_many) else (f_X11_within fu x3 0 60).bind fun z_68 => (if z_68 = 0 then (f_X11_deny fu b_latestStatus 1).bind fun z_73 => (bz z_73.1).bind fun _ => some (z_73.1, z_73.2, y0_row, y0_missing, y0_sort, y0_many, y1_row, y1_missing, y1_sort, y1_many, y2_row, y2_missing, y2_sort, y2_many, y3_row, y3_missing, y3_sort, y3_many) else (f_X8_lay fu y1_row y1_missing y1_sort y1_many x2 x3).bind fun z_70 => (f_X11_allow fu b_latestStatus).bind fun z_71 => (bz z_71.1).bind fun _ => some (z_71.1, z_71.2, y0_row, y0_missing, y0_sort, y0_many, z_70.1, z_70.2.1, z_70.2.2.1, z_70.2.2.2, y2_row, y2_missing, y2_sort, y2_many, y3_row, y3_missing, y3_sort, y3_many))) else (if x1 = 2 then (f_X11_within fu x2 0 3).bind fun z_76 => (if z_76 = 0 then (f_X11_deny fu b_latestStatus 1).bind fun z_78 => (bz z_78.1).bind fun _ => some (z_78.1, z_78.2, y0_row, y0_missing, y0_sort, y0_many, y1_row, y1_missing, y1_sort, y1_many, y2_row, y2_missing, y2_sort, y2_many, y3_row, y3_missing, y3_sort, y3_many) else (f_X11_within fu x3 0 60).bind fun z_80 => (if z_80 = 0 then (f_X11_deny fu b_latestStatus 1).bind fun z_85 => (bz z_85.1).bind fun _ => some (z_85.1, z_85.2, y0_row, y0_missing, y0_sort, y0_many, y1_row, y1_missing, y1_sort, y1_many, y2_row, y2_missing, y2_sort, y2_many, y3_row, y3_missing, y3_sort, y3_many) else (f_X8_lay fu y2_row y2_missing y2_sort y2_many x2 x3).bind fun z_82 => (f_X11_allow fu b_latestStatus).bind fun z_83 => (bz z_83.1).bind fun _ => some (z_83.1, z_83.2, y0_row, y0_missing, y0_sort, y0_many, y1_row, y1_missing, y1_sort, y1_many, z_82.1, z_82.2.1, z_82.2.2.1, z_82.2.2.2, y3_row, y3_missing, y3_sort, y3_many))) else (if x1 = 3 then (f_X11_within fu x2 0 3).bind fun z_88 => (if z_88 = 0 then (f_X11_deny fu b_latestStatus 1).bind fun z_90 => (bz z_90.1).bind fun _ => some (z_90.1, z_90.2, y0_row, y0_missing, y0_sort, y0_many, y1_row, y1_missing, y1_sort, y1_many, y2_row, y2_missing, y2_sort, y2_many, y3_row, y3_missing, y3_sort, y3_many) else (f_X11_within fu x3 0 60).bind fun z_92 => (if z_92 = 0 then (f_X11_deny fu b_latestStatus 1).bind fun z_97 => (bz z_97.1).bind fun _ => some (z_97.1, z_97.2, y0_row, y0_missing, y0_sort, y0_many, y1_row, y1_missing, y1_sort, y1_many, y2_row, y2_missing, y2_sort, y2_many, y3_row, y3_missing, y3_sort, y3_many) else (f_X8_lay fu y3_row y3_missing y3_sort y3_many x2 x3).bind fun z_94 => (f_X11_allow fu b_latestStatus).bind fun z_95 => (bz z_95.1).bind fun _ => some (z_95.1, z_95.2, y0_row, y0_missing, y0_sort, y0_many, y1_row, y1_missing, y1_sort, y1_many, y2_row, y2_missing, y2_sort, y2_many, z_94.1, z_94.2.1, z_94.2.2.1, z_94.2.2.2))) else (f_X11_deny fu b_latestStatus 1).bind fun z_99 => (bz z_99.1).bind fun _ => some (z_99.1, z_99.2, y0_row, y0_missing, y0_sort, y0_many, y1_row, y1_missing, y1_sort, y1_many, y2_row, y2_missing, y2_sort, y2_many, y3_row, y3_missing, y3_sort, y3_many)))))
abbrev rm_X11_tray : Room := { frames := 2, cells := 0, slots := 0, locals := 46 }
set_option maxHeartbeats 4000000 in
set_option maxRecDepth 100000 in
theorem c_X11_tray (l : Launch) (D : va_G) (cy : Nat → ClassId) (fu : Nat) (A_b : Nat → Nat) (r_b_army : Nat) (r_b_war : Nat) (r_b_draftArmy : Nat) (r_b_draftWar : Nat) (r_b_reader : Nat) (r_b_armyReader : Nat) (r_b_warReader : Nat) (r_b_markedArmies : Nat) (r_b_markedWars : Nat) (r_b_latest : Nat) (r_b_trial : Nat) (r_b_foresight : Nat) (r_b_pairs : Nat) (b_latestStatus : Int32) (b_fractionTop : Int64) (b_fractionBottom : Int64) (b_marks : Int32) (A_T : Nat → Nat) (A_y0 : Nat → Nat) (y0_row : Nat → Int64) (y0_missing : Int32) (y0_sort : Int32) (y0_many : Int32) (A_y1 : Nat → Nat) (y1_row : Nat → Int64) (y1_missing : Int32) (y1_sort : Int32) (y1_many : Int32) (A_y2 : Nat → Nat) (y2_row : Nat → Int64) (y2_missing : Int32) (y2_sort : Int32) (y2_many : Int32) (A_y3 : Nat → Nat) (y3_row : Nat → Int64) (y3_missing : Int32) (y3_sort : Int32) (y3_many : Int32) (x1 : Int32) (x2 : Int32) (x3 : Int32) (res : Int32 × Int32 × (Nat → Int64) × Int32 × Int32 × Int32 × (Nat → Int64) × Int32 × Int32 × Int32 × (Nat → Int64) × Int32 × Int32 × Int32 × (Nat → Int64) × Int32 × Int32 × Int32) (h : f_X11_tray fu b_latestStatus y0_row y0_missing y0_sort y0_many y1_row y1_missing y1_sort y1_many y2_row y2_missing y2_sort y2_many y3_row y3_missing y3_sort y3_many x1 x2 x3 = some res) (A : Nat → Prop) (hA : A = adr [bl_X11 cy A_b (A_T 0) r_b_army r_b_war r_b_draftArmy r_b_draftWar r_b_reader r_b_armyReader r_b_warReader r_b_markedArmies r_b_markedWars r_b_latest r_b_trial r_b_foresight r_b_pairs b_latestStatus b_fractionTop b_fractionBottom b_marks, [(A_T 0, .inl (cy 4, 4, .inr (.inr (.inr (.inr (trf4 (A_y0 0) (A_y1 0) (A_y2 0) (A_y3 0)))))))], bl_X8 cy A_y0 y0_row y0_missing y0_sort y0_many, bl_X8 cy A_y1 y1_row y1_missing y1_sort y1_many, bl_X8 cy A_y2 y2_row y2_missing y2_sort y2_many, bl_X8 cy A_y3 y3_row y3_missing y3_sort y3_many]) (W1 : List va_W) (hW1 : W1 = [bl_X11 cy A_b (A_T 0) r_b_army r_b_war r_b_draftArmy r_b_draftWar r_b_reader r_b_armyReader r_b_warReader r_b_markedArmies r_b_markedWars r_b_latest r_b_trial r_b_foresight r_b_pairs res.2.1 b_fractionTop b_fractionBottom b_marks, [(A_T 0, .inl (cy 4, 4, .inr (.inr (.inr (.inr (trf4 (A_y0 0) (A_y1 0) (A_y2 0) (A_y3 0)))))))], bl_X8 cy A_y0 res.2.2.1 res.2.2.2.1 res.2.2.2.2.1 res.2.2.2.2.2.1, bl_X8 cy A_y1 res.2.2.2.2.2.2.1 res.2.2.2.2.2.2.2.1 res.2.2.2.2.2.2.2.2.1 res.2.2.2.2.2.2.2.2.2.1, bl_X8 cy A_y2 res.2.2.2.2.2.2.2.2.2.2.1 res.2.2.2.2.2.2.2.2.2.2.2.1 res.2.2.2.2.2.2.2.2.2.2.2.2.1 res.2.2.2.2.2.2.2.2.2.2.2.2.2.1, bl_X8 cy A_y3 res.2.2.2.2.2.2.2.2.2.2.2.2.2.2.1 res.2.2.2.2.2.2.2.2.2.2.2.2.2.2.2.1 res.2.2.2.2.2.2.2.2.2.2.2.2.2.2.2.2.1 res.2.2.2.2.2.2.2.2.2.2.2.2.2.2.2.2.2]) : Met l yX11_tray (WW yX11_tray cX11_tray 5 (some .boolean)) rm_X11_tray (Ed D cy [.ref (A_b 0), .int x1, .int x2, .int x3] [bl_X11 cy A_b (A_T 0) r_b_army r_b_war r_b_draftArmy r_b_draftWar r_b_reader r_b_armyReader r_b_warReader r_b_markedArmies r_b_markedWars r_b_latest r_b_trial r_b_foresight r_b_pairs b_latestStatus b_fractionTop b_fractionBottom b_marks, [(A_T 0, .inl (cy 4, 4, .inr (.inr (.inr (.inr (trf4 (A_y0 0) (A_y1 0) (A_y2 0) (A_y3 0)))))))], bl_X8 cy A_y0 y0_row y0_missing y0_sort y0_many, bl_X8 cy A_y1 y1_row y1_missing y1_sort y1_many, bl_X8 cy A_y2 y2_row y2_missing y2_sort y2_many, bl_X8 cy A_y3 y3_row y3_missing y3_sort y3_many]) (Qei D res.1 A W1) 0 0 A := by
  refine Met.ofW (cc := cX11_tray) (maxL := 5) (ret := (some .boolean)) (by decide) rfl ?_
  intro p e s m args below meth c s₁ B hml hv
  obtain ⟨hargs, hP, hX, hD0⟩ := hv
  have hx := B.exec
  have hb := B.bytes
  have hr := B.returns
  have ht : ∀ w ∈ lw_gd, w.before args s = true := fun w hw => atoms_spec (ws := WW yX11_tray cX11_tray 5 (some .boolean)) B.pre w (List.mem_cons_of_mem _ hw)
  have hown : s.vm.findClass RX11 = some m.cls := findClass_of_methodNamed B.named
  have hlocks := B.notSynchronized
  have hP : PD D A [bl_X11 cy A_b (A_T 0) r_b_army r_b_war r_b_draftArmy r_b_draftWar r_b_reader r_b_armyReader r_b_warReader r_b_markedArmies r_b_markedWars r_b_latest r_b_trial r_b_foresight r_b_pairs b_latestStatus b_fractionTop b_fractionBottom b_marks, [(A_T 0, .inl (cy 4, 4, .inr (.inr (.inr (.inr (trf4 (A_y0 0) (A_y1 0) (A_y2 0) (A_y3 0)))))))], bl_X8 cy A_y0 y0_row y0_missing y0_sort y0_many, bl_X8 cy A_y1 y1_row y1_missing y1_sort y1_many, bl_X8 cy A_y2 y2_row y2_missing y2_sort y2_many, bl_X8 cy A_y3 y3_row y3_missing y3_sort y3_many] s.heap := ⟨hP, by rw [hA]; exact hD0.own⟩
  have hS : va_S A s.heap s.heap [] := va_S.rf
  obtain ⟨ls, hl, hent⟩ := ent (m := m) (n := 5) hargs (Nat.le_of_ble_eq_true rfl) (lv := [(0, .ref (A_b 0)), (1, .int x1), (2, .int x2), (3, .int x3)]) rfl
  rw [hent]
  clear hent
  unfold f_X11_tray at h
  refine lv_aload_n hx hb dX11_tray_0 rfl (lv_at hl 0 rfl) ?_
  refine lv_iload_n hx hb dX11_tray_1 rfl (lv_at hl 1 rfl) ?_
  by_cases c_51 : x1 = 0
  · have h := it c_51 h
    refine roVq (rest := []) ⟨hx, hb, hml, hown, ht⟩ (c_X11_trayAt l D cy fu A_b r_b_army r_b_war r_b_draftArmy r_b_draftWar r_b_reader r_b_armyReader r_b_warReader r_b_markedArmies r_b_markedWars r_b_latest r_b_trial r_b_foresight r_b_pairs b_latestStatus b_fractionTop b_fractionBottom b_marks A_T (trf4 (A_y0 0) (A_y1 0) (A_y2 0) (A_y3 0)) x1 (some (A_y0 0)) (tray_0 c_51)) (cV ht mv_X11_trayAt tb_500 rfl rfl ⟨Nat.le_of_ble_eq_true rfl, Nat.le_of_ble_eq_true rfl⟩) (P_sub hP.1 [0, 1] rfl) hX rfl rfl rfl hl.1 rfl (Nat.le_of_ble_eq_true rfl) dX11_tray_2 ⟨Nat.le_of_ble_eq_true rfl, Nat.le_of_ble_eq_true rfl⟩ ?_
    refine lv_astore (lv' := [(4, .ref (A_y0 0)), (0, .ref (A_b 0)), (1, .int x1), (2, .int x2), (3, .int x3)]) hx hb dX11_tray_5 hl (by decide) rfl (fun ls hl => ?_)
    refine lv_aload hx hb dX11_tray_7 (lv_at hl 0 rfl) ?_
    refine lv_ifnull hx hb dX11_tray_9 ?_
    refine lv_iload_n hx hb dX11_tray_12 rfl (lv_at hl 3 rfl) ?_
    refine lv_iconst (v := 0) hx hb dX11_tray_13 (by decide) ?_
    refine lv_iconst (v := 3) hx hb dX11_tray_14 (by decide) ?_
    obtain ⟨z_52, e_z_52, h⟩ := bi h
    refine roSi (rest := []) ⟨hx, hb, hml, hown, ht⟩ (c_X11_within l D cy fu  x2 0 3 z_52 e_z_52) (cS ht ms_X11_within tb_504 rfl rfl ⟨Nat.le_of_ble_eq_true rfl, Nat.le_of_ble_eq_true rfl⟩) (P_sub hP.1 [] rfl) hX rfl hl.1 rfl (Nat.le_of_ble_eq_true rfl) dX11_tray_15 ⟨Nat.le_of_ble_eq_true rfl, Nat.le_of_ble_eq_true rfl⟩ ?_
    refine lv_if_eq (tgt := 31) hx hb dX11_tray_18 (by decide) (fun c_53 => ?_) (fun c_53 => ?_)
    · have h := it c_53 h
      refine lv_aload_n hx hb dX11_tray_31 rfl (lv_at hl 1 rfl) ?_
      refine lv_iconst (v := 1) hx hb dX11_tray_32 (by decide) ?_
      obtain ⟨z_54, e_z_54, h⟩ := bi h
      refine efVi (rest := []) ⟨hx, hb, hml, hown, ht⟩ (c_X11_deny l D cy fu A_b (A_T 0) r_b_army r_b_war r_b_draftArmy r_b_draftWar r_b_reader r_b_armyReader r_b_warReader r_b_markedArmies r_b_markedWars r_b_latest r_b_trial r_b_foresight r_b_pairs b_latestStatus b_fractionTop b_fractionBottom b_marks 1 z_54 e_z_54 _ rfl _ rfl) (cV ht mv_X11_deny tb_507 rfl rfl ⟨Nat.le_of_ble_eq_true rfl, Nat.le_of_ble_eq_true rfl⟩) hP hS hX [0] rfl rfl rfl rfl rfl rfl hl.1 rfl (Nat.le_of_ble_eq_true rfl) dX11_tray_33 ⟨Nat.le_of_ble_eq_true rfl, Nat.le_of_ble_eq_true rfl⟩ (fun H locs hP hS => ?_)
      have hP : PD D A [bl_X11 cy A_b (A_T 0) r_b_army r_b_war r_b_draftArmy r_b_draftWar r_b_reader r_b_armyReader r_b_warReader r_b_markedArmies r_b_markedWars r_b_latest r_b_trial r_b_foresight r_b_pairs z_54.2 b_fractionTop b_fractionBottom b_marks, [(A_T 0, .inl (cy 4, 4, .inr (.inr (.inr (.inr (trf4 (A_y0 0) (A_y1 0) (A_y2 0) (A_y3 0)))))))], bl_X8 cy A_y0 y0_row y0_missing y0_sort y0_many, bl_X8 cy A_y1 y1_row y1_missing y1_sort y1_many, bl_X8 cy A_y2 y2_row y2_missing y2_sort y2_many, bl_X8 cy A_y3 y3_row y3_missing y3_sort y3_many] H := hP
      obtain ⟨b_55, e_b_55, h⟩ := bi h
      obtain ⟨-, n_b_55, -⟩ := bz_ok e_b_55
      cases h
      subst hW1
      exact W.zret hx hb hr n_b_55 (fun _ ht9 _ => ⟨⟨_, (), rfl, rfl, hPt ht9 hP.1⟩, hS.F ht9⟩) hS.2.2 dX11_tray_36
    · have h := ie c_53 h
      refine lv_iload_n hx hb dX11_tray_21 rfl (lv_at hl 4 rfl) ?_
      refine lv_iconst (v := 0) hx hb dX11_tray_22 (by decide) ?_
      refine lv_bipush (v := 60) hx hb dX11_tray_23 (by decide) ?_
      obtain ⟨z_56, e_z_56, h⟩ := bi h
      refine roSi (rest := []) ⟨hx, hb, hml, hown, ht⟩ (c_X11_within l D cy fu  x3 0 60 z_56 e_z_56) (cS ht ms_X11_within tb_504 rfl rfl ⟨Nat.le_of_ble_eq_true rfl, Nat.le_of_ble_eq_true rfl⟩) (P_sub hP.1 [] rfl) hX rfl hl.1 rfl (Nat.le_of_ble_eq_true rfl) dX11_tray_25 ⟨Nat.le_of_ble_eq_true rfl, Nat.le_of_ble_eq_true rfl⟩ ?_
      refine lv_if_ne (tgt := 37) hx hb dX11_tray_28 (by decide) (fun c_57 => ?_) (fun c_57 => ?_)
      · have h := ie c_57 h
        refine lv_aload hx hb dX11_tray_37 (lv_at hl 0 rfl) ?_
        refine lv_iload_n hx hb dX11_tray_39 rfl (lv_at hl 3 rfl) ?_
        refine lv_iload_n hx hb dX11_tray_40 rfl (lv_at hl 4 rfl) ?_
        obtain ⟨z_58, e_z_58, h⟩ := bi h
        refine efVv (rest := []) ⟨hx, hb, hml, hown, ht⟩ (c_X8_lay l D cy fu A_y0 y0_row y0_missing y0_sort y0_many x2 x3 z_58 e_z_58 _ rfl _ rfl) (cV ht mv_X8_lay tb_511 rfl rfl ⟨Nat.le_of_ble_eq_true rfl, Nat.le_of_ble_eq_true rfl⟩) hP hS hX [2] rfl rfl rfl rfl rfl rfl hl.1 rfl (Nat.le_of_ble_eq_true rfl) dX11_tray_41 ⟨Nat.le_of_ble_eq_true rfl, Nat.le_of_ble_eq_true rfl⟩ (fun H locs hP hS => ?_)
        have hP : PD D A [bl_X11 cy A_b (A_T 0) r_b_army r_b_war r_b_draftArmy r_b_draftWar r_b_reader r_b_armyReader r_b_warReader r_b_markedArmies r_b_markedWars r_b_latest r_b_trial r_b_foresight r_b_pairs b_latestStatus b_fractionTop b_fractionBottom b_marks, [(A_T 0, .inl (cy 4, 4, .inr (.inr (.inr (.inr (trf4 (A_y0 0) (A_y1 0) (A_y2 0) (A_y3 0)))))))], bl_X8 cy A_y0 z_58.1 z_58.2.1 z_58.2.2.1 z_58.2.2.2, bl_X8 cy A_y1 y1_row y1_missing y1_sort y1_many, bl_X8 cy A_y2 y2_row y2_missing y2_sort y2_many, bl_X8 cy A_y3 y3_row y3_missing y3_sort y3_many] H := hP
        refine lv_aload_n hx hb dX11_tray_44 rfl (lv_at hl 1 rfl) ?_
        obtain ⟨z_59, e_z_59, h⟩ := bi h
        refine efVi (rest := []) ⟨hx, hb, hml, hown, ht⟩ (c_X11_allow l D cy fu A_b (A_T 0) r_b_army r_b_war r_b_draftArmy r_b_draftWar r_b_reader r_b_armyReader r_b_warReader r_b_markedArmies r_b_markedWars r_b_latest r_b_trial r_b_foresight r_b_pairs b_latestStatus b_fractionTop b_fractionBottom b_marks z_59 e_z_59 _ rfl _ rfl) (cV ht mv_X11_allow tb_518 rfl rfl ⟨Nat.le_of_ble_eq_true rfl, Nat.le_of_ble_eq_true rfl⟩) hP hS hX [0] rfl rfl rfl rfl rfl rfl hl.1 rfl (Nat.le_of_ble_eq_true rfl) dX11_tray_45 ⟨Nat.le_of_ble_eq_true rfl, Nat.le_of_ble_eq_true rfl⟩ (fun H locs hP hS => ?_)
        have hP : PD D A [bl_X11 cy A_b (A_T 0) r_b_army r_b_war r_b_draftArmy r_b_draftWar r_b_reader r_b_armyReader r_b_warReader r_b_markedArmies r_b_markedWars r_b_latest r_b_trial r_b_foresight r_b_pairs z_59.2 b_fractionTop b_fractionBottom b_marks, [(A_T 0, .inl (cy 4, 4, .inr (.inr (.inr (.inr (trf4 (A_y0 0) (A_y1 0) (A_y2 0) (A_y3 0)))))))], bl_X8 cy A_y0 z_58.1 z_58.2.1 z_58.2.2.1 z_58.2.2.2, bl_X8 cy A_y1 y1_row y1_missing y1_sort y1_many, bl_X8 cy A_y2 y2_row y2_missing y2_sort y2_many, bl_X8 cy A_y3 y3_row y3_missing y3_sort y3_many] H := hP
        obtain ⟨b_60, e_b_60, h⟩ := bi h
        obtain ⟨-, n_b_60, -⟩ := bz_ok e_b_60
        cases h
        subst hW1
        exact W.zret hx hb hr n_b_60 (fun _ ht9 _ => ⟨⟨_, (), rfl, rfl, hPt ht9 hP.1⟩, hS.F ht9⟩) hS.2.2 dX11_tray_48
      · have h := it c_57 h
        refine lv_aload_n hx hb dX11_tray_31 rfl (lv_at hl 1 rfl) ?_
        refine lv_iconst (v := 1) hx hb dX11_tray_32 (by decide) ?_
        obtain ⟨z_61, e_z_61, h⟩ := bi h
        refine efVi (rest := []) ⟨hx, hb, hml, hown, ht⟩ (c_X11_deny l D cy fu A_b (A_T 0) r_b_army r_b_war r_b_draftArmy r_b_draftWar r_b_reader r_b_armyReader r_b_warReader r_b_markedArmies r_b_markedWars r_b_latest r_b_trial r_b_foresight r_b_pairs b_latestStatus b_fractionTop b_fractionBottom b_marks 1 z_61 e_z_61 _ rfl _ rfl) (cV ht mv_X11_deny tb_507 rfl rfl ⟨Nat.le_of_ble_eq_true rfl, Nat.le_of_ble_eq_true rfl⟩) hP hS hX [0] rfl rfl rfl rfl rfl rfl hl.1 rfl (Nat.le_of_ble_eq_true rfl) dX11_tray_33 ⟨Nat.le_of_ble_eq_true rfl, Nat.le_of_ble_eq_true rfl⟩ (fun H locs hP hS => ?_)
        have hP : PD D A [bl_X11 cy A_b (A_T 0) r_b_army r_b_war r_b_draftArmy r_b_draftWar r_b_reader r_b_armyReader r_b_warReader r_b_markedArmies r_b_markedWars r_b_latest r_b_trial r_b_foresight r_b_pairs z_61.2 b_fractionTop b_fractionBottom b_marks, [(A_T 0, .inl (cy 4, 4, .inr (.inr (.inr (.inr (trf4 (A_y0 0) (A_y1 0) (A_y2 0) (A_y3 0)))))))], bl_X8 cy A_y0 y0_row y0_missing y0_sort y0_many, bl_X8 cy A_y1 y1_row y1_missing y1_sort y1_many, bl_X8 cy A_y2 y2_row y2_missing y2_sort y2_many, bl_X8 cy A_y3 y3_row y3_missing y3_sort y3_many] H := hP
        obtain ⟨b_62, e_b_62, h⟩ := bi h
        obtain ⟨-, n_b_62, -⟩ := bz_ok e_b_62
        cases h
        subst hW1
        exact W.zret hx hb hr n_b_62 (fun _ ht9 _ => ⟨⟨_, (), rfl, rfl, hPt ht9 hP.1⟩, hS.F ht9⟩) hS.2.2 dX11_tray_36
  have h := ie c_51 h
  by_cases c_63 : x1 = 1
  · have h := it c_63 h
    refine roVq (rest := []) ⟨hx, hb, hml, hown, ht⟩ (c_X11_trayAt l D cy fu A_b r_b_army r_b_war r_b_draftArmy r_b_draftWar r_b_reader r_b_armyReader r_b_warReader r_b_markedArmies r_b_markedWars r_b_latest r_b_trial r_b_foresight r_b_pairs b_latestStatus b_fractionTop b_fractionBottom b_marks A_T (trf4 (A_y0 0) (A_y1 0) (A_y2 0) (A_y3 0)) x1 (some (A_y1 0)) (tray_1 c_63)) (cV ht mv_X11_trayAt tb_500 rfl rfl ⟨Nat.le_of_ble_eq_true rfl, Nat.le_of_ble_eq_true rfl⟩) (P_sub hP.1 [0, 1] rfl) hX rfl rfl rfl hl.1 rfl (Nat.le_of_ble_eq_true rfl) dX11_tray_2 ⟨Nat.le_of_ble_eq_true rfl, Nat.le_of_ble_eq_true rfl⟩ ?_
    refine lv_astore (lv' := [(4, .ref (A_y1 0)), (0, .ref (A_b 0)), (1, .int x1), (2, .int x2), (3, .int x3)]) hx hb dX11_tray_5 hl (by decide) rfl (fun ls hl => ?_)
    refine lv_aload hx hb dX11_tray_7 (lv_at hl 0 rfl) ?_
    refine lv_ifnull hx hb dX11_tray_9 ?_
    refine lv_iload_n hx hb dX11_tray_12 rfl (lv_at hl 3 rfl) ?_
    refine lv_iconst (v := 0) hx hb dX11_tray_13 (by decide) ?_
    refine lv_iconst (v := 3) hx hb dX11_tray_14 (by decide) ?_
    obtain ⟨z_64, e_z_64, h⟩ := bi h
    refine roSi (rest := []) ⟨hx, hb, hml, hown, ht⟩ (c_X11_within l D cy fu  x2 0 3 z_64 e_z_64) (cS ht ms_X11_within tb_504 rfl rfl ⟨Nat.le_of_ble_eq_true rfl, Nat.le_of_ble_eq_true rfl⟩) (P_sub hP.1 [] rfl) hX rfl hl.1 rfl (Nat.le_of_ble_eq_true rfl) dX11_tray_15 ⟨Nat.le_of_ble_eq_true rfl, Nat.le_of_ble_eq_true rfl⟩ ?_
    refine lv_if_eq (tgt := 31) hx hb dX11_tray_18 (by decide) (fun c_65 => ?_) (fun c_65 => ?_)
    · have h := it c_65 h
      refine lv_aload_n hx hb dX11_tray_31 rfl (lv_at hl 1 rfl) ?_
      refine lv_iconst (v := 1) hx hb dX11_tray_32 (by decide) ?_
      obtain ⟨z_66, e_z_66, h⟩ := bi h
      refine efVi (rest := []) ⟨hx, hb, hml, hown, ht⟩ (c_X11_deny l D cy fu A_b (A_T 0) r_b_army r_b_war r_b_draftArmy r_b_draftWar r_b_reader r_b_armyReader r_b_warReader r_b_markedArmies r_b_markedWars r_b_latest r_b_trial r_b_foresight r_b_pairs b_latestStatus b_fractionTop b_fractionBottom b_marks 1 z_66 e_z_66 _ rfl _ rfl) (cV ht mv_X11_deny tb_507 rfl rfl ⟨Nat.le_of_ble_eq_true rfl, Nat.le_of_ble_eq_true rfl⟩) hP hS hX [0] rfl rfl rfl rfl rfl rfl hl.1 rfl (Nat.le_of_ble_eq_true rfl) dX11_tray_33 ⟨Nat.le_of_ble_eq_true rfl, Nat.le_of_ble_eq_true rfl⟩ (fun H locs hP hS => ?_)
      have hP : PD D A [bl_X11 cy A_b (A_T 0) r_b_army r_b_war r_b_draftArmy r_b_draftWar r_b_reader r_b_armyReader r_b_warReader r_b_markedArmies r_b_markedWars r_b_latest r_b_trial r_b_foresight r_b_pairs z_66.2 b_fractionTop b_fractionBottom b_marks, [(A_T 0, .inl (cy 4, 4, .inr (.inr (.inr (.inr (trf4 (A_y0 0) (A_y1 0) (A_y2 0) (A_y3 0)))))))], bl_X8 cy A_y0 y0_row y0_missing y0_sort y0_many, bl_X8 cy A_y1 y1_row y1_missing y1_sort y1_many, bl_X8 cy A_y2 y2_row y2_missing y2_sort y2_many, bl_X8 cy A_y3 y3_row y3_missing y3_sort y3_many] H := hP
      obtain ⟨b_67, e_b_67, h⟩ := bi h
      obtain ⟨-, n_b_67, -⟩ := bz_ok e_b_67
      cases h
      subst hW1
      exact W.zret hx hb hr n_b_67 (fun _ ht9 _ => ⟨⟨_, (), rfl, rfl, hPt ht9 hP.1⟩, hS.F ht9⟩) hS.2.2 dX11_tray_36
    · have h := ie c_65 h
      refine lv_iload_n hx hb dX11_tray_21 rfl (lv_at hl 4 rfl) ?_
      refine lv_iconst (v := 0) hx hb dX11_tray_22 (by decide) ?_
      refine lv_bipush (v := 60) hx hb dX11_tray_23 (by decide) ?_
      obtain ⟨z_68, e_z_68, h⟩ := bi h
      refine roSi (rest := []) ⟨hx, hb, hml, hown, ht⟩ (c_X11_within l D cy fu  x3 0 60 z_68 e_z_68) (cS ht ms_X11_within tb_504 rfl rfl ⟨Nat.le_of_ble_eq_true rfl, Nat.le_of_ble_eq_true rfl⟩) (P_sub hP.1 [] rfl) hX rfl hl.1 rfl (Nat.le_of_ble_eq_true rfl) dX11_tray_25 ⟨Nat.le_of_ble_eq_true rfl, Nat.le_of_ble_eq_true rfl⟩ ?_
      refine lv_if_ne (tgt := 37) hx hb dX11_tray_28 (by decide) (fun c_69 => ?_) (fun c_69 => ?_)
      · have h := ie c_69 h
        refine lv_aload hx hb dX11_tray_37 (lv_at hl 0 rfl) ?_
        refine lv_iload_n hx hb dX11_tray_39 rfl (lv_at hl 3 rfl) ?_
        refine lv_iload_n hx hb dX11_tray_40 rfl (lv_at hl 4 rfl) ?_
        obtain ⟨z_70, e_z_70, h⟩ := bi h
        refine efVv (rest := []) ⟨hx, hb, hml, hown, ht⟩ (c_X8_lay l D cy fu A_y1 y1_row y1_missing y1_sort y1_many x2 x3 z_70 e_z_70 _ rfl _ rfl) (cV ht mv_X8_lay tb_511 rfl rfl ⟨Nat.le_of_ble_eq_true rfl, Nat.le_of_ble_eq_true rfl⟩) hP hS hX [3] rfl rfl rfl rfl rfl rfl hl.1 rfl (Nat.le_of_ble_eq_true rfl) dX11_tray_41 ⟨Nat.le_of_ble_eq_true rfl, Nat.le_of_ble_eq_true rfl⟩ (fun H locs hP hS => ?_)
        have hP : PD D A [bl_X11 cy A_b (A_T 0) r_b_army r_b_war r_b_draftArmy r_b_draftWar r_b_reader r_b_armyReader r_b_warReader r_b_markedArmies r_b_markedWars r_b_latest r_b_trial r_b_foresight r_b_pairs b_latestStatus b_fractionTop b_fractionBottom b_marks, [(A_T 0, .inl (cy 4, 4, .inr (.inr (.inr (.inr (trf4 (A_y0 0) (A_y1 0) (A_y2 0) (A_y3 0)))))))], bl_X8 cy A_y0 y0_row y0_missing y0_sort y0_many, bl_X8 cy A_y1 z_70.1 z_70.2.1 z_70.2.2.1 z_70.2.2.2, bl_X8 cy A_y2 y2_row y2_missing y2_sort y2_many, bl_X8 cy A_y3 y3_row y3_missing y3_sort y3_many] H := hP
        refine lv_aload_n hx hb dX11_tray_44 rfl (lv_at hl 1 rfl) ?_
        obtain ⟨z_71, e_z_71, h⟩ := bi h
        refine efVi (rest := []) ⟨hx, hb, hml, hown, ht⟩ (c_X11_allow l D cy fu A_b (A_T 0) r_b_army r_b_war r_b_draftArmy r_b_draftWar r_b_reader r_b_armyReader r_b_warReader r_b_markedArmies r_b_markedWars r_b_latest r_b_trial r_b_foresight r_b_pairs b_latestStatus b_fractionTop b_fractionBottom b_marks z_71 e_z_71 _ rfl _ rfl) (cV ht mv_X11_allow tb_518 rfl rfl ⟨Nat.le_of_ble_eq_true rfl, Nat.le_of_ble_eq_true rfl⟩) hP hS hX [0] rfl rfl rfl rfl rfl rfl hl.1 rfl (Nat.le_of_ble_eq_true rfl) dX11_tray_45 ⟨Nat.le_of_ble_eq_true rfl, Nat.le_of_ble_eq_true rfl⟩ (fun H locs hP hS => ?_)
        have hP : PD D A [bl_X11 cy A_b (A_T 0) r_b_army r_b_war r_b_draftArmy r_b_draftWar r_b_reader r_b_armyReader r_b_warReader r_b_markedArmies r_b_markedWars r_b_latest r_b_trial r_b_foresight r_b_pairs z_71.2 b_fractionTop b_fractionBottom b_marks, [(A_T 0, .inl (cy 4, 4, .inr (.inr (.inr (.inr (trf4 (A_y0 0) (A_y1 0) (A_y2 0) (A_y3 0)))))))], bl_X8 cy A_y0 y0_row y0_missing y0_sort y0_many, bl_X8 cy A_y1 z_70.1 z_70.2.1 z_70.2.2.1 z_70.2.2.2, bl_X8 cy A_y2 y2_row y2_missing y2_sort y2_many, bl_X8 cy A_y3 y3_row y3_missing y3_sort y3_many] H := hP
        obtain ⟨b_72, e_b_72, h⟩ := bi h
        obtain ⟨-, n_b_72, -⟩ := bz_ok e_b_72
        cases h
        subst hW1
        exact W.zret hx hb hr n_b_72 (fun _ ht9 _ => ⟨⟨_, (), rfl, rfl, hPt ht9 hP.1⟩, hS.F ht9⟩) hS.2.2 dX11_tray_48
      · have h := it c_69 h
        refine lv_aload_n hx hb dX11_tray_31 rfl (lv_at hl 1 rfl) ?_
        refine lv_iconst (v := 1) hx hb dX11_tray_32 (by decide) ?_
        obtain ⟨z_73, e_z_73, h⟩ := bi h
        refine efVi (rest := []) ⟨hx, hb, hml, hown, ht⟩ (c_X11_deny l D cy fu A_b (A_T 0) r_b_army r_b_war r_b_draftArmy r_b_draftWar r_b_reader r_b_armyReader r_b_warReader r_b_markedArmies r_b_markedWars r_b_latest r_b_trial r_b_foresight r_b_pairs b_latestStatus b_fractionTop b_fractionBottom b_marks 1 z_73 e_z_73 _ rfl _ rfl) (cV ht mv_X11_deny tb_507 rfl rfl ⟨Nat.le_of_ble_eq_true rfl, Nat.le_of_ble_eq_true rfl⟩) hP hS hX [0] rfl rfl rfl rfl rfl rfl hl.1 rfl (Nat.le_of_ble_eq_true rfl) dX11_tray_33 ⟨Nat.le_of_ble_eq_true rfl, Nat.le_of_ble_eq_true rfl⟩ (fun H locs hP hS => ?_)
        have hP : PD D A [bl_X11 cy A_b (A_T 0) r_b_army r_b_war r_b_draftArmy r_b_draftWar r_b_reader r_b_armyReader r_b_warReader r_b_markedArmies r_b_markedWars r_b_latest r_b_trial r_b_foresight r_b_pairs z_73.2 b_fractionTop b_fractionBottom b_marks, [(A_T 0, .inl (cy 4, 4, .inr (.inr (.inr (.inr (trf4 (A_y0 0) (A_y1 0) (A_y2 0) (A_y3 0)))))))], bl_X8 cy A_y0 y0_row y0_missing y0_sort y0_many, bl_X8 cy A_y1 y1_row y1_missing y1_sort y1_many, bl_X8 cy A_y2 y2_row y2_missing y2_sort y2_many, bl_X8 cy A_y3 y3_row y3_missing y3_sort y3_many] H := hP
        obtain ⟨b_74, e_b_74, h⟩ := bi h
        obtain ⟨-, n_b_74, -⟩ := bz_ok e_b_74
        cases h
        subst hW1
        exact W.zret hx hb hr n_b_74 (fun _ ht9 _ => ⟨⟨_, (), rfl, rfl, hPt ht9 hP.1⟩, hS.F ht9⟩) hS.2.2 dX11_tray_36
  have h := ie c_63 h
  by_cases c_75 : x1 = 2
  · have h := it c_75 h
    refine roVq (rest := []) ⟨hx, hb, hml, hown, ht⟩ (c_X11_trayAt l D cy fu A_b r_b_army r_b_war r_b_draftArmy r_b_draftWar r_b_reader r_b_armyReader r_b_warReader r_b_markedArmies r_b_markedWars r_b_latest r_b_trial r_b_foresight r_b_pairs b_latestStatus b_fractionTop b_fractionBottom b_marks A_T (trf4 (A_y0 0) (A_y1 0) (A_y2 0) (A_y3 0)) x1 (some (A_y2 0)) (tray_2 c_75)) (cV ht mv_X11_trayAt tb_500 rfl rfl ⟨Nat.le_of_ble_eq_true rfl, Nat.le_of_ble_eq_true rfl⟩) (P_sub hP.1 [0, 1] rfl) hX rfl rfl rfl hl.1 rfl (Nat.le_of_ble_eq_true rfl) dX11_tray_2 ⟨Nat.le_of_ble_eq_true rfl, Nat.le_of_ble_eq_true rfl⟩ ?_
    refine lv_astore (lv' := [(4, .ref (A_y2 0)), (0, .ref (A_b 0)), (1, .int x1), (2, .int x2), (3, .int x3)]) hx hb dX11_tray_5 hl (by decide) rfl (fun ls hl => ?_)
    refine lv_aload hx hb dX11_tray_7 (lv_at hl 0 rfl) ?_
    refine lv_ifnull hx hb dX11_tray_9 ?_
    refine lv_iload_n hx hb dX11_tray_12 rfl (lv_at hl 3 rfl) ?_
    refine lv_iconst (v := 0) hx hb dX11_tray_13 (by decide) ?_
    refine lv_iconst (v := 3) hx hb dX11_tray_14 (by decide) ?_
    obtain ⟨z_76, e_z_76, h⟩ := bi h
    refine roSi (rest := []) ⟨hx, hb, hml, hown, ht⟩ (c_X11_within l D cy fu  x2 0 3 z_76 e_z_76) (cS ht ms_X11_within tb_504 rfl rfl ⟨Nat.le_of_ble_eq_true rfl, Nat.le_of_ble_eq_true rfl⟩) (P_sub hP.1 [] rfl) hX rfl hl.1 rfl (Nat.le_of_ble_eq_true rfl) dX11_tray_15 ⟨Nat.le_of_ble_eq_true rfl, Nat.le_of_ble_eq_true rfl⟩ ?_
    refine lv_if_eq (tgt := 31) hx hb dX11_tray_18 (by decide) (fun c_77 => ?_) (fun c_77 => ?_)
    · have h := it c_77 h
      refine lv_aload_n hx hb dX11_tray_31 rfl (lv_at hl 1 rfl) ?_
      refine lv_iconst (v := 1) hx hb dX11_tray_32 (by decide) ?_
      obtain ⟨z_78, e_z_78, h⟩ := bi h
      refine efVi (rest := []) ⟨hx, hb, hml, hown, ht⟩ (c_X11_deny l D cy fu A_b (A_T 0) r_b_army r_b_war r_b_draftArmy r_b_draftWar r_b_reader r_b_armyReader r_b_warReader r_b_markedArmies r_b_markedWars r_b_latest r_b_trial r_b_foresight r_b_pairs b_latestStatus b_fractionTop b_fractionBottom b_marks 1 z_78 e_z_78 _ rfl _ rfl) (cV ht mv_X11_deny tb_507 rfl rfl ⟨Nat.le_of_ble_eq_true rfl, Nat.le_of_ble_eq_true rfl⟩) hP hS hX [0] rfl rfl rfl rfl rfl rfl hl.1 rfl (Nat.le_of_ble_eq_true rfl) dX11_tray_33 ⟨Nat.le_of_ble_eq_true rfl, Nat.le_of_ble_eq_true rfl⟩ (fun H locs hP hS => ?_)
      have hP : PD D A [bl_X11 cy A_b (A_T 0) r_b_army r_b_war r_b_draftArmy r_b_draftWar r_b_reader r_b_armyReader r_b_warReader r_b_markedArmies r_b_markedWars r_b_latest r_b_trial r_b_foresight r_b_pairs z_78.2 b_fractionTop b_fractionBottom b_marks, [(A_T 0, .inl (cy 4, 4, .inr (.inr (.inr (.inr (trf4 (A_y0 0) (A_y1 0) (A_y2 0) (A_y3 0)))))))], bl_X8 cy A_y0 y0_row y0_missing y0_sort y0_many, bl_X8 cy A_y1 y1_row y1_missing y1_sort y1_many, bl_X8 cy A_y2 y2_row y2_missing y2_sort y2_many, bl_X8 cy A_y3 y3_row y3_missing y3_sort y3_many] H := hP
      obtain ⟨b_79, e_b_79, h⟩ := bi h
      obtain ⟨-, n_b_79, -⟩ := bz_ok e_b_79
      cases h
      subst hW1
      exact W.zret hx hb hr n_b_79 (fun _ ht9 _ => ⟨⟨_, (), rfl, rfl, hPt ht9 hP.1⟩, hS.F ht9⟩) hS.2.2 dX11_tray_36
    · have h := ie c_77 h
      refine lv_iload_n hx hb dX11_tray_21 rfl (lv_at hl 4 rfl) ?_
      refine lv_iconst (v := 0) hx hb dX11_tray_22 (by decide) ?_
      refine lv_bipush (v := 60) hx hb dX11_tray_23 (by decide) ?_
      obtain ⟨z_80, e_z_80, h⟩ := bi h
      refine roSi (rest := []) ⟨hx, hb, hml, hown, ht⟩ (c_X11_within l D cy fu  x3 0 60 z_80 e_z_80) (cS ht ms_X11_within tb_504 rfl rfl ⟨Nat.le_of_ble_eq_true rfl, Nat.le_of_ble_eq_true rfl⟩) (P_sub hP.1 [] rfl) hX rfl hl.1 rfl (Nat.le_of_ble_eq_true rfl) dX11_tray_25 ⟨Nat.le_of_ble_eq_true rfl, Nat.le_of_ble_eq_true rfl⟩ ?_
      refine lv_if_ne (tgt := 37) hx hb dX11_tray_28 (by decide) (fun c_81 => ?_) (fun c_81 => ?_)
      · have h := ie c_81 h
        refine lv_aload hx hb dX11_tray_37 (lv_at hl 0 rfl) ?_
        refine lv_iload_n hx hb dX11_tray_39 rfl (lv_at hl 3 rfl) ?_
        refine lv_iload_n hx hb dX11_tray_40 rfl (lv_at hl 4 rfl) ?_
        obtain ⟨z_82, e_z_82, h⟩ := bi h
        refine efVv (rest := []) ⟨hx, hb, hml, hown, ht⟩ (c_X8_lay l D cy fu A_y2 y2_row y2_missing y2_sort y2_many x2 x3 z_82 e_z_82 _ rfl _ rfl) (cV ht mv_X8_lay tb_511 rfl rfl ⟨Nat.le_of_ble_eq_true rfl, Nat.le_of_ble_eq_true rfl⟩) hP hS hX [4] rfl rfl rfl rfl rfl rfl hl.1 rfl (Nat.le_of_ble_eq_true rfl) dX11_tray_41 ⟨Nat.le_of_ble_eq_true rfl, Nat.le_of_ble_eq_true rfl⟩ (fun H locs hP hS => ?_)
        have hP : PD D A [bl_X11 cy A_b (A_T 0) r_b_army r_b_war r_b_draftArmy r_b_draftWar r_b_reader r_b_armyReader r_b_warReader r_b_markedArmies r_b_markedWars r_b_latest r_b_trial r_b_foresight r_b_pairs b_latestStatus b_fractionTop b_fractionBottom b_marks, [(A_T 0, .inl (cy 4, 4, .inr (.inr (.inr (.inr (trf4 (A_y0 0) (A_y1 0) (A_y2 0) (A_y3 0)))))))], bl_X8 cy A_y0 y0_row y0_missing y0_sort y0_many, bl_X8 cy A_y1 y1_row y1_missing y1_sort y1_many, bl_X8 cy A_y2 z_82.1 z_82.2.1 z_82.2.2.1 z_82.2.2.2, bl_X8 cy A_y3 y3_row y3_missing y3_sort y3_many] H := hP
        refine lv_aload_n hx hb dX11_tray_44 rfl (lv_at hl 1 rfl) ?_
        obtain ⟨z_83, e_z_83, h⟩ := bi h
        refine efVi (rest := []) ⟨hx, hb, hml, hown, ht⟩ (c_X11_allow l D cy fu A_b (A_T 0) r_b_army r_b_war r_b_draftArmy r_b_draftWar r_b_reader r_b_armyReader r_b_warReader r_b_markedArmies r_b_markedWars r_b_latest r_b_trial r_b_foresight r_b_pairs b_latestStatus b_fractionTop b_fractionBottom b_marks z_83 e_z_83 _ rfl _ rfl) (cV ht mv_X11_allow tb_518 rfl rfl ⟨Nat.le_of_ble_eq_true rfl, Nat.le_of_ble_eq_true rfl⟩) hP hS hX [0] rfl rfl rfl rfl rfl rfl hl.1 rfl (Nat.le_of_ble_eq_true rfl) dX11_tray_45 ⟨Nat.le_of_ble_eq_true rfl, Nat.le_of_ble_eq_true rfl⟩ (fun H locs hP hS => ?_)
        have hP : PD D A [bl_X11 cy A_b (A_T 0) r_b_army r_b_war r_b_draftArmy r_b_draftWar r_b_reader r_b_armyReader r_b_warReader r_b_markedArmies r_b_markedWars r_b_latest r_b_trial r_b_foresight r_b_pairs z_83.2 b_fractionTop b_fractionBottom b_marks, [(A_T 0, .inl (cy 4, 4, .inr (.inr (.inr (.inr (trf4 (A_y0 0) (A_y1 0) (A_y2 0) (A_y3 0)))))))], bl_X8 cy A_y0 y0_row y0_missing y0_sort y0_many, bl_X8 cy A_y1 y1_row y1_missing y1_sort y1_many, bl_X8 cy A_y2 z_82.1 z_82.2.1 z_82.2.2.1 z_82.2.2.2, bl_X8 cy A_y3 y3_row y3_missing y3_sort y3_many] H := hP
        obtain ⟨b_84, e_b_84, h⟩ := bi h
        obtain ⟨-, n_b_84, -⟩ := bz_ok e_b_84
        cases h
        subst hW1
        exact W.zret hx hb hr n_b_84 (fun _ ht9 _ => ⟨⟨_, (), rfl, rfl, hPt ht9 hP.1⟩, hS.F ht9⟩) hS.2.2 dX11_tray_48
      · have h := it c_81 h
        refine lv_aload_n hx hb dX11_tray_31 rfl (lv_at hl 1 rfl) ?_
        refine lv_iconst (v := 1) hx hb dX11_tray_32 (by decide) ?_
        obtain ⟨z_85, e_z_85, h⟩ := bi h
        refine efVi (rest := []) ⟨hx, hb, hml, hown, ht⟩ (c_X11_deny l D cy fu A_b (A_T 0) r_b_army r_b_war r_b_draftArmy r_b_draftWar r_b_reader r_b_armyReader r_b_warReader r_b_markedArmies r_b_markedWars r_b_latest r_b_trial r_b_foresight r_b_pairs b_latestStatus b_fractionTop b_fractionBottom b_marks 1 z_85 e_z_85 _ rfl _ rfl) (cV ht mv_X11_deny tb_507 rfl rfl ⟨Nat.le_of_ble_eq_true rfl, Nat.le_of_ble_eq_true rfl⟩) hP hS hX [0] rfl rfl rfl rfl rfl rfl hl.1 rfl (Nat.le_of_ble_eq_true rfl) dX11_tray_33 ⟨Nat.le_of_ble_eq_true rfl, Nat.le_of_ble_eq_true rfl⟩ (fun H locs hP hS => ?_)
        have hP : PD D A [bl_X11 cy A_b (A_T 0) r_b_army r_b_war r_b_draftArmy r_b_draftWar r_b_reader r_b_armyReader r_b_warReader r_b_markedArmies r_b_markedWars r_b_latest r_b_trial r_b_foresight r_b_pairs z_85.2 b_fractionTop b_fractionBottom b_marks, [(A_T 0, .inl (cy 4, 4, .inr (.inr (.inr (.inr (trf4 (A_y0 0) (A_y1 0) (A_y2 0) (A_y3 0)))))))], bl_X8 cy A_y0 y0_row y0_missing y0_sort y0_many, bl_X8 cy A_y1 y1_row y1_missing y1_sort y1_many, bl_X8 cy A_y2 y2_row y2_missing y2_sort y2_many, bl_X8 cy A_y3 y3_row y3_missing y3_sort y3_many] H := hP
        obtain ⟨b_86, e_b_86, h⟩ := bi h
        obtain ⟨-, n_b_86, -⟩ := bz_ok e_b_86
        cases h
        subst hW1
        exact W.zret hx hb hr n_b_86 (fun _ ht9 _ => ⟨⟨_, (), rfl, rfl, hPt ht9 hP.1⟩, hS.F ht9⟩) hS.2.2 dX11_tray_36
  have h := ie c_75 h
  by_cases c_87 : x1 = 3
  · have h := it c_87 h
    refine roVq (rest := []) ⟨hx, hb, hml, hown, ht⟩ (c_X11_trayAt l D cy fu A_b r_b_army r_b_war r_b_draftArmy r_b_draftWar r_b_reader r_b_armyReader r_b_warReader r_b_markedArmies r_b_markedWars r_b_latest r_b_trial r_b_foresight r_b_pairs b_latestStatus b_fractionTop b_fractionBottom b_marks A_T (trf4 (A_y0 0) (A_y1 0) (A_y2 0) (A_y3 0)) x1 (some (A_y3 0)) (tray_3 c_87)) (cV ht mv_X11_trayAt tb_500 rfl rfl ⟨Nat.le_of_ble_eq_true rfl, Nat.le_of_ble_eq_true rfl⟩) (P_sub hP.1 [0, 1] rfl) hX rfl rfl rfl hl.1 rfl (Nat.le_of_ble_eq_true rfl) dX11_tray_2 ⟨Nat.le_of_ble_eq_true rfl, Nat.le_of_ble_eq_true rfl⟩ ?_
    refine lv_astore (lv' := [(4, .ref (A_y3 0)), (0, .ref (A_b 0)), (1, .int x1), (2, .int x2), (3, .int x3)]) hx hb dX11_tray_5 hl (by decide) rfl (fun ls hl => ?_)
    refine lv_aload hx hb dX11_tray_7 (lv_at hl 0 rfl) ?_
    refine lv_ifnull hx hb dX11_tray_9 ?_
    refine lv_iload_n hx hb dX11_tray_12 rfl (lv_at hl 3 rfl) ?_
    refine lv_iconst (v := 0) hx hb dX11_tray_13 (by decide) ?_
    refine lv_iconst (v := 3) hx hb dX11_tray_14 (by decide) ?_
    obtain ⟨z_88, e_z_88, h⟩ := bi h
    refine roSi (rest := []) ⟨hx, hb, hml, hown, ht⟩ (c_X11_within l D cy fu  x2 0 3 z_88 e_z_88) (cS ht ms_X11_within tb_504 rfl rfl ⟨Nat.le_of_ble_eq_true rfl, Nat.le_of_ble_eq_true rfl⟩) (P_sub hP.1 [] rfl) hX rfl hl.1 rfl (Nat.le_of_ble_eq_true rfl) dX11_tray_15 ⟨Nat.le_of_ble_eq_true rfl, Nat.le_of_ble_eq_true rfl⟩ ?_
    refine lv_if_eq (tgt := 31) hx hb dX11_tray_18 (by decide) (fun c_89 => ?_) (fun c_89 => ?_)
    · have h := it c_89 h
      refine lv_aload_n hx hb dX11_tray_31 rfl (lv_at hl 1 rfl) ?_
      refine lv_iconst (v := 1) hx hb dX11_tray_32 (by decide) ?_
      obtain ⟨z_90, e_z_90, h⟩ := bi h
      refine efVi (rest := []) ⟨hx, hb, hml, hown, ht⟩ (c_X11_deny l D cy fu A_b (A_T 0) r_b_army r_b_war r_b_draftArmy r_b_draftWar r_b_reader r_b_armyReader r_b_warReader r_b_markedArmies r_b_markedWars r_b_latest r_b_trial r_b_foresight r_b_pairs b_latestStatus b_fractionTop b_fractionBottom b_marks 1 z_90 e_z_90 _ rfl _ rfl) (cV ht mv_X11_deny tb_507 rfl rfl ⟨Nat.le_of_ble_eq_true rfl, Nat.le_of_ble_eq_true rfl⟩) hP hS hX [0] rfl rfl rfl rfl rfl rfl hl.1 rfl (Nat.le_of_ble_eq_true rfl) dX11_tray_33 ⟨Nat.le_of_ble_eq_true rfl, Nat.le_of_ble_eq_true rfl⟩ (fun H locs hP hS => ?_)
      have hP : PD D A [bl_X11 cy A_b (A_T 0) r_b_army r_b_war r_b_draftArmy r_b_draftWar r_b_reader r_b_armyReader r_b_warReader r_b_markedArmies r_b_markedWars r_b_latest r_b_trial r_b_foresight r_b_pairs z_90.2 b_fractionTop b_fractionBottom b_marks, [(A_T 0, .inl (cy 4, 4, .inr (.inr (.inr (.inr (trf4 (A_y0 0) (A_y1 0) (A_y2 0) (A_y3 0)))))))], bl_X8 cy A_y0 y0_row y0_missing y0_sort y0_many, bl_X8 cy A_y1 y1_row y1_missing y1_sort y1_many, bl_X8 cy A_y2 y2_row y2_missing y2_sort y2_many, bl_X8 cy A_y3 y3_row y3_missing y3_sort y3_many] H := hP
      obtain ⟨b_91, e_b_91, h⟩ := bi h
      obtain ⟨-, n_b_91, -⟩ := bz_ok e_b_91
      cases h
      subst hW1
      exact W.zret hx hb hr n_b_91 (fun _ ht9 _ => ⟨⟨_, (), rfl, rfl, hPt ht9 hP.1⟩, hS.F ht9⟩) hS.2.2 dX11_tray_36
    · have h := ie c_89 h
      refine lv_iload_n hx hb dX11_tray_21 rfl (lv_at hl 4 rfl) ?_
      refine lv_iconst (v := 0) hx hb dX11_tray_22 (by decide) ?_
      refine lv_bipush (v := 60) hx hb dX11_tray_23 (by decide) ?_
      obtain ⟨z_92, e_z_92, h⟩ := bi h
      refine roSi (rest := []) ⟨hx, hb, hml, hown, ht⟩ (c_X11_within l D cy fu  x3 0 60 z_92 e_z_92) (cS ht ms_X11_within tb_504 rfl rfl ⟨Nat.le_of_ble_eq_true rfl, Nat.le_of_ble_eq_true rfl⟩) (P_sub hP.1 [] rfl) hX rfl hl.1 rfl (Nat.le_of_ble_eq_true rfl) dX11_tray_25 ⟨Nat.le_of_ble_eq_true rfl, Nat.le_of_ble_eq_true rfl⟩ ?_
      refine lv_if_ne (tgt := 37) hx hb dX11_tray_28 (by decide) (fun c_93 => ?_) (fun c_93 => ?_)
      · have h := ie c_93 h
        refine lv_aload hx hb dX11_tray_37 (lv_at hl 0 rfl) ?_
        refine lv_iload_n hx hb dX11_tray_39 rfl (lv_at hl 3 rfl) ?_
        refine lv_iload_n hx hb dX11_tray_40 rfl (lv_at hl 4 rfl) ?_
        obtain ⟨z_94, e_z_94, h⟩ := bi h
        refine efVv (rest := []) ⟨hx, hb, hml, hown, ht⟩ (c_X8_lay l D cy fu A_y3 y3_row y3_missing y3_sort y3_many x2 x3 z_94 e_z_94 _ rfl _ rfl) (cV ht mv_X8_lay tb_511 rfl rfl ⟨Nat.le_of_ble_eq_true rfl, Nat.le_of_ble_eq_true rfl⟩) hP hS hX [5] rfl rfl rfl rfl rfl rfl hl.1 rfl (Nat.le_of_ble_eq_true rfl) dX11_tray_41 ⟨Nat.le_of_ble_eq_true rfl, Nat.le_of_ble_eq_true rfl⟩ (fun H locs hP hS => ?_)
        have hP : PD D A [bl_X11 cy A_b (A_T 0) r_b_army r_b_war r_b_draftArmy r_b_draftWar r_b_reader r_b_armyReader r_b_warReader r_b_markedArmies r_b_markedWars r_b_latest r_b_trial r_b_foresight r_b_pairs b_latestStatus b_fractionTop b_fractionBottom b_marks, [(A_T 0, .inl (cy 4, 4, .inr (.inr (.inr (.inr (trf4 (A_y0 0) (A_y1 0) (A_y2 0) (A_y3 0)))))))], bl_X8 cy A_y0 y0_row y0_missing y0_sort y0_many, bl_X8 cy A_y1 y1_row y1_missing y1_sort y1_many, bl_X8 cy A_y2 y2_row y2_missing y2_sort y2_many, bl_X8 cy A_y3 z_94.1 z_94.2.1 z_94.2.2.1 z_94.2.2.2] H := hP
        refine lv_aload_n hx hb dX11_tray_44 rfl (lv_at hl 1 rfl) ?_
        obtain ⟨z_95, e_z_95, h⟩ := bi h
        refine efVi (rest := []) ⟨hx, hb, hml, hown, ht⟩ (c_X11_allow l D cy fu A_b (A_T 0) r_b_army r_b_war r_b_draftArmy r_b_draftWar r_b_reader r_b_armyReader r_b_warReader r_b_markedArmies r_b_markedWars r_b_latest r_b_trial r_b_foresight r_b_pairs b_latestStatus b_fractionTop b_fractionBottom b_marks z_95 e_z_95 _ rfl _ rfl) (cV ht mv_X11_allow tb_518 rfl rfl ⟨Nat.le_of_ble_eq_true rfl, Nat.le_of_ble_eq_true rfl⟩) hP hS hX [0] rfl rfl rfl rfl rfl rfl hl.1 rfl (Nat.le_of_ble_eq_true rfl) dX11_tray_45 ⟨Nat.le_of_ble_eq_true rfl, Nat.le_of_ble_eq_true rfl⟩ (fun H locs hP hS => ?_)
        have hP : PD D A [bl_X11 cy A_b (A_T 0) r_b_army r_b_war r_b_draftArmy r_b_draftWar r_b_reader r_b_armyReader r_b_warReader r_b_markedArmies r_b_markedWars r_b_latest r_b_trial r_b_foresight r_b_pairs z_95.2 b_fractionTop b_fractionBottom b_marks, [(A_T 0, .inl (cy 4, 4, .inr (.inr (.inr (.inr (trf4 (A_y0 0) (A_y1 0) (A_y2 0) (A_y3 0)))))))], bl_X8 cy A_y0 y0_row y0_missing y0_sort y0_many, bl_X8 cy A_y1 y1_row y1_missing y1_sort y1_many, bl_X8 cy A_y2 y2_row y2_missing y2_sort y2_many, bl_X8 cy A_y3 z_94.1 z_94.2.1 z_94.2.2.1 z_94.2.2.2] H := hP
        obtain ⟨b_96, e_b_96, h⟩ := bi h
        obtain ⟨-, n_b_96, -⟩ := bz_ok e_b_96
        cases h
        subst hW1
        exact W.zret hx hb hr n_b_96 (fun _ ht9 _ => ⟨⟨_, (), rfl, rfl, hPt ht9 hP.1⟩, hS.F ht9⟩) hS.2.2 dX11_tray_48
      · have h := it c_93 h
        refine lv_aload_n hx hb dX11_tray_31 rfl (lv_at hl 1 rfl) ?_
        refine lv_iconst (v := 1) hx hb dX11_tray_32 (by decide) ?_
        obtain ⟨z_97, e_z_97, h⟩ := bi h
        refine efVi (rest := []) ⟨hx, hb, hml, hown, ht⟩ (c_X11_deny l D cy fu A_b (A_T 0) r_b_army r_b_war r_b_draftArmy r_b_draftWar r_b_reader r_b_armyReader r_b_warReader r_b_markedArmies r_b_markedWars r_b_latest r_b_trial r_b_foresight r_b_pairs b_latestStatus b_fractionTop b_fractionBottom b_marks 1 z_97 e_z_97 _ rfl _ rfl) (cV ht mv_X11_deny tb_507 rfl rfl ⟨Nat.le_of_ble_eq_true rfl, Nat.le_of_ble_eq_true rfl⟩) hP hS hX [0] rfl rfl rfl rfl rfl rfl hl.1 rfl (Nat.le_of_ble_eq_true rfl) dX11_tray_33 ⟨Nat.le_of_ble_eq_true rfl, Nat.le_of_ble_eq_true rfl⟩ (fun H locs hP hS => ?_)
        have hP : PD D A [bl_X11 cy A_b (A_T 0) r_b_army r_b_war r_b_draftArmy r_b_draftWar r_b_reader r_b_armyReader r_b_warReader r_b_markedArmies r_b_markedWars r_b_latest r_b_trial r_b_foresight r_b_pairs z_97.2 b_fractionTop b_fractionBottom b_marks, [(A_T 0, .inl (cy 4, 4, .inr (.inr (.inr (.inr (trf4 (A_y0 0) (A_y1 0) (A_y2 0) (A_y3 0)))))))], bl_X8 cy A_y0 y0_row y0_missing y0_sort y0_many, bl_X8 cy A_y1 y1_row y1_missing y1_sort y1_many, bl_X8 cy A_y2 y2_row y2_missing y2_sort y2_many, bl_X8 cy A_y3 y3_row y3_missing y3_sort y3_many] H := hP
        obtain ⟨b_98, e_b_98, h⟩ := bi h
        obtain ⟨-, n_b_98, -⟩ := bz_ok e_b_98
        cases h
        subst hW1
        exact W.zret hx hb hr n_b_98 (fun _ ht9 _ => ⟨⟨_, (), rfl, rfl, hPt ht9 hP.1⟩, hS.F ht9⟩) hS.2.2 dX11_tray_36
  have h := ie c_87 h
  refine roVq (rest := []) ⟨hx, hb, hml, hown, ht⟩ (c_X11_trayAt l D cy fu A_b r_b_army r_b_war r_b_draftArmy r_b_draftWar r_b_reader r_b_armyReader r_b_warReader r_b_markedArmies r_b_markedWars r_b_latest r_b_trial r_b_foresight r_b_pairs b_latestStatus b_fractionTop b_fractionBottom b_marks A_T (trf4 (A_y0 0) (A_y1 0) (A_y2 0) (A_y3 0)) x1 (none) (tray_out ⟨c_51, c_63, c_75, c_87⟩)) (cV ht mv_X11_trayAt tb_500 rfl rfl ⟨Nat.le_of_ble_eq_true rfl, Nat.le_of_ble_eq_true rfl⟩) (P_sub hP.1 [0, 1] rfl) hX rfl rfl rfl hl.1 rfl (Nat.le_of_ble_eq_true rfl) dX11_tray_2 ⟨Nat.le_of_ble_eq_true rfl, Nat.le_of_ble_eq_true rfl⟩ ?_
  refine lv_astoreN (lv' := [(4, .null), (0, .ref (A_b 0)), (1, .int x1), (2, .int x2), (3, .int x3)]) hx hb dX11_tray_5 hl (by decide) rfl (fun ls hl => ?_)
  refine lv_aloadN hx hb dX11_tray_7 (lv_at hl 0 rfl) ?_
  refine lv_ifnullN (tgt := 31) hx hb dX11_tray_9 (by decide) ?_
  refine lv_aload_n hx hb dX11_tray_31 rfl (lv_at hl 1 rfl) ?_
  refine lv_iconst (v := 1) hx hb dX11_tray_32 (by decide) ?_
  obtain ⟨z_99, e_z_99, h⟩ := bi h
  refine efVi (rest := []) ⟨hx, hb, hml, hown, ht⟩ (c_X11_deny l D cy fu A_b (A_T 0) r_b_army r_b_war r_b_draftArmy r_b_draftWar r_b_reader r_b_armyReader r_b_warReader r_b_markedArmies r_b_markedWars r_b_latest r_b_trial r_b_foresight r_b_pairs b_latestStatus b_fractionTop b_fractionBottom b_marks 1 z_99 e_z_99 _ rfl _ rfl) (cV ht mv_X11_deny tb_507 rfl rfl ⟨Nat.le_of_ble_eq_true rfl, Nat.le_of_ble_eq_true rfl⟩) hP hS hX [0] rfl rfl rfl rfl rfl rfl hl.1 rfl (Nat.le_of_ble_eq_true rfl) dX11_tray_33 ⟨Nat.le_of_ble_eq_true rfl, Nat.le_of_ble_eq_true rfl⟩ (fun H locs hP hS => ?_)
  have hP : PD D A [bl_X11 cy A_b (A_T 0) r_b_army r_b_war r_b_draftArmy r_b_draftWar r_b_reader r_b_armyReader r_b_warReader r_b_markedArmies r_b_markedWars r_b_latest r_b_trial r_b_foresight r_b_pairs z_99.2 b_fractionTop b_fractionBottom b_marks, [(A_T 0, .inl (cy 4, 4, .inr (.inr (.inr (.inr (trf4 (A_y0 0) (A_y1 0) (A_y2 0) (A_y3 0)))))))], bl_X8 cy A_y0 y0_row y0_missing y0_sort y0_many, bl_X8 cy A_y1 y1_row y1_missing y1_sort y1_many, bl_X8 cy A_y2 y2_row y2_missing y2_sort y2_many, bl_X8 cy A_y3 y3_row y3_missing y3_sort y3_many] H := hP
  obtain ⟨b_100, e_b_100, h⟩ := bi h
  obtain ⟨-, n_b_100, -⟩ := bz_ok e_b_100
  cases h
  subst hW1
  exact W.zret hx hb hr n_b_100 (fun _ ht9 _ => ⟨⟨_, (), rfl, rfl, hPt ht9 hP.1⟩, hS.F ht9⟩) hS.2.2 dX11_tray_36
theorem dX11_write_0 : decode cX11_write 0 = .ok (.aload_n 0, 1) := by decide +kernel
theorem dX11_write_1 : decode cX11_write 1 = .ok (.iload_n 1, 1) := by decide +kernel
theorem dX11_write_2 : decode cX11_write 2 = .ok (.invokevirtual 111, 3) := by decide +kernel
theorem dX11_write_5 : decode cX11_write 5 = .ok (.astore 5, 2) := by decide +kernel
theorem dX11_write_7 : decode cX11_write 7 = .ok (.aload 5, 2) := by decide +kernel
theorem dX11_write_9 : decode cX11_write 9 = .ok (.ifnonnull 9, 3) := by decide +kernel
theorem dX11_write_12 : decode cX11_write 12 = .ok (.aload_n 0, 1) := by decide +kernel
theorem dX11_write_13 : decode cX11_write 13 = .ok (.iconst 1, 1) := by decide +kernel
theorem dX11_write_14 : decode cX11_write 14 = .ok (.invokevirtual 119, 3) := by decide +kernel
theorem dX11_write_17 : decode cX11_write 17 = .ok (.ireturn, 1) := by decide +kernel
theorem dX11_write_18 : decode cX11_write 18 = .ok (.aload 5, 2) := by decide +kernel
theorem dX11_write_20 : decode cX11_write 20 = .ok (.getfield 131, 3) := by decide +kernel
theorem dX11_write_23 : decode cX11_write 23 = .ok (.ifCond .eq 9, 3) := by decide +kernel
theorem dX11_write_26 : decode cX11_write 26 = .ok (.aload_n 0, 1) := by decide +kernel
theorem dX11_write_27 : decode cX11_write 27 = .ok (.iconst 2, 1) := by decide +kernel
theorem dX11_write_28 : decode cX11_write 28 = .ok (.invokevirtual 119, 3) := by decide +kernel
theorem dX11_write_31 : decode cX11_write 31 = .ok (.ireturn, 1) := by decide +kernel
theorem dX11_write_32 : decode cX11_write 32 = .ok (.aload 5, 2) := by decide +kernel
theorem dX11_write_34 : decode cX11_write 34 = .ok (.iload_n 2, 1) := by decide +kernel
theorem dX11_write_35 : decode cX11_write 35 = .ok (.iconst 1, 1) := by decide +kernel
theorem dX11_write_36 : decode cX11_write 36 = .ok (.invokevirtual 135, 3) := by decide +kernel
theorem dX11_write_39 : decode cX11_write 39 = .ok (.ifCond .ne 9, 3) := by decide +kernel
theorem dX11_write_42 : decode cX11_write 42 = .ok (.aload_n 0, 1) := by decide +kernel
theorem dX11_write_43 : decode cX11_write 43 = .ok (.iconst 3, 1) := by decide +kernel
theorem dX11_write_44 : decode cX11_write 44 = .ok (.invokevirtual 119, 3) := by decide +kernel
theorem dX11_write_47 : decode cX11_write 47 = .ok (.ireturn, 1) := by decide +kernel
theorem dX11_write_48 : decode cX11_write 48 = .ok (.aload 5, 2) := by decide +kernel
theorem dX11_write_50 : decode cX11_write 50 = .ok (.iload_n 2, 1) := by decide +kernel
theorem dX11_write_51 : decode cX11_write 51 = .ok (.lload_n 3, 1) := by decide +kernel
theorem dX11_write_52 : decode cX11_write 52 = .ok (.invokevirtual 139, 3) := by decide +kernel
theorem dX11_write_55 : decode cX11_write 55 = .ok (.aload_n 0, 1) := by decide +kernel
theorem dX11_write_56 : decode cX11_write 56 = .ok (.invokevirtual 127, 3) := by decide +kernel
theorem dX11_write_59 : decode cX11_write 59 = .ok (.ireturn, 1) := by decide +kernel
theorem mv_X11_write : MV yX11_write RX11 cX11_write 6 (some .boolean) 3 := ⟨tb_525, tb_523, tb_524, tb_1, by decide +kernel, by decide +kernel, by decide +kernel⟩
def f_X11_write (fu : Nat) (b_latestStatus : Int32) (y0_row : Nat → Int64) (y0_missing : Int32) (y0_sort : Int32) (y0_many : Int32) (y1_row : Nat → Int64) (y1_missing : Int32) (y1_sort : Int32) (y1_many : Int32) (y2_row : Nat → Int64) (y2_missing : Int32) (y2_sort : Int32) (y2_many : Int32) (y3_row : Nat → Int64) (y3_missing : Int32) (y3_sort : Int32) (y3_many : Int32) (x1 : Int32) (x2 : Int32) (x3 : Int64) : Option (Int32 × Int32 × (Nat → Int64) × (Nat → Int64) × (Nat → Int64) × (Nat → Int64)) := (if x1 = 0 then (if y0_missing = 0 then (f_X8_hasPlaces fu y0_many x2 1).bind fun z_49 => (if z_49 = 0 then (f_X11_deny fu b_latestStatus 3).bind fun z_54 => (bz z_54.1).bind fun _ => some (z_54.1, z_54.2, y0_row, y1_row, y2_row, y3_row) else (f_X8_put fu y0_row y0_sort y0_many x2 x3).bind fun z_51 => (f_X11_allow fu b_latestStatus).bind fun z_52 => (bz z_52.1).bind fun _ => some (z_52.1, z_52.2, z_51, y1_row, y2_row, y3_row)) else (f_X11_deny fu b_latestStatus 2).bind fun z_56 => (bz z_56.1).bind fun _ => some (z_56.1, z_56.2, y0_row, y1_row, y2_row, y3_row)) else (if x1 = 1 then (if y1_missing = 0 then (f_X8_hasPlaces fu y1_many x2 1).bind fun z_60 => (if z_60 = 0 then (f_X11_deny fu b_latestStatus 3).bind fun z_65 => (bz z_65.1).bind fun _ => some (z_65.1, z_65.2, y0_row, y1_row, y2_row, y3_row) else (f_X8_put fu y1_row y1_sort y1_many x2 x3).bind fun z_62 => (f_X11_allow fu b_latestStatus).bind fun z_63 => (bz z_63.1).bind fun _ => some (z_63.1, z_63.2, y0_row, z_62, y2_row, y3_row)) else (f_X11_deny fu b_latestStatus 2).bind fun z_67 => (bz z_67.1).bind fun _ => some (z_67.1, z_67.2, y0_row, y1_row, y2_row, y3_row)) else (if x1 = 2 then (if y2_missing = 0 then (f_X8_hasPlaces fu y2_many x2 1).bind fun z_71 => (if z_71 = 0 then (f_X11_deny fu b_latestStatus 3).bind fun z_76 => (bz z_76.1).bind fun _ => some (z_76.1, z_76.2, y0_row, y1_row, y2_row, y3_row) else (f_X8_put fu y2_row y2_sort y2_many x2 x3).bind fun z_73 => (f_X11_allow fu b_latestStatus).bind fun z_74 => (bz z_74.1).bind fun _ => some (z_74.1, z_74.2, y0_row, y1_row, z_73, y3_row)) else (f_X11_deny fu b_latestStatus 2).bind fun z_78 => (bz z_78.1).bind fun _ => some (z_78.1, z_78.2, y0_row, y1_row, y2_row, y3_row)) else (if x1 = 3 then (if y3_missing = 0 then (f_X8_hasPlaces fu y3_many x2 1).bind fun z_82 => (if z_82 = 0 then (f_X11_deny fu b_latestStatus 3).bind fun z_87 => (bz z_87.1).bind fun _ => some (z_87.1, z_87.2, y0_row, y1_row, y2_row, y3_row) else (f_X8_put fu y3_row y3_sort y3_many x2 x3).bind fun z_84 => (f_X11_allow fu b_latestStatus).bind fun z_85 => (bz z_85.1).bind fun _ => some (z_85.1, z_85.2, y0_row, y1_row, y2_row, z_84)) else (f_X11_deny fu b_latestStatus 2).bind fun z_89 => (bz z_89.1).bind fun _ => some (z_89.1, z_89.2, y0_row, y1_row, y2_row, y3_row)) else (f_X11_deny fu b_latestStatus 1).bind fun z_91 => (bz z_91.1).bind fun _ => some (z_91.1, z_91.2, y0_row, y1_row, y2_row, y3_row)))))
abbrev rm_X11_write : Room := { frames := 2, cells := 0, slots := 0, locals := 45 }
set_option maxHeartbeats 4000000 in
set_option maxRecDepth 100000 in
theorem c_X11_write (l : Launch) (D : va_G) (cy : Nat → ClassId) (fu : Nat) (A_b : Nat → Nat) (r_b_army : Nat) (r_b_war : Nat) (r_b_draftArmy : Nat) (r_b_draftWar : Nat) (r_b_reader : Nat) (r_b_armyReader : Nat) (r_b_warReader : Nat) (r_b_markedArmies : Nat) (r_b_markedWars : Nat) (r_b_latest : Nat) (r_b_trial : Nat) (r_b_foresight : Nat) (r_b_pairs : Nat) (b_latestStatus : Int32) (b_fractionTop : Int64) (b_fractionBottom : Int64) (b_marks : Int32) (A_T : Nat → Nat) (A_y0 : Nat → Nat) (y0_row : Nat → Int64) (y0_missing : Int32) (y0_sort : Int32) (y0_many : Int32) (A_y1 : Nat → Nat) (y1_row : Nat → Int64) (y1_missing : Int32) (y1_sort : Int32) (y1_many : Int32) (A_y2 : Nat → Nat) (y2_row : Nat → Int64) (y2_missing : Int32) (y2_sort : Int32) (y2_many : Int32) (A_y3 : Nat → Nat) (y3_row : Nat → Int64) (y3_missing : Int32) (y3_sort : Int32) (y3_many : Int32) (x1 : Int32) (x2 : Int32) (x3 : Int64) (res : Int32 × Int32 × (Nat → Int64) × (Nat → Int64) × (Nat → Int64) × (Nat → Int64)) (h : f_X11_write fu b_latestStatus y0_row y0_missing y0_sort y0_many y1_row y1_missing y1_sort y1_many y2_row y2_missing y2_sort y2_many y3_row y3_missing y3_sort y3_many x1 x2 x3 = some res) (A : Nat → Prop) (hA : A = adr [bl_X11 cy A_b (A_T 0) r_b_army r_b_war r_b_draftArmy r_b_draftWar r_b_reader r_b_armyReader r_b_warReader r_b_markedArmies r_b_markedWars r_b_latest r_b_trial r_b_foresight r_b_pairs b_latestStatus b_fractionTop b_fractionBottom b_marks, [(A_T 0, .inl (cy 4, 4, .inr (.inr (.inr (.inr (trf4 (A_y0 0) (A_y1 0) (A_y2 0) (A_y3 0)))))))], bl_X8 cy A_y0 y0_row y0_missing y0_sort y0_many, bl_X8 cy A_y1 y1_row y1_missing y1_sort y1_many, bl_X8 cy A_y2 y2_row y2_missing y2_sort y2_many, bl_X8 cy A_y3 y3_row y3_missing y3_sort y3_many]) (W1 : List va_W) (hW1 : W1 = [bl_X11 cy A_b (A_T 0) r_b_army r_b_war r_b_draftArmy r_b_draftWar r_b_reader r_b_armyReader r_b_warReader r_b_markedArmies r_b_markedWars r_b_latest r_b_trial r_b_foresight r_b_pairs res.2.1 b_fractionTop b_fractionBottom b_marks, [(A_T 0, .inl (cy 4, 4, .inr (.inr (.inr (.inr (trf4 (A_y0 0) (A_y1 0) (A_y2 0) (A_y3 0)))))))], bl_X8 cy A_y0 res.2.2.1 y0_missing y0_sort y0_many, bl_X8 cy A_y1 res.2.2.2.1 y1_missing y1_sort y1_many, bl_X8 cy A_y2 res.2.2.2.2.1 y2_missing y2_sort y2_many, bl_X8 cy A_y3 res.2.2.2.2.2 y3_missing y3_sort y3_many]) : Met l yX11_write (WW yX11_write cX11_write 6 (some .boolean)) rm_X11_write (Ed D cy [.ref (A_b 0), .int x1, .int x2, .long x3] [bl_X11 cy A_b (A_T 0) r_b_army r_b_war r_b_draftArmy r_b_draftWar r_b_reader r_b_armyReader r_b_warReader r_b_markedArmies r_b_markedWars r_b_latest r_b_trial r_b_foresight r_b_pairs b_latestStatus b_fractionTop b_fractionBottom b_marks, [(A_T 0, .inl (cy 4, 4, .inr (.inr (.inr (.inr (trf4 (A_y0 0) (A_y1 0) (A_y2 0) (A_y3 0)))))))], bl_X8 cy A_y0 y0_row y0_missing y0_sort y0_many, bl_X8 cy A_y1 y1_row y1_missing y1_sort y1_many, bl_X8 cy A_y2 y2_row y2_missing y2_sort y2_many, bl_X8 cy A_y3 y3_row y3_missing y3_sort y3_many]) (Qei D res.1 A W1) 0 0 A := by
  refine Met.ofW (cc := cX11_write) (maxL := 6) (ret := (some .boolean)) (by decide) rfl ?_
  intro p e s m args below meth c s₁ B hml hv
  obtain ⟨hargs, hP, hX, hD0⟩ := hv
  have hx := B.exec
  have hb := B.bytes
  have hr := B.returns
  have ht : ∀ w ∈ lw_gd, w.before args s = true := fun w hw => atoms_spec (ws := WW yX11_write cX11_write 6 (some .boolean)) B.pre w (List.mem_cons_of_mem _ hw)
  have hown : s.vm.findClass RX11 = some m.cls := findClass_of_methodNamed B.named
  have hlocks := B.notSynchronized
  have hP : PD D A [bl_X11 cy A_b (A_T 0) r_b_army r_b_war r_b_draftArmy r_b_draftWar r_b_reader r_b_armyReader r_b_warReader r_b_markedArmies r_b_markedWars r_b_latest r_b_trial r_b_foresight r_b_pairs b_latestStatus b_fractionTop b_fractionBottom b_marks, [(A_T 0, .inl (cy 4, 4, .inr (.inr (.inr (.inr (trf4 (A_y0 0) (A_y1 0) (A_y2 0) (A_y3 0)))))))], bl_X8 cy A_y0 y0_row y0_missing y0_sort y0_many, bl_X8 cy A_y1 y1_row y1_missing y1_sort y1_many, bl_X8 cy A_y2 y2_row y2_missing y2_sort y2_many, bl_X8 cy A_y3 y3_row y3_missing y3_sort y3_many] s.heap := ⟨hP, by rw [hA]; exact hD0.own⟩
  have hS : va_S A s.heap s.heap [] := va_S.rf
  obtain ⟨ls, hl, hent⟩ := ent (m := m) (n := 6) hargs (Nat.le_of_ble_eq_true rfl) (lv := [(0, .ref (A_b 0)), (1, .int x1), (2, .int x2), (3, .long x3)]) rfl
  rw [hent]
  clear hent
  unfold f_X11_write at h
  refine lv_aload_n hx hb dX11_write_0 rfl (lv_at hl 0 rfl) ?_
  refine lv_iload_n hx hb dX11_write_1 rfl (lv_at hl 1 rfl) ?_
  by_cases c_47 : x1 = 0
  · have h := it c_47 h
    refine roVq (rest := []) ⟨hx, hb, hml, hown, ht⟩ (c_X11_trayAt l D cy fu A_b r_b_army r_b_war r_b_draftArmy r_b_draftWar r_b_reader r_b_armyReader r_b_warReader r_b_markedArmies r_b_markedWars r_b_latest r_b_trial r_b_foresight r_b_pairs b_latestStatus b_fractionTop b_fractionBottom b_marks A_T (trf4 (A_y0 0) (A_y1 0) (A_y2 0) (A_y3 0)) x1 (some (A_y0 0)) (tray_0 c_47)) (cV ht mv_X11_trayAt tb_500 rfl rfl ⟨Nat.le_of_ble_eq_true rfl, Nat.le_of_ble_eq_true rfl⟩) (P_sub hP.1 [0, 1] rfl) hX rfl rfl rfl hl.1 rfl (Nat.le_of_ble_eq_true rfl) dX11_write_2 ⟨Nat.le_of_ble_eq_true rfl, Nat.le_of_ble_eq_true rfl⟩ ?_
    refine lv_astore (lv' := [(5, .ref (A_y0 0)), (0, .ref (A_b 0)), (1, .int x1), (2, .int x2), (3, .long x3)]) hx hb dX11_write_5 hl (by decide) rfl (fun ls hl => ?_)
    refine lv_aload hx hb dX11_write_7 (lv_at hl 0 rfl) ?_
    refine lv_ifnonnull (tgt := 18) hx hb dX11_write_9 (by decide) ?_
    refine lv_aload hx hb dX11_write_18 (lv_at hl 0 rfl) ?_
    refine xget (i := 2) (j := 0) (k := 1) (T := TX8) hx hb ht tb_iX8 hown hX hP.1 rfl rfl rfl (by decide) tb_416 rfl dX11_write_20 ?_
    refine lv_if_eq (tgt := 32) hx hb dX11_write_23 (by decide) (fun c_48 => ?_) (fun c_48 => ?_)
    · have h := it c_48 h
      refine lv_aload hx hb dX11_write_32 (lv_at hl 0 rfl) ?_
      refine lv_iload_n hx hb dX11_write_34 rfl (lv_at hl 3 rfl) ?_
      refine lv_iconst (v := 1) hx hb dX11_write_35 (by decide) ?_
      obtain ⟨z_49, e_z_49, h⟩ := bi h
      refine roVi (rest := []) ⟨hx, hb, hml, hown, ht⟩ (c_X8_hasPlaces l D cy fu A_y0 y0_row y0_missing y0_sort y0_many x2 1 z_49 e_z_49) (cV ht mv_X8_hasPlaces tb_526 rfl rfl ⟨Nat.le_of_ble_eq_true rfl, Nat.le_of_ble_eq_true rfl⟩) (P_sub hP.1 [2] rfl) hX rfl rfl rfl hl.1 rfl (Nat.le_of_ble_eq_true rfl) dX11_write_36 ⟨Nat.le_of_ble_eq_true rfl, Nat.le_of_ble_eq_true rfl⟩ ?_
      refine lv_if_ne (tgt := 48) hx hb dX11_write_39 (by decide) (fun c_50 => ?_) (fun c_50 => ?_)
      · have h := ie c_50 h
        refine lv_aload hx hb dX11_write_48 (lv_at hl 0 rfl) ?_
        refine lv_iload_n hx hb dX11_write_50 rfl (lv_at hl 3 rfl) ?_
        refine lv_lload_n hx hb dX11_write_51 rfl (lv_at hl 4 rfl) ?_
        obtain ⟨z_51, e_z_51, h⟩ := bi h
        refine efVv (rest := []) ⟨hx, hb, hml, hown, ht⟩ (c_X8_put l D cy fu A_y0 y0_row y0_missing y0_sort y0_many x2 x3 z_51 e_z_51 _ rfl _ rfl) (cV ht mv_X8_put tb_530 rfl rfl ⟨Nat.le_of_ble_eq_true rfl, Nat.le_of_ble_eq_true rfl⟩) hP hS hX [2] rfl rfl rfl rfl rfl rfl hl.1 rfl (Nat.le_of_ble_eq_true rfl) dX11_write_52 ⟨Nat.le_of_ble_eq_true rfl, Nat.le_of_ble_eq_true rfl⟩ (fun H locs hP hS => ?_)
        have hP : PD D A [bl_X11 cy A_b (A_T 0) r_b_army r_b_war r_b_draftArmy r_b_draftWar r_b_reader r_b_armyReader r_b_warReader r_b_markedArmies r_b_markedWars r_b_latest r_b_trial r_b_foresight r_b_pairs b_latestStatus b_fractionTop b_fractionBottom b_marks, [(A_T 0, .inl (cy 4, 4, .inr (.inr (.inr (.inr (trf4 (A_y0 0) (A_y1 0) (A_y2 0) (A_y3 0)))))))], bl_X8 cy A_y0 z_51 y0_missing y0_sort y0_many, bl_X8 cy A_y1 y1_row y1_missing y1_sort y1_many, bl_X8 cy A_y2 y2_row y2_missing y2_sort y2_many, bl_X8 cy A_y3 y3_row y3_missing y3_sort y3_many] H := hP
        refine lv_aload_n hx hb dX11_write_55 rfl (lv_at hl 1 rfl) ?_
        obtain ⟨z_52, e_z_52, h⟩ := bi h
        refine efVi (rest := []) ⟨hx, hb, hml, hown, ht⟩ (c_X11_allow l D cy fu A_b (A_T 0) r_b_army r_b_war r_b_draftArmy r_b_draftWar r_b_reader r_b_armyReader r_b_warReader r_b_markedArmies r_b_markedWars r_b_latest r_b_trial r_b_foresight r_b_pairs b_latestStatus b_fractionTop b_fractionBottom b_marks z_52 e_z_52 _ rfl _ rfl) (cV ht mv_X11_allow tb_518 rfl rfl ⟨Nat.le_of_ble_eq_true rfl, Nat.le_of_ble_eq_true rfl⟩) hP hS hX [0] rfl rfl rfl rfl rfl rfl hl.1 rfl (Nat.le_of_ble_eq_true rfl) dX11_write_56 ⟨Nat.le_of_ble_eq_true rfl, Nat.le_of_ble_eq_true rfl⟩ (fun H locs hP hS => ?_)
        have hP : PD D A [bl_X11 cy A_b (A_T 0) r_b_army r_b_war r_b_draftArmy r_b_draftWar r_b_reader r_b_armyReader r_b_warReader r_b_markedArmies r_b_markedWars r_b_latest r_b_trial r_b_foresight r_b_pairs z_52.2 b_fractionTop b_fractionBottom b_marks, [(A_T 0, .inl (cy 4, 4, .inr (.inr (.inr (.inr (trf4 (A_y0 0) (A_y1 0) (A_y2 0) (A_y3 0)))))))], bl_X8 cy A_y0 z_51 y0_missing y0_sort y0_many, bl_X8 cy A_y1 y1_row y1_missing y1_sort y1_many, bl_X8 cy A_y2 y2_row y2_missing y2_sort y2_many, bl_X8 cy A_y3 y3_row y3_missing y3_sort y3_many] H := hP
        obtain ⟨b_53, e_b_53, h⟩ := bi h
        obtain ⟨-, n_b_53, -⟩ := bz_ok e_b_53
        cases h
        subst hW1
        exact W.zret hx hb hr n_b_53 (fun _ ht9 _ => ⟨⟨_, (), rfl, rfl, hPt ht9 hP.1⟩, hS.F ht9⟩) hS.2.2 dX11_write_59
      · have h := it c_50 h
        refine lv_aload_n hx hb dX11_write_42 rfl (lv_at hl 1 rfl) ?_
        refine lv_iconst (v := 3) hx hb dX11_write_43 (by decide) ?_
        obtain ⟨z_54, e_z_54, h⟩ := bi h
        refine efVi (rest := []) ⟨hx, hb, hml, hown, ht⟩ (c_X11_deny l D cy fu A_b (A_T 0) r_b_army r_b_war r_b_draftArmy r_b_draftWar r_b_reader r_b_armyReader r_b_warReader r_b_markedArmies r_b_markedWars r_b_latest r_b_trial r_b_foresight r_b_pairs b_latestStatus b_fractionTop b_fractionBottom b_marks 3 z_54 e_z_54 _ rfl _ rfl) (cV ht mv_X11_deny tb_507 rfl rfl ⟨Nat.le_of_ble_eq_true rfl, Nat.le_of_ble_eq_true rfl⟩) hP hS hX [0] rfl rfl rfl rfl rfl rfl hl.1 rfl (Nat.le_of_ble_eq_true rfl) dX11_write_44 ⟨Nat.le_of_ble_eq_true rfl, Nat.le_of_ble_eq_true rfl⟩ (fun H locs hP hS => ?_)
        have hP : PD D A [bl_X11 cy A_b (A_T 0) r_b_army r_b_war r_b_draftArmy r_b_draftWar r_b_reader r_b_armyReader r_b_warReader r_b_markedArmies r_b_markedWars r_b_latest r_b_trial r_b_foresight r_b_pairs z_54.2 b_fractionTop b_fractionBottom b_marks, [(A_T 0, .inl (cy 4, 4, .inr (.inr (.inr (.inr (trf4 (A_y0 0) (A_y1 0) (A_y2 0) (A_y3 0)))))))], bl_X8 cy A_y0 y0_row y0_missing y0_sort y0_many, bl_X8 cy A_y1 y1_row y1_missing y1_sort y1_many, bl_X8 cy A_y2 y2_row y2_missing y2_sort y2_many, bl_X8 cy A_y3 y3_row y3_missing y3_sort y3_many] H := hP
        obtain ⟨b_55, e_b_55, h⟩ := bi h
        obtain ⟨-, n_b_55, -⟩ := bz_ok e_b_55
        cases h
        subst hW1
        exact W.zret hx hb hr n_b_55 (fun _ ht9 _ => ⟨⟨_, (), rfl, rfl, hPt ht9 hP.1⟩, hS.F ht9⟩) hS.2.2 dX11_write_47
    · have h := ie c_48 h
      refine lv_aload_n hx hb dX11_write_26 rfl (lv_at hl 1 rfl) ?_
      refine lv_iconst (v := 2) hx hb dX11_write_27 (by decide) ?_
      obtain ⟨z_56, e_z_56, h⟩ := bi h
      refine efVi (rest := []) ⟨hx, hb, hml, hown, ht⟩ (c_X11_deny l D cy fu A_b (A_T 0) r_b_army r_b_war r_b_draftArmy r_b_draftWar r_b_reader r_b_armyReader r_b_warReader r_b_markedArmies r_b_markedWars r_b_latest r_b_trial r_b_foresight r_b_pairs b_latestStatus b_fractionTop b_fractionBottom b_marks 2 z_56 e_z_56 _ rfl _ rfl) (cV ht mv_X11_deny tb_507 rfl rfl ⟨Nat.le_of_ble_eq_true rfl, Nat.le_of_ble_eq_true rfl⟩) hP hS hX [0] rfl rfl rfl rfl rfl rfl hl.1 rfl (Nat.le_of_ble_eq_true rfl) dX11_write_28 ⟨Nat.le_of_ble_eq_true rfl, Nat.le_of_ble_eq_true rfl⟩ (fun H locs hP hS => ?_)
      have hP : PD D A [bl_X11 cy A_b (A_T 0) r_b_army r_b_war r_b_draftArmy r_b_draftWar r_b_reader r_b_armyReader r_b_warReader r_b_markedArmies r_b_markedWars r_b_latest r_b_trial r_b_foresight r_b_pairs z_56.2 b_fractionTop b_fractionBottom b_marks, [(A_T 0, .inl (cy 4, 4, .inr (.inr (.inr (.inr (trf4 (A_y0 0) (A_y1 0) (A_y2 0) (A_y3 0)))))))], bl_X8 cy A_y0 y0_row y0_missing y0_sort y0_many, bl_X8 cy A_y1 y1_row y1_missing y1_sort y1_many, bl_X8 cy A_y2 y2_row y2_missing y2_sort y2_many, bl_X8 cy A_y3 y3_row y3_missing y3_sort y3_many] H := hP
      obtain ⟨b_57, e_b_57, h⟩ := bi h
      obtain ⟨-, n_b_57, -⟩ := bz_ok e_b_57
      cases h
      subst hW1
      exact W.zret hx hb hr n_b_57 (fun _ ht9 _ => ⟨⟨_, (), rfl, rfl, hPt ht9 hP.1⟩, hS.F ht9⟩) hS.2.2 dX11_write_31
  have h := ie c_47 h
  by_cases c_58 : x1 = 1
  · have h := it c_58 h
    refine roVq (rest := []) ⟨hx, hb, hml, hown, ht⟩ (c_X11_trayAt l D cy fu A_b r_b_army r_b_war r_b_draftArmy r_b_draftWar r_b_reader r_b_armyReader r_b_warReader r_b_markedArmies r_b_markedWars r_b_latest r_b_trial r_b_foresight r_b_pairs b_latestStatus b_fractionTop b_fractionBottom b_marks A_T (trf4 (A_y0 0) (A_y1 0) (A_y2 0) (A_y3 0)) x1 (some (A_y1 0)) (tray_1 c_58)) (cV ht mv_X11_trayAt tb_500 rfl rfl ⟨Nat.le_of_ble_eq_true rfl, Nat.le_of_ble_eq_true rfl⟩) (P_sub hP.1 [0, 1] rfl) hX rfl rfl rfl hl.1 rfl (Nat.le_of_ble_eq_true rfl) dX11_write_2 ⟨Nat.le_of_ble_eq_true rfl, Nat.le_of_ble_eq_true rfl⟩ ?_
    refine lv_astore (lv' := [(5, .ref (A_y1 0)), (0, .ref (A_b 0)), (1, .int x1), (2, .int x2), (3, .long x3)]) hx hb dX11_write_5 hl (by decide) rfl (fun ls hl => ?_)
    refine lv_aload hx hb dX11_write_7 (lv_at hl 0 rfl) ?_
    refine lv_ifnonnull (tgt := 18) hx hb dX11_write_9 (by decide) ?_
    refine lv_aload hx hb dX11_write_18 (lv_at hl 0 rfl) ?_
    refine xget (i := 3) (j := 0) (k := 1) (T := TX8) hx hb ht tb_iX8 hown hX hP.1 rfl rfl rfl (by decide) tb_416 rfl dX11_write_20 ?_
    refine lv_if_eq (tgt := 32) hx hb dX11_write_23 (by decide) (fun c_59 => ?_) (fun c_59 => ?_)
    · have h := it c_59 h
      refine lv_aload hx hb dX11_write_32 (lv_at hl 0 rfl) ?_
      refine lv_iload_n hx hb dX11_write_34 rfl (lv_at hl 3 rfl) ?_
      refine lv_iconst (v := 1) hx hb dX11_write_35 (by decide) ?_
      obtain ⟨z_60, e_z_60, h⟩ := bi h
      refine roVi (rest := []) ⟨hx, hb, hml, hown, ht⟩ (c_X8_hasPlaces l D cy fu A_y1 y1_row y1_missing y1_sort y1_many x2 1 z_60 e_z_60) (cV ht mv_X8_hasPlaces tb_526 rfl rfl ⟨Nat.le_of_ble_eq_true rfl, Nat.le_of_ble_eq_true rfl⟩) (P_sub hP.1 [3] rfl) hX rfl rfl rfl hl.1 rfl (Nat.le_of_ble_eq_true rfl) dX11_write_36 ⟨Nat.le_of_ble_eq_true rfl, Nat.le_of_ble_eq_true rfl⟩ ?_
      refine lv_if_ne (tgt := 48) hx hb dX11_write_39 (by decide) (fun c_61 => ?_) (fun c_61 => ?_)
      · have h := ie c_61 h
        refine lv_aload hx hb dX11_write_48 (lv_at hl 0 rfl) ?_
        refine lv_iload_n hx hb dX11_write_50 rfl (lv_at hl 3 rfl) ?_
        refine lv_lload_n hx hb dX11_write_51 rfl (lv_at hl 4 rfl) ?_
        obtain ⟨z_62, e_z_62, h⟩ := bi h
        refine efVv (rest := []) ⟨hx, hb, hml, hown, ht⟩ (c_X8_put l D cy fu A_y1 y1_row y1_missing y1_sort y1_many x2 x3 z_62 e_z_62 _ rfl _ rfl) (cV ht mv_X8_put tb_530 rfl rfl ⟨Nat.le_of_ble_eq_true rfl, Nat.le_of_ble_eq_true rfl⟩) hP hS hX [3] rfl rfl rfl rfl rfl rfl hl.1 rfl (Nat.le_of_ble_eq_true rfl) dX11_write_52 ⟨Nat.le_of_ble_eq_true rfl, Nat.le_of_ble_eq_true rfl⟩ (fun H locs hP hS => ?_)
        have hP : PD D A [bl_X11 cy A_b (A_T 0) r_b_army r_b_war r_b_draftArmy r_b_draftWar r_b_reader r_b_armyReader r_b_warReader r_b_markedArmies r_b_markedWars r_b_latest r_b_trial r_b_foresight r_b_pairs b_latestStatus b_fractionTop b_fractionBottom b_marks, [(A_T 0, .inl (cy 4, 4, .inr (.inr (.inr (.inr (trf4 (A_y0 0) (A_y1 0) (A_y2 0) (A_y3 0)))))))], bl_X8 cy A_y0 y0_row y0_missing y0_sort y0_many, bl_X8 cy A_y1 z_62 y1_missing y1_sort y1_many, bl_X8 cy A_y2 y2_row y2_missing y2_sort y2_many, bl_X8 cy A_y3 y3_row y3_missing y3_sort y3_many] H := hP
        refine lv_aload_n hx hb dX11_write_55 rfl (lv_at hl 1 rfl) ?_
        obtain ⟨z_63, e_z_63, h⟩ := bi h
        refine efVi (rest := []) ⟨hx, hb, hml, hown, ht⟩ (c_X11_allow l D cy fu A_b (A_T 0) r_b_army r_b_war r_b_draftArmy r_b_draftWar r_b_reader r_b_armyReader r_b_warReader r_b_markedArmies r_b_markedWars r_b_latest r_b_trial r_b_foresight r_b_pairs b_latestStatus b_fractionTop b_fractionBottom b_marks z_63 e_z_63 _ rfl _ rfl) (cV ht mv_X11_allow tb_518 rfl rfl ⟨Nat.le_of_ble_eq_true rfl, Nat.le_of_ble_eq_true rfl⟩) hP hS hX [0] rfl rfl rfl rfl rfl rfl hl.1 rfl (Nat.le_of_ble_eq_true rfl) dX11_write_56 ⟨Nat.le_of_ble_eq_true rfl, Nat.le_of_ble_eq_true rfl⟩ (fun H locs hP hS => ?_)
        have hP : PD D A [bl_X11 cy A_b (A_T 0) r_b_army r_b_war r_b_draftArmy r_b_draftWar r_b_reader r_b_armyReader r_b_warReader r_b_markedArmies r_b_markedWars r_b_latest r_b_trial r_b_foresight r_b_pairs z_63.2 b_fractionTop b_fractionBottom b_marks, [(A_T 0, .inl (cy 4, 4, .inr (.inr (.inr (.inr (trf4 (A_y0 0) (A_y1 0) (A_y2 0) (A_y3 0)))))))], bl_X8 cy A_y0 y0_row y0_missing y0_sort y0_many, bl_X8 cy A_y1 z_62 y1_missing y1_sort y1_many, bl_X8 cy A_y2 y2_row y2_missing y2_sort y2_many, bl_X8 cy A_y3 y3_row y3_missing y3_sort y3_many] H := hP
        obtain ⟨b_64, e_b_64, h⟩ := bi h
        obtain ⟨-, n_b_64, -⟩ := bz_ok e_b_64
        cases h
        subst hW1
        exact W.zret hx hb hr n_b_64 (fun _ ht9 _ => ⟨⟨_, (), rfl, rfl, hPt ht9 hP.1⟩, hS.F ht9⟩) hS.2.2 dX11_write_59
      · have h := it c_61 h
        refine lv_aload_n hx hb dX11_write_42 rfl (lv_at hl 1 rfl) ?_
        refine lv_iconst (v := 3) hx hb dX11_write_43 (by decide) ?_
        obtain ⟨z_65, e_z_65, h⟩ := bi h
        refine efVi (rest := []) ⟨hx, hb, hml, hown, ht⟩ (c_X11_deny l D cy fu A_b (A_T 0) r_b_army r_b_war r_b_draftArmy r_b_draftWar r_b_reader r_b_armyReader r_b_warReader r_b_markedArmies r_b_markedWars r_b_latest r_b_trial r_b_foresight r_b_pairs b_latestStatus b_fractionTop b_fractionBottom b_marks 3 z_65 e_z_65 _ rfl _ rfl) (cV ht mv_X11_deny tb_507 rfl rfl ⟨Nat.le_of_ble_eq_true rfl, Nat.le_of_ble_eq_true rfl⟩) hP hS hX [0] rfl rfl rfl rfl rfl rfl hl.1 rfl (Nat.le_of_ble_eq_true rfl) dX11_write_44 ⟨Nat.le_of_ble_eq_true rfl, Nat.le_of_ble_eq_true rfl⟩ (fun H locs hP hS => ?_)
        have hP : PD D A [bl_X11 cy A_b (A_T 0) r_b_army r_b_war r_b_draftArmy r_b_draftWar r_b_reader r_b_armyReader r_b_warReader r_b_markedArmies r_b_markedWars r_b_latest r_b_trial r_b_foresight r_b_pairs z_65.2 b_fractionTop b_fractionBottom b_marks, [(A_T 0, .inl (cy 4, 4, .inr (.inr (.inr (.inr (trf4 (A_y0 0) (A_y1 0) (A_y2 0) (A_y3 0)))))))], bl_X8 cy A_y0 y0_row y0_missing y0_sort y0_many, bl_X8 cy A_y1 y1_row y1_missing y1_sort y1_many, bl_X8 cy A_y2 y2_row y2_missing y2_sort y2_many, bl_X8 cy A_y3 y3_row y3_missing y3_sort y3_many] H := hP
        obtain ⟨b_66, e_b_66, h⟩ := bi h
        obtain ⟨-, n_b_66, -⟩ := bz_ok e_b_66
        cases h
        subst hW1
        exact W.zret hx hb hr n_b_66 (fun _ ht9 _ => ⟨⟨_, (), rfl, rfl, hPt ht9 hP.1⟩, hS.F ht9⟩) hS.2.2 dX11_write_47
    · have h := ie c_59 h
      refine lv_aload_n hx hb dX11_write_26 rfl (lv_at hl 1 rfl) ?_
      refine lv_iconst (v := 2) hx hb dX11_write_27 (by decide) ?_
      obtain ⟨z_67, e_z_67, h⟩ := bi h
      refine efVi (rest := []) ⟨hx, hb, hml, hown, ht⟩ (c_X11_deny l D cy fu A_b (A_T 0) r_b_army r_b_war r_b_draftArmy r_b_draftWar r_b_reader r_b_armyReader r_b_warReader r_b_markedArmies r_b_markedWars r_b_latest r_b_trial r_b_foresight r_b_pairs b_latestStatus b_fractionTop b_fractionBottom b_marks 2 z_67 e_z_67 _ rfl _ rfl) (cV ht mv_X11_deny tb_507 rfl rfl ⟨Nat.le_of_ble_eq_true rfl, Nat.le_of_ble_eq_true rfl⟩) hP hS hX [0] rfl rfl rfl rfl rfl rfl hl.1 rfl (Nat.le_of_ble_eq_true rfl) dX11_write_28 ⟨Nat.le_of_ble_eq_true rfl, Nat.le_of_ble_eq_true rfl⟩ (fun H locs hP hS => ?_)
      have hP : PD D A [bl_X11 cy A_b (A_T 0) r_b_army r_b_war r_b_draftArmy r_b_draftWar r_b_reader r_b_armyReader r_b_warReader r_b_markedArmies r_b_markedWars r_b_latest r_b_trial r_b_foresight r_b_pairs z_67.2 b_fractionTop b_fractionBottom b_marks, [(A_T 0, .inl (cy 4, 4, .inr (.inr (.inr (.inr (trf4 (A_y0 0) (A_y1 0) (A_y2 0) (A_y3 0)))))))], bl_X8 cy A_y0 y0_row y0_missing y0_sort y0_many, bl_X8 cy A_y1 y1_row y1_missing y1_sort y1_many, bl_X8 cy A_y2 y2_row y2_missing y2_sort y2_many, bl_X8 cy A_y3 y3_row y3_missing y3_sort y3_many] H := hP
      obtain ⟨b_68, e_b_68, h⟩ := bi h
      obtain ⟨-, n_b_68, -⟩ := bz_ok e_b_68
      cases h
      subst hW1
      exact W.zret hx hb hr n_b_68 (fun _ ht9 _ => ⟨⟨_, (), rfl, rfl, hPt ht9 hP.1⟩, hS.F ht9⟩) hS.2.2 dX11_write_31
  have h := ie c_58 h
  by_cases c_69 : x1 = 2
  · have h := it c_69 h
    refine roVq (rest := []) ⟨hx, hb, hml, hown, ht⟩ (c_X11_trayAt l D cy fu A_b r_b_army r_b_war r_b_draftArmy r_b_draftWar r_b_reader r_b_armyReader r_b_warReader r_b_markedArmies r_b_markedWars r_b_latest r_b_trial r_b_foresight r_b_pairs b_latestStatus b_fractionTop b_fractionBottom b_marks A_T (trf4 (A_y0 0) (A_y1 0) (A_y2 0) (A_y3 0)) x1 (some (A_y2 0)) (tray_2 c_69)) (cV ht mv_X11_trayAt tb_500 rfl rfl ⟨Nat.le_of_ble_eq_true rfl, Nat.le_of_ble_eq_true rfl⟩) (P_sub hP.1 [0, 1] rfl) hX rfl rfl rfl hl.1 rfl (Nat.le_of_ble_eq_true rfl) dX11_write_2 ⟨Nat.le_of_ble_eq_true rfl, Nat.le_of_ble_eq_true rfl⟩ ?_
    refine lv_astore (lv' := [(5, .ref (A_y2 0)), (0, .ref (A_b 0)), (1, .int x1), (2, .int x2), (3, .long x3)]) hx hb dX11_write_5 hl (by decide) rfl (fun ls hl => ?_)
    refine lv_aload hx hb dX11_write_7 (lv_at hl 0 rfl) ?_
    refine lv_ifnonnull (tgt := 18) hx hb dX11_write_9 (by decide) ?_
    refine lv_aload hx hb dX11_write_18 (lv_at hl 0 rfl) ?_
    refine xget (i := 4) (j := 0) (k := 1) (T := TX8) hx hb ht tb_iX8 hown hX hP.1 rfl rfl rfl (by decide) tb_416 rfl dX11_write_20 ?_
    refine lv_if_eq (tgt := 32) hx hb dX11_write_23 (by decide) (fun c_70 => ?_) (fun c_70 => ?_)
    · have h := it c_70 h
      refine lv_aload hx hb dX11_write_32 (lv_at hl 0 rfl) ?_
      refine lv_iload_n hx hb dX11_write_34 rfl (lv_at hl 3 rfl) ?_
      refine lv_iconst (v := 1) hx hb dX11_write_35 (by decide) ?_
      obtain ⟨z_71, e_z_71, h⟩ := bi h
      refine roVi (rest := []) ⟨hx, hb, hml, hown, ht⟩ (c_X8_hasPlaces l D cy fu A_y2 y2_row y2_missing y2_sort y2_many x2 1 z_71 e_z_71) (cV ht mv_X8_hasPlaces tb_526 rfl rfl ⟨Nat.le_of_ble_eq_true rfl, Nat.le_of_ble_eq_true rfl⟩) (P_sub hP.1 [4] rfl) hX rfl rfl rfl hl.1 rfl (Nat.le_of_ble_eq_true rfl) dX11_write_36 ⟨Nat.le_of_ble_eq_true rfl, Nat.le_of_ble_eq_true rfl⟩ ?_
      refine lv_if_ne (tgt := 48) hx hb dX11_write_39 (by decide) (fun c_72 => ?_) (fun c_72 => ?_)
      · have h := ie c_72 h
        refine lv_aload hx hb dX11_write_48 (lv_at hl 0 rfl) ?_
        refine lv_iload_n hx hb dX11_write_50 rfl (lv_at hl 3 rfl) ?_
        refine lv_lload_n hx hb dX11_write_51 rfl (lv_at hl 4 rfl) ?_
        obtain ⟨z_73, e_z_73, h⟩ := bi h
        refine efVv (rest := []) ⟨hx, hb, hml, hown, ht⟩ (c_X8_put l D cy fu A_y2 y2_row y2_missing y2_sort y2_many x2 x3 z_73 e_z_73 _ rfl _ rfl) (cV ht mv_X8_put tb_530 rfl rfl ⟨Nat.le_of_ble_eq_true rfl, Nat.le_of_ble_eq_true rfl⟩) hP hS hX [4] rfl rfl rfl rfl rfl rfl hl.1 rfl (Nat.le_of_ble_eq_true rfl) dX11_write_52 ⟨Nat.le_of_ble_eq_true rfl, Nat.le_of_ble_eq_true rfl⟩ (fun H locs hP hS => ?_)
        have hP : PD D A [bl_X11 cy A_b (A_T 0) r_b_army r_b_war r_b_draftArmy r_b_draftWar r_b_reader r_b_armyReader r_b_warReader r_b_markedArmies r_b_markedWars r_b_latest r_b_trial r_b_foresight r_b_pairs b_latestStatus b_fractionTop b_fractionBottom b_marks, [(A_T 0, .inl (cy 4, 4, .inr (.inr (.inr (.inr (trf4 (A_y0 0) (A_y1 0) (A_y2 0) (A_y3 0)))))))], bl_X8 cy A_y0 y0_row y0_missing y0_sort y0_many, bl_X8 cy A_y1 y1_row y1_missing y1_sort y1_many, bl_X8 cy A_y2 z_73 y2_missing y2_sort y2_many, bl_X8 cy A_y3 y3_row y3_missing y3_sort y3_many] H := hP
        refine lv_aload_n hx hb dX11_write_55 rfl (lv_at hl 1 rfl) ?_
        obtain ⟨z_74, e_z_74, h⟩ := bi h
        refine efVi (rest := []) ⟨hx, hb, hml, hown, ht⟩ (c_X11_allow l D cy fu A_b (A_T 0) r_b_army r_b_war r_b_draftArmy r_b_draftWar r_b_reader r_b_armyReader r_b_warReader r_b_markedArmies r_b_markedWars r_b_latest r_b_trial r_b_foresight r_b_pairs b_latestStatus b_fractionTop b_fractionBottom b_marks z_74 e_z_74 _ rfl _ rfl) (cV ht mv_X11_allow tb_518 rfl rfl ⟨Nat.le_of_ble_eq_true rfl, Nat.le_of_ble_eq_true rfl⟩) hP hS hX [0] rfl rfl rfl rfl rfl rfl hl.1 rfl (Nat.le_of_ble_eq_true rfl) dX11_write_56 ⟨Nat.le_of_ble_eq_true rfl, Nat.le_of_ble_eq_true rfl⟩ (fun H locs hP hS => ?_)
        have hP : PD D A [bl_X11 cy A_b (A_T 0) r_b_army r_b_war r_b_draftArmy r_b_draftWar r_b_reader r_b_armyReader r_b_warReader r_b_markedArmies r_b_markedWars r_b_latest r_b_trial r_b_foresight r_b_pairs z_74.2 b_fractionTop b_fractionBottom b_marks, [(A_T 0, .inl (cy 4, 4, .inr (.inr (.inr (.inr (trf4 (A_y0 0) (A_y1 0) (A_y2 0) (A_y3 0)))))))], bl_X8 cy A_y0 y0_row y0_missing y0_sort y0_many, bl_X8 cy A_y1 y1_row y1_missing y1_sort y1_many, bl_X8 cy A_y2 z_73 y2_missing y2_sort y2_many, bl_X8 cy A_y3 y3_row y3_missing y3_sort y3_many] H := hP
        obtain ⟨b_75, e_b_75, h⟩ := bi h
        obtain ⟨-, n_b_75, -⟩ := bz_ok e_b_75
        cases h
        subst hW1
        exact W.zret hx hb hr n_b_75 (fun _ ht9 _ => ⟨⟨_, (), rfl, rfl, hPt ht9 hP.1⟩, hS.F ht9⟩) hS.2.2 dX11_write_59
      · have h := it c_72 h
        refine lv_aload_n hx hb dX11_write_42 rfl (lv_at hl 1 rfl) ?_
        refine lv_iconst (v := 3) hx hb dX11_write_43 (by decide) ?_
        obtain ⟨z_76, e_z_76, h⟩ := bi h
        refine efVi (rest := []) ⟨hx, hb, hml, hown, ht⟩ (c_X11_deny l D cy fu A_b (A_T 0) r_b_army r_b_war r_b_draftArmy r_b_draftWar r_b_reader r_b_armyReader r_b_warReader r_b_markedArmies r_b_markedWars r_b_latest r_b_trial r_b_foresight r_b_pairs b_latestStatus b_fractionTop b_fractionBottom b_marks 3 z_76 e_z_76 _ rfl _ rfl) (cV ht mv_X11_deny tb_507 rfl rfl ⟨Nat.le_of_ble_eq_true rfl, Nat.le_of_ble_eq_true rfl⟩) hP hS hX [0] rfl rfl rfl rfl rfl rfl hl.1 rfl (Nat.le_of_ble_eq_true rfl) dX11_write_44 ⟨Nat.le_of_ble_eq_true rfl, Nat.le_of_ble_eq_true rfl⟩ (fun H locs hP hS => ?_)
        have hP : PD D A [bl_X11 cy A_b (A_T 0) r_b_army r_b_war r_b_draftArmy r_b_draftWar r_b_reader r_b_armyReader r_b_warReader r_b_markedArmies r_b_markedWars r_b_latest r_b_trial r_b_foresight r_b_pairs z_76.2 b_fractionTop b_fractionBottom b_marks, [(A_T 0, .inl (cy 4, 4, .inr (.inr (.inr (.inr (trf4 (A_y0 0) (A_y1 0) (A_y2 0) (A_y3 0)))))))], bl_X8 cy A_y0 y0_row y0_missing y0_sort y0_many, bl_X8 cy A_y1 y1_row y1_missing y1_sort y1_many, bl_X8 cy A_y2 y2_row y2_missing y2_sort y2_many, bl_X8 cy A_y3 y3_row y3_missing y3_sort y3_many] H := hP
        obtain ⟨b_77, e_b_77, h⟩ := bi h
        obtain ⟨-, n_b_77, -⟩ := bz_ok e_b_77
        cases h
        subst hW1
        exact W.zret hx hb hr n_b_77 (fun _ ht9 _ => ⟨⟨_, (), rfl, rfl, hPt ht9 hP.1⟩, hS.F ht9⟩) hS.2.2 dX11_write_47
    · have h := ie c_70 h
      refine lv_aload_n hx hb dX11_write_26 rfl (lv_at hl 1 rfl) ?_
      refine lv_iconst (v := 2) hx hb dX11_write_27 (by decide) ?_
      obtain ⟨z_78, e_z_78, h⟩ := bi h
      refine efVi (rest := []) ⟨hx, hb, hml, hown, ht⟩ (c_X11_deny l D cy fu A_b (A_T 0) r_b_army r_b_war r_b_draftArmy r_b_draftWar r_b_reader r_b_armyReader r_b_warReader r_b_markedArmies r_b_markedWars r_b_latest r_b_trial r_b_foresight r_b_pairs b_latestStatus b_fractionTop b_fractionBottom b_marks 2 z_78 e_z_78 _ rfl _ rfl) (cV ht mv_X11_deny tb_507 rfl rfl ⟨Nat.le_of_ble_eq_true rfl, Nat.le_of_ble_eq_true rfl⟩) hP hS hX [0] rfl rfl rfl rfl rfl rfl hl.1 rfl (Nat.le_of_ble_eq_true rfl) dX11_write_28 ⟨Nat.le_of_ble_eq_true rfl, Nat.le_of_ble_eq_true rfl⟩ (fun H locs hP hS => ?_)
      have hP : PD D A [bl_X11 cy A_b (A_T 0) r_b_army r_b_war r_b_draftArmy r_b_draftWar r_b_reader r_b_armyReader r_b_warReader r_b_markedArmies r_b_markedWars r_b_latest r_b_trial r_b_foresight r_b_pairs z_78.2 b_fractionTop b_fractionBottom b_marks, [(A_T 0, .inl (cy 4, 4, .inr (.inr (.inr (.inr (trf4 (A_y0 0) (A_y1 0) (A_y2 0) (A_y3 0)))))))], bl_X8 cy A_y0 y0_row y0_missing y0_sort y0_many, bl_X8 cy A_y1 y1_row y1_missing y1_sort y1_many, bl_X8 cy A_y2 y2_row y2_missing y2_sort y2_many, bl_X8 cy A_y3 y3_row y3_missing y3_sort y3_many] H := hP
      obtain ⟨b_79, e_b_79, h⟩ := bi h
      obtain ⟨-, n_b_79, -⟩ := bz_ok e_b_79
      cases h
      subst hW1
      exact W.zret hx hb hr n_b_79 (fun _ ht9 _ => ⟨⟨_, (), rfl, rfl, hPt ht9 hP.1⟩, hS.F ht9⟩) hS.2.2 dX11_write_31
  have h := ie c_69 h
  by_cases c_80 : x1 = 3
  · have h := it c_80 h
    refine roVq (rest := []) ⟨hx, hb, hml, hown, ht⟩ (c_X11_trayAt l D cy fu A_b r_b_army r_b_war r_b_draftArmy r_b_draftWar r_b_reader r_b_armyReader r_b_warReader r_b_markedArmies r_b_markedWars r_b_latest r_b_trial r_b_foresight r_b_pairs b_latestStatus b_fractionTop b_fractionBottom b_marks A_T (trf4 (A_y0 0) (A_y1 0) (A_y2 0) (A_y3 0)) x1 (some (A_y3 0)) (tray_3 c_80)) (cV ht mv_X11_trayAt tb_500 rfl rfl ⟨Nat.le_of_ble_eq_true rfl, Nat.le_of_ble_eq_true rfl⟩) (P_sub hP.1 [0, 1] rfl) hX rfl rfl rfl hl.1 rfl (Nat.le_of_ble_eq_true rfl) dX11_write_2 ⟨Nat.le_of_ble_eq_true rfl, Nat.le_of_ble_eq_true rfl⟩ ?_
    refine lv_astore (lv' := [(5, .ref (A_y3 0)), (0, .ref (A_b 0)), (1, .int x1), (2, .int x2), (3, .long x3)]) hx hb dX11_write_5 hl (by decide) rfl (fun ls hl => ?_)
    refine lv_aload hx hb dX11_write_7 (lv_at hl 0 rfl) ?_
    refine lv_ifnonnull (tgt := 18) hx hb dX11_write_9 (by decide) ?_
    refine lv_aload hx hb dX11_write_18 (lv_at hl 0 rfl) ?_
    refine xget (i := 5) (j := 0) (k := 1) (T := TX8) hx hb ht tb_iX8 hown hX hP.1 rfl rfl rfl (by decide) tb_416 rfl dX11_write_20 ?_
    refine lv_if_eq (tgt := 32) hx hb dX11_write_23 (by decide) (fun c_81 => ?_) (fun c_81 => ?_)
    · have h := it c_81 h
      refine lv_aload hx hb dX11_write_32 (lv_at hl 0 rfl) ?_
      refine lv_iload_n hx hb dX11_write_34 rfl (lv_at hl 3 rfl) ?_
      refine lv_iconst (v := 1) hx hb dX11_write_35 (by decide) ?_
      obtain ⟨z_82, e_z_82, h⟩ := bi h
      refine roVi (rest := []) ⟨hx, hb, hml, hown, ht⟩ (c_X8_hasPlaces l D cy fu A_y3 y3_row y3_missing y3_sort y3_many x2 1 z_82 e_z_82) (cV ht mv_X8_hasPlaces tb_526 rfl rfl ⟨Nat.le_of_ble_eq_true rfl, Nat.le_of_ble_eq_true rfl⟩) (P_sub hP.1 [5] rfl) hX rfl rfl rfl hl.1 rfl (Nat.le_of_ble_eq_true rfl) dX11_write_36 ⟨Nat.le_of_ble_eq_true rfl, Nat.le_of_ble_eq_true rfl⟩ ?_
      refine lv_if_ne (tgt := 48) hx hb dX11_write_39 (by decide) (fun c_83 => ?_) (fun c_83 => ?_)
      · have h := ie c_83 h
        refine lv_aload hx hb dX11_write_48 (lv_at hl 0 rfl) ?_
        refine lv_iload_n hx hb dX11_write_50 rfl (lv_at hl 3 rfl) ?_
        refine lv_lload_n hx hb dX11_write_51 rfl (lv_at hl 4 rfl) ?_
        obtain ⟨z_84, e_z_84, h⟩ := bi h
        refine efVv (rest := []) ⟨hx, hb, hml, hown, ht⟩ (c_X8_put l D cy fu A_y3 y3_row y3_missing y3_sort y3_many x2 x3 z_84 e_z_84 _ rfl _ rfl) (cV ht mv_X8_put tb_530 rfl rfl ⟨Nat.le_of_ble_eq_true rfl, Nat.le_of_ble_eq_true rfl⟩) hP hS hX [5] rfl rfl rfl rfl rfl rfl hl.1 rfl (Nat.le_of_ble_eq_true rfl) dX11_write_52 ⟨Nat.le_of_ble_eq_true rfl, Nat.le_of_ble_eq_true rfl⟩ (fun H locs hP hS => ?_)
        have hP : PD D A [bl_X11 cy A_b (A_T 0) r_b_army r_b_war r_b_draftArmy r_b_draftWar r_b_reader r_b_armyReader r_b_warReader r_b_markedArmies r_b_markedWars r_b_latest r_b_trial r_b_foresight r_b_pairs b_latestStatus b_fractionTop b_fractionBottom b_marks, [(A_T 0, .inl (cy 4, 4, .inr (.inr (.inr (.inr (trf4 (A_y0 0) (A_y1 0) (A_y2 0) (A_y3 0)))))))], bl_X8 cy A_y0 y0_row y0_missing y0_sort y0_many, bl_X8 cy A_y1 y1_row y1_missing y1_sort y1_many, bl_X8 cy A_y2 y2_row y2_missing y2_sort y2_many, bl_X8 cy A_y3 z_84 y3_missing y3_sort y3_many] H := hP
        refine lv_aload_n hx hb dX11_write_55 rfl (lv_at hl 1 rfl) ?_
        obtain ⟨z_85, e_z_85, h⟩ := bi h
        refine efVi (rest := []) ⟨hx, hb, hml, hown, ht⟩ (c_X11_allow l D cy fu A_b (A_T 0) r_b_army r_b_war r_b_draftArmy r_b_draftWar r_b_reader r_b_armyReader r_b_warReader r_b_markedArmies r_b_markedWars r_b_latest r_b_trial r_b_foresight r_b_pairs b_latestStatus b_fractionTop b_fractionBottom b_marks z_85 e_z_85 _ rfl _ rfl) (cV ht mv_X11_allow tb_518 rfl rfl ⟨Nat.le_of_ble_eq_true rfl, Nat.le_of_ble_eq_true rfl⟩) hP hS hX [0] rfl rfl rfl rfl rfl rfl hl.1 rfl (Nat.le_of_ble_eq_true rfl) dX11_write_56 ⟨Nat.le_of_ble_eq_true rfl, Nat.le_of_ble_eq_true rfl⟩ (fun H locs hP hS => ?_)
        have hP : PD D A [bl_X11 cy A_b (A_T 0) r_b_army r_b_war r_b_draftArmy r_b_draftWar r_b_reader r_b_armyReader r_b_warReader r_b_markedArmies r_b_markedWars r_b_latest r_b_trial r_b_foresight r_b_pairs z_85.2 b_fractionTop b_fractionBottom b_marks, [(A_T 0, .inl (cy 4, 4, .inr (.inr (.inr (.inr (trf4 (A_y0 0) (A_y1 0) (A_y2 0) (A_y3 0)))))))], bl_X8 cy A_y0 y0_row y0_missing y0_sort y0_many, bl_X8 cy A_y1 y1_row y1_missing y1_sort y1_many, bl_X8 cy A_y2 y2_row y2_missing y2_sort y2_many, bl_X8 cy A_y3 z_84 y3_missing y3_sort y3_many] H := hP
        obtain ⟨b_86, e_b_86, h⟩ := bi h
        obtain ⟨-, n_b_86, -⟩ := bz_ok e_b_86
        cases h
        subst hW1
        exact W.zret hx hb hr n_b_86 (fun _ ht9 _ => ⟨⟨_, (), rfl, rfl, hPt ht9 hP.1⟩, hS.F ht9⟩) hS.2.2 dX11_write_59
      · have h := it c_83 h
        refine lv_aload_n hx hb dX11_write_42 rfl (lv_at hl 1 rfl) ?_
        refine lv_iconst (v := 3) hx hb dX11_write_43 (by decide) ?_
        obtain ⟨z_87, e_z_87, h⟩ := bi h
        refine efVi (rest := []) ⟨hx, hb, hml, hown, ht⟩ (c_X11_deny l D cy fu A_b (A_T 0) r_b_army r_b_war r_b_draftArmy r_b_draftWar r_b_reader r_b_armyReader r_b_warReader r_b_markedArmies r_b_markedWars r_b_latest r_b_trial r_b_foresight r_b_pairs b_latestStatus b_fractionTop b_fractionBottom b_marks 3 z_87 e_z_87 _ rfl _ rfl) (cV ht mv_X11_deny tb_507 rfl rfl ⟨Nat.le_of_ble_eq_true rfl, Nat.le_of_ble_eq_true rfl⟩) hP hS hX [0] rfl rfl rfl rfl rfl rfl hl.1 rfl (Nat.le_of_ble_eq_true rfl) dX11_write_44 ⟨Nat.le_of_ble_eq_true rfl, Nat.le_of_ble_eq_true rfl⟩ (fun H locs hP hS => ?_)
        have hP : PD D A [bl_X11 cy A_b (A_T 0) r_b_army r_b_war r_b_draftArmy r_b_draftWar r_b_reader r_b_armyReader r_b_warReader r_b_markedArmies r_b_markedWars r_b_latest r_b_trial r_b_foresight r_b_pairs z_87.2 b_fractionTop b_fractionBottom b_marks, [(A_T 0, .inl (cy 4, 4, .inr (.inr (.inr (.inr (trf4 (A_y0 0) (A_y1 0) (A_y2 0) (A_y3 0)))))))], bl_X8 cy A_y0 y0_row y0_missing y0_sort y0_many, bl_X8 cy A_y1 y1_row y1_missing y1_sort y1_many, bl_X8 cy A_y2 y2_row y2_missing y2_sort y2_many, bl_X8 cy A_y3 y3_row y3_missing y3_sort y3_many] H := hP
        obtain ⟨b_88, e_b_88, h⟩ := bi h
        obtain ⟨-, n_b_88, -⟩ := bz_ok e_b_88
        cases h
        subst hW1
        exact W.zret hx hb hr n_b_88 (fun _ ht9 _ => ⟨⟨_, (), rfl, rfl, hPt ht9 hP.1⟩, hS.F ht9⟩) hS.2.2 dX11_write_47
    · have h := ie c_81 h
      refine lv_aload_n hx hb dX11_write_26 rfl (lv_at hl 1 rfl) ?_
      refine lv_iconst (v := 2) hx hb dX11_write_27 (by decide) ?_
      obtain ⟨z_89, e_z_89, h⟩ := bi h
      refine efVi (rest := []) ⟨hx, hb, hml, hown, ht⟩ (c_X11_deny l D cy fu A_b (A_T 0) r_b_army r_b_war r_b_draftArmy r_b_draftWar r_b_reader r_b_armyReader r_b_warReader r_b_markedArmies r_b_markedWars r_b_latest r_b_trial r_b_foresight r_b_pairs b_latestStatus b_fractionTop b_fractionBottom b_marks 2 z_89 e_z_89 _ rfl _ rfl) (cV ht mv_X11_deny tb_507 rfl rfl ⟨Nat.le_of_ble_eq_true rfl, Nat.le_of_ble_eq_true rfl⟩) hP hS hX [0] rfl rfl rfl rfl rfl rfl hl.1 rfl (Nat.le_of_ble_eq_true rfl) dX11_write_28 ⟨Nat.le_of_ble_eq_true rfl, Nat.le_of_ble_eq_true rfl⟩ (fun H locs hP hS => ?_)
      have hP : PD D A [bl_X11 cy A_b (A_T 0) r_b_army r_b_war r_b_draftArmy r_b_draftWar r_b_reader r_b_armyReader r_b_warReader r_b_markedArmies r_b_markedWars r_b_latest r_b_trial r_b_foresight r_b_pairs z_89.2 b_fractionTop b_fractionBottom b_marks, [(A_T 0, .inl (cy 4, 4, .inr (.inr (.inr (.inr (trf4 (A_y0 0) (A_y1 0) (A_y2 0) (A_y3 0)))))))], bl_X8 cy A_y0 y0_row y0_missing y0_sort y0_many, bl_X8 cy A_y1 y1_row y1_missing y1_sort y1_many, bl_X8 cy A_y2 y2_row y2_missing y2_sort y2_many, bl_X8 cy A_y3 y3_row y3_missing y3_sort y3_many] H := hP
      obtain ⟨b_90, e_b_90, h⟩ := bi h
      obtain ⟨-, n_b_90, -⟩ := bz_ok e_b_90
      cases h
      subst hW1
      exact W.zret hx hb hr n_b_90 (fun _ ht9 _ => ⟨⟨_, (), rfl, rfl, hPt ht9 hP.1⟩, hS.F ht9⟩) hS.2.2 dX11_write_31
  have h := ie c_80 h
  refine roVq (rest := []) ⟨hx, hb, hml, hown, ht⟩ (c_X11_trayAt l D cy fu A_b r_b_army r_b_war r_b_draftArmy r_b_draftWar r_b_reader r_b_armyReader r_b_warReader r_b_markedArmies r_b_markedWars r_b_latest r_b_trial r_b_foresight r_b_pairs b_latestStatus b_fractionTop b_fractionBottom b_marks A_T (trf4 (A_y0 0) (A_y1 0) (A_y2 0) (A_y3 0)) x1 (none) (tray_out ⟨c_47, c_58, c_69, c_80⟩)) (cV ht mv_X11_trayAt tb_500 rfl rfl ⟨Nat.le_of_ble_eq_true rfl, Nat.le_of_ble_eq_true rfl⟩) (P_sub hP.1 [0, 1] rfl) hX rfl rfl rfl hl.1 rfl (Nat.le_of_ble_eq_true rfl) dX11_write_2 ⟨Nat.le_of_ble_eq_true rfl, Nat.le_of_ble_eq_true rfl⟩ ?_
  refine lv_astoreN (lv' := [(5, .null), (0, .ref (A_b 0)), (1, .int x1), (2, .int x2), (3, .long x3)]) hx hb dX11_write_5 hl (by decide) rfl (fun ls hl => ?_)
  refine lv_aloadN hx hb dX11_write_7 (lv_at hl 0 rfl) ?_
  refine lv_ifnonnullN hx hb dX11_write_9 ?_
  refine lv_aload_n hx hb dX11_write_12 rfl (lv_at hl 1 rfl) ?_
  refine lv_iconst (v := 1) hx hb dX11_write_13 (by decide) ?_
  obtain ⟨z_91, e_z_91, h⟩ := bi h
  refine efVi (rest := []) ⟨hx, hb, hml, hown, ht⟩ (c_X11_deny l D cy fu A_b (A_T 0) r_b_army r_b_war r_b_draftArmy r_b_draftWar r_b_reader r_b_armyReader r_b_warReader r_b_markedArmies r_b_markedWars r_b_latest r_b_trial r_b_foresight r_b_pairs b_latestStatus b_fractionTop b_fractionBottom b_marks 1 z_91 e_z_91 _ rfl _ rfl) (cV ht mv_X11_deny tb_507 rfl rfl ⟨Nat.le_of_ble_eq_true rfl, Nat.le_of_ble_eq_true rfl⟩) hP hS hX [0] rfl rfl rfl rfl rfl rfl hl.1 rfl (Nat.le_of_ble_eq_true rfl) dX11_write_14 ⟨Nat.le_of_ble_eq_true rfl, Nat.le_of_ble_eq_true rfl⟩ (fun H locs hP hS => ?_)
  have hP : PD D A [bl_X11 cy A_b (A_T 0) r_b_army r_b_war r_b_draftArmy r_b_draftWar r_b_reader r_b_armyReader r_b_warReader r_b_markedArmies r_b_markedWars r_b_latest r_b_trial r_b_foresight r_b_pairs z_91.2 b_fractionTop b_fractionBottom b_marks, [(A_T 0, .inl (cy 4, 4, .inr (.inr (.inr (.inr (trf4 (A_y0 0) (A_y1 0) (A_y2 0) (A_y3 0)))))))], bl_X8 cy A_y0 y0_row y0_missing y0_sort y0_many, bl_X8 cy A_y1 y1_row y1_missing y1_sort y1_many, bl_X8 cy A_y2 y2_row y2_missing y2_sort y2_many, bl_X8 cy A_y3 y3_row y3_missing y3_sort y3_many] H := hP
  obtain ⟨b_92, e_b_92, h⟩ := bi h
  obtain ⟨-, n_b_92, -⟩ := bz_ok e_b_92
  cases h
  subst hW1
  exact W.zret hx hb hr n_b_92 (fun _ ht9 _ => ⟨⟨_, (), rfl, rfl, hPt ht9 hP.1⟩, hS.F ht9⟩) hS.2.2 dX11_write_17
theorem dX11_refuse_0 : decode cX11_refuse 0 = .ok (.aload_n 0, 1) := by decide +kernel
theorem dX11_refuse_1 : decode cX11_refuse 1 = .ok (.iload_n 1, 1) := by decide +kernel
theorem dX11_refuse_2 : decode cX11_refuse 2 = .ok (.putfield 9, 3) := by decide +kernel
theorem dX11_refuse_5 : decode cX11_refuse 5 = .ok (.iconst (-1), 1) := by decide +kernel
theorem dX11_refuse_6 : decode cX11_refuse 6 = .ok (.ireturn, 1) := by decide +kernel
theorem mv_X11_refuse : MV yX11_refuse RX11 cX11_refuse 2 (some .int) 1 := ⟨tb_546, tb_545, ts_4, tb_1, by decide +kernel, by decide +kernel, by decide +kernel⟩
def f_X11_refuse (fu : Nat) (b_latestStatus : Int32) (x1 : Int32) : Option (Int32 × Int32) := some ((-1), x1)
abbrev rm_X11_refuse : Room := { frames := 0, cells := 0, slots := 0, locals := 0 }
set_option maxHeartbeats 4000000 in
set_option maxRecDepth 100000 in
theorem c_X11_refuse (l : Launch) (D : va_G) (cy : Nat → ClassId) (fu : Nat) (A_b : Nat → Nat) (r_b_trays : Nat) (r_b_army : Nat) (r_b_war : Nat) (r_b_draftArmy : Nat) (r_b_draftWar : Nat) (r_b_reader : Nat) (r_b_armyReader : Nat) (r_b_warReader : Nat) (r_b_markedArmies : Nat) (r_b_markedWars : Nat) (r_b_latest : Nat) (r_b_trial : Nat) (r_b_foresight : Nat) (r_b_pairs : Nat) (b_latestStatus : Int32) (b_fractionTop : Int64) (b_fractionBottom : Int64) (b_marks : Int32) (x1 : Int32) (res : Int32 × Int32) (h : f_X11_refuse fu b_latestStatus x1 = some res) (A : Nat → Prop) (hA : A = adr [bl_X11 cy A_b r_b_trays r_b_army r_b_war r_b_draftArmy r_b_draftWar r_b_reader r_b_armyReader r_b_warReader r_b_markedArmies r_b_markedWars r_b_latest r_b_trial r_b_foresight r_b_pairs b_latestStatus b_fractionTop b_fractionBottom b_marks]) (W1 : List va_W) (hW1 : W1 = [bl_X11 cy A_b r_b_trays r_b_army r_b_war r_b_draftArmy r_b_draftWar r_b_reader r_b_armyReader r_b_warReader r_b_markedArmies r_b_markedWars r_b_latest r_b_trial r_b_foresight r_b_pairs res.2 b_fractionTop b_fractionBottom b_marks]) : Met l yX11_refuse (WW yX11_refuse cX11_refuse 2 (some .int)) rm_X11_refuse (Ed D cy [.ref (A_b 0), .int x1] [bl_X11 cy A_b r_b_trays r_b_army r_b_war r_b_draftArmy r_b_draftWar r_b_reader r_b_armyReader r_b_warReader r_b_markedArmies r_b_markedWars r_b_latest r_b_trial r_b_foresight r_b_pairs b_latestStatus b_fractionTop b_fractionBottom b_marks]) (Qei D res.1 A W1) 0 0 A := by
  refine Met.ofW (cc := cX11_refuse) (maxL := 2) (ret := (some .int)) (by decide) rfl ?_
  intro p e s m args below meth c s₁ B hml hv
  obtain ⟨hargs, hP, hX, hD0⟩ := hv
  have hx := B.exec
  have hb := B.bytes
  have hr := B.returns
  have ht : ∀ w ∈ lw_gd, w.before args s = true := fun w hw => atoms_spec (ws := WW yX11_refuse cX11_refuse 2 (some .int)) B.pre w (List.mem_cons_of_mem _ hw)
  have hown : s.vm.findClass RX11 = some m.cls := findClass_of_methodNamed B.named
  have hlocks := B.notSynchronized
  have hP : PD D A [bl_X11 cy A_b r_b_trays r_b_army r_b_war r_b_draftArmy r_b_draftWar r_b_reader r_b_armyReader r_b_warReader r_b_markedArmies r_b_markedWars r_b_latest r_b_trial r_b_foresight r_b_pairs b_latestStatus b_fractionTop b_fractionBottom b_marks] s.heap := ⟨hP, by rw [hA]; exact hD0.own⟩
  have hS : va_S A s.heap s.heap [] := va_S.rf
  obtain ⟨ls, hl, hent⟩ := ent (m := m) (n := 2) hargs (Nat.le_of_ble_eq_true rfl) (lv := [(0, .ref (A_b 0)), (1, .int x1)]) rfl
  rw [hent]
  clear hent
  unfold f_X11_refuse at h
  refine lv_aload_n hx hb dX11_refuse_0 rfl (lv_at hl 0 rfl) ?_
  refine lv_iload_n hx hb dX11_refuse_1 rfl (lv_at hl 1 rfl) ?_
  refine xput (i := 0) (j := 0) (k := 0) (T := TX11) tyX11 tyX11_ok nmX11 hx hb ht tb_iX11 hown hX hP hS rfl rfl rfl (by decide) tb_429 rfl rfl rfl (Nat.le_of_ble_eq_true rfl) dX11_refuse_2 (fun H locs hP hS => ?_)
  have hP : PD D A [bl_X11 cy A_b r_b_trays r_b_army r_b_war r_b_draftArmy r_b_draftWar r_b_reader r_b_armyReader r_b_warReader r_b_markedArmies r_b_markedWars r_b_latest r_b_trial r_b_foresight r_b_pairs x1 b_fractionTop b_fractionBottom b_marks] H := hP
  refine lv_iconst (v := (-1)) hx hb dX11_refuse_5 (by decide) ?_
  cases h
  subst hW1
  exact W.iret hx hb hr (fun _ ht9 _ => ⟨⟨_, (), rfl, rfl, hPt ht9 hP.1⟩, hS.F ht9⟩) hS.2.2 dX11_refuse_6
theorem dX11_read_0 : decode cX11_read 0 = .ok (.aload_n 0, 1) := by decide +kernel
theorem dX11_read_1 : decode cX11_read 1 = .ok (.iload_n 1, 1) := by decide +kernel
theorem dX11_read_2 : decode cX11_read 2 = .ok (.invokevirtual 111, 3) := by decide +kernel
theorem dX11_read_5 : decode cX11_read 5 = .ok (.astore_n 3, 1) := by decide +kernel
theorem dX11_read_6 : decode cX11_read 6 = .ok (.aload_n 3, 1) := by decide +kernel
theorem dX11_read_7 : decode cX11_read 7 = .ok (.ifnonnull 10, 3) := by decide +kernel
theorem dX11_read_10 : decode cX11_read 10 = .ok (.aload_n 0, 1) := by decide +kernel
theorem dX11_read_11 : decode cX11_read 11 = .ok (.iconst 1, 1) := by decide +kernel
theorem dX11_read_12 : decode cX11_read 12 = .ok (.invokevirtual 143, 3) := by decide +kernel
theorem dX11_read_15 : decode cX11_read 15 = .ok (.i2l, 1) := by decide +kernel
theorem dX11_read_16 : decode cX11_read 16 = .ok (.lreturn, 1) := by decide +kernel
theorem dX11_read_17 : decode cX11_read 17 = .ok (.aload_n 3, 1) := by decide +kernel
theorem dX11_read_18 : decode cX11_read 18 = .ok (.getfield 131, 3) := by decide +kernel
theorem dX11_read_21 : decode cX11_read 21 = .ok (.ifCond .eq 10, 3) := by decide +kernel
theorem dX11_read_24 : decode cX11_read 24 = .ok (.aload_n 0, 1) := by decide +kernel
theorem dX11_read_25 : decode cX11_read 25 = .ok (.iconst 2, 1) := by decide +kernel
theorem dX11_read_26 : decode cX11_read 26 = .ok (.invokevirtual 143, 3) := by decide +kernel
theorem dX11_read_29 : decode cX11_read 29 = .ok (.i2l, 1) := by decide +kernel
theorem dX11_read_30 : decode cX11_read 30 = .ok (.lreturn, 1) := by decide +kernel
theorem dX11_read_31 : decode cX11_read 31 = .ok (.aload_n 3, 1) := by decide +kernel
theorem dX11_read_32 : decode cX11_read 32 = .ok (.iload_n 2, 1) := by decide +kernel
theorem dX11_read_33 : decode cX11_read 33 = .ok (.iconst 1, 1) := by decide +kernel
theorem dX11_read_34 : decode cX11_read 34 = .ok (.invokevirtual 135, 3) := by decide +kernel
theorem dX11_read_37 : decode cX11_read 37 = .ok (.ifCond .ne 10, 3) := by decide +kernel
theorem dX11_read_40 : decode cX11_read 40 = .ok (.aload_n 0, 1) := by decide +kernel
theorem dX11_read_41 : decode cX11_read 41 = .ok (.iconst 3, 1) := by decide +kernel
theorem dX11_read_42 : decode cX11_read 42 = .ok (.invokevirtual 143, 3) := by decide +kernel
theorem dX11_read_45 : decode cX11_read 45 = .ok (.i2l, 1) := by decide +kernel
theorem dX11_read_46 : decode cX11_read 46 = .ok (.lreturn, 1) := by decide +kernel
theorem dX11_read_47 : decode cX11_read 47 = .ok (.aload_n 0, 1) := by decide +kernel
theorem dX11_read_48 : decode cX11_read 48 = .ok (.iconst 0, 1) := by decide +kernel
theorem dX11_read_49 : decode cX11_read 49 = .ok (.putfield 9, 3) := by decide +kernel
theorem dX11_read_52 : decode cX11_read 52 = .ok (.aload_n 3, 1) := by decide +kernel
theorem dX11_read_53 : decode cX11_read 53 = .ok (.iload_n 2, 1) := by decide +kernel
theorem dX11_read_54 : decode cX11_read 54 = .ok (.invokevirtual 147, 3) := by decide +kernel
theorem dX11_read_57 : decode cX11_read 57 = .ok (.lreturn, 1) := by decide +kernel
theorem mv_X11_read : MV yX11_read RX11 cX11_read 4 (some .long) 2 := ⟨tb_542, tb_540, tb_541, tb_1, by decide +kernel, by decide +kernel, by decide +kernel⟩
def f_X11_read (fu : Nat) (b_latestStatus : Int32) (y0_row : Nat → Int64) (y0_missing : Int32) (y0_many : Int32) (y1_row : Nat → Int64) (y1_missing : Int32) (y1_many : Int32) (y2_row : Nat → Int64) (y2_missing : Int32) (y2_many : Int32) (y3_row : Nat → Int64) (y3_missing : Int32) (y3_many : Int32) (x1 : Int32) (x2 : Int32) : Option (Int64 × Int32) := (if x1 = 0 then (if y0_missing = 0 then (f_X8_hasPlaces fu y0_many x2 1).bind fun z_32 => (if z_32 = 0 then (f_X11_refuse fu b_latestStatus 3).bind fun z_35 => some (Int32.toInt64 z_35.1, z_35.2) else (f_X8_at fu y0_row y0_many x2).bind fun z_34 => some (z_34, 0)) else (f_X11_refuse fu b_latestStatus 2).bind fun z_36 => some (Int32.toInt64 z_36.1, z_36.2)) else (if x1 = 1 then (if y1_missing = 0 then (f_X8_hasPlaces fu y1_many x2 1).bind fun z_39 => (if z_39 = 0 then (f_X11_refuse fu b_latestStatus 3).bind fun z_42 => some (Int32.toInt64 z_42.1, z_42.2) else (f_X8_at fu y1_row y1_many x2).bind fun z_41 => some (z_41, 0)) else (f_X11_refuse fu b_latestStatus 2).bind fun z_43 => some (Int32.toInt64 z_43.1, z_43.2)) else (if x1 = 2 then (if y2_missing = 0 then (f_X8_hasPlaces fu y2_many x2 1).bind fun z_46 => (if z_46 = 0 then (f_X11_refuse fu b_latestStatus 3).bind fun z_49 => some (Int32.toInt64 z_49.1, z_49.2) else (f_X8_at fu y2_row y2_many x2).bind fun z_48 => some (z_48, 0)) else (f_X11_refuse fu b_latestStatus 2).bind fun z_50 => some (Int32.toInt64 z_50.1, z_50.2)) else (if x1 = 3 then (if y3_missing = 0 then (f_X8_hasPlaces fu y3_many x2 1).bind fun z_53 => (if z_53 = 0 then (f_X11_refuse fu b_latestStatus 3).bind fun z_56 => some (Int32.toInt64 z_56.1, z_56.2) else (f_X8_at fu y3_row y3_many x2).bind fun z_55 => some (z_55, 0)) else (f_X11_refuse fu b_latestStatus 2).bind fun z_57 => some (Int32.toInt64 z_57.1, z_57.2)) else (f_X11_refuse fu b_latestStatus 1).bind fun z_58 => some (Int32.toInt64 z_58.1, z_58.2)))))
abbrev rm_X11_read : Room := { frames := 2, cells := 0, slots := 0, locals := 43 }
set_option maxHeartbeats 4000000 in
set_option maxRecDepth 100000 in
theorem c_X11_read (l : Launch) (D : va_G) (cy : Nat → ClassId) (fu : Nat) (A_b : Nat → Nat) (r_b_army : Nat) (r_b_war : Nat) (r_b_draftArmy : Nat) (r_b_draftWar : Nat) (r_b_reader : Nat) (r_b_armyReader : Nat) (r_b_warReader : Nat) (r_b_markedArmies : Nat) (r_b_markedWars : Nat) (r_b_latest : Nat) (r_b_trial : Nat) (r_b_foresight : Nat) (r_b_pairs : Nat) (b_latestStatus : Int32) (b_fractionTop : Int64) (b_fractionBottom : Int64) (b_marks : Int32) (A_T : Nat → Nat) (A_y0 : Nat → Nat) (y0_row : Nat → Int64) (y0_missing : Int32) (y0_sort : Int32) (y0_many : Int32) (A_y1 : Nat → Nat) (y1_row : Nat → Int64) (y1_missing : Int32) (y1_sort : Int32) (y1_many : Int32) (A_y2 : Nat → Nat) (y2_row : Nat → Int64) (y2_missing : Int32) (y2_sort : Int32) (y2_many : Int32) (A_y3 : Nat → Nat) (y3_row : Nat → Int64) (y3_missing : Int32) (y3_sort : Int32) (y3_many : Int32) (x1 : Int32) (x2 : Int32) (res : Int64 × Int32) (h : f_X11_read fu b_latestStatus y0_row y0_missing y0_many y1_row y1_missing y1_many y2_row y2_missing y2_many y3_row y3_missing y3_many x1 x2 = some res) (A : Nat → Prop) (hA : A = adr [bl_X11 cy A_b (A_T 0) r_b_army r_b_war r_b_draftArmy r_b_draftWar r_b_reader r_b_armyReader r_b_warReader r_b_markedArmies r_b_markedWars r_b_latest r_b_trial r_b_foresight r_b_pairs b_latestStatus b_fractionTop b_fractionBottom b_marks, [(A_T 0, .inl (cy 4, 4, .inr (.inr (.inr (.inr (trf4 (A_y0 0) (A_y1 0) (A_y2 0) (A_y3 0)))))))], bl_X8 cy A_y0 y0_row y0_missing y0_sort y0_many, bl_X8 cy A_y1 y1_row y1_missing y1_sort y1_many, bl_X8 cy A_y2 y2_row y2_missing y2_sort y2_many, bl_X8 cy A_y3 y3_row y3_missing y3_sort y3_many]) (W1 : List va_W) (hW1 : W1 = [bl_X11 cy A_b (A_T 0) r_b_army r_b_war r_b_draftArmy r_b_draftWar r_b_reader r_b_armyReader r_b_warReader r_b_markedArmies r_b_markedWars r_b_latest r_b_trial r_b_foresight r_b_pairs res.2 b_fractionTop b_fractionBottom b_marks, [(A_T 0, .inl (cy 4, 4, .inr (.inr (.inr (.inr (trf4 (A_y0 0) (A_y1 0) (A_y2 0) (A_y3 0)))))))], bl_X8 cy A_y0 y0_row y0_missing y0_sort y0_many, bl_X8 cy A_y1 y1_row y1_missing y1_sort y1_many, bl_X8 cy A_y2 y2_row y2_missing y2_sort y2_many, bl_X8 cy A_y3 y3_row y3_missing y3_sort y3_many]) : Met l yX11_read (WW yX11_read cX11_read 4 (some .long)) rm_X11_read (Ed D cy [.ref (A_b 0), .int x1, .int x2] [bl_X11 cy A_b (A_T 0) r_b_army r_b_war r_b_draftArmy r_b_draftWar r_b_reader r_b_armyReader r_b_warReader r_b_markedArmies r_b_markedWars r_b_latest r_b_trial r_b_foresight r_b_pairs b_latestStatus b_fractionTop b_fractionBottom b_marks, [(A_T 0, .inl (cy 4, 4, .inr (.inr (.inr (.inr (trf4 (A_y0 0) (A_y1 0) (A_y2 0) (A_y3 0)))))))], bl_X8 cy A_y0 y0_row y0_missing y0_sort y0_many, bl_X8 cy A_y1 y1_row y1_missing y1_sort y1_many, bl_X8 cy A_y2 y2_row y2_missing y2_sort y2_many, bl_X8 cy A_y3 y3_row y3_missing y3_sort y3_many]) (Qel D res.1 A W1) 0 0 A := by
  refine Met.ofW (cc := cX11_read) (maxL := 4) (ret := (some .long)) (by decide) rfl ?_
  intro p e s m args below meth c s₁ B hml hv
  obtain ⟨hargs, hP, hX, hD0⟩ := hv
  have hx := B.exec
  have hb := B.bytes
  have hr := B.returns
  have ht : ∀ w ∈ lw_gd, w.before args s = true := fun w hw => atoms_spec (ws := WW yX11_read cX11_read 4 (some .long)) B.pre w (List.mem_cons_of_mem _ hw)
  have hown : s.vm.findClass RX11 = some m.cls := findClass_of_methodNamed B.named
  have hlocks := B.notSynchronized
  have hP : PD D A [bl_X11 cy A_b (A_T 0) r_b_army r_b_war r_b_draftArmy r_b_draftWar r_b_reader r_b_armyReader r_b_warReader r_b_markedArmies r_b_markedWars r_b_latest r_b_trial r_b_foresight r_b_pairs b_latestStatus b_fractionTop b_fractionBottom b_marks, [(A_T 0, .inl (cy 4, 4, .inr (.inr (.inr (.inr (trf4 (A_y0 0) (A_y1 0) (A_y2 0) (A_y3 0)))))))], bl_X8 cy A_y0 y0_row y0_missing y0_sort y0_many, bl_X8 cy A_y1 y1_row y1_missing y1_sort y1_many, bl_X8 cy A_y2 y2_row y2_missing y2_sort y2_many, bl_X8 cy A_y3 y3_row y3_missing y3_sort y3_many] s.heap := ⟨hP, by rw [hA]; exact hD0.own⟩
  have hS : va_S A s.heap s.heap [] := va_S.rf
  obtain ⟨ls, hl, hent⟩ := ent (m := m) (n := 4) hargs (Nat.le_of_ble_eq_true rfl) (lv := [(0, .ref (A_b 0)), (1, .int x1), (2, .int x2)]) rfl
  rw [hent]
  clear hent
  unfold f_X11_read at h
  refine lv_aload_n hx hb dX11_read_0 rfl (lv_at hl 0 rfl) ?_
  refine lv_iload_n hx hb dX11_read_1 rfl (lv_at hl 1 rfl) ?_
  by_cases c_30 : x1 = 0
  · have h := it c_30 h
    refine roVq (rest := []) ⟨hx, hb, hml, hown, ht⟩ (c_X11_trayAt l D cy fu A_b r_b_army r_b_war r_b_draftArmy r_b_draftWar r_b_reader r_b_armyReader r_b_warReader r_b_markedArmies r_b_markedWars r_b_latest r_b_trial r_b_foresight r_b_pairs b_latestStatus b_fractionTop b_fractionBottom b_marks A_T (trf4 (A_y0 0) (A_y1 0) (A_y2 0) (A_y3 0)) x1 (some (A_y0 0)) (tray_0 c_30)) (cV ht mv_X11_trayAt tb_500 rfl rfl ⟨Nat.le_of_ble_eq_true rfl, Nat.le_of_ble_eq_true rfl⟩) (P_sub hP.1 [0, 1] rfl) hX rfl rfl rfl hl.1 rfl (Nat.le_of_ble_eq_true rfl) dX11_read_2 ⟨Nat.le_of_ble_eq_true rfl, Nat.le_of_ble_eq_true rfl⟩ ?_
    refine lv_astore_n (lv' := [(3, .ref (A_y0 0)), (0, .ref (A_b 0)), (1, .int x1), (2, .int x2)]) hx hb dX11_read_5 rfl hl (by decide) rfl (fun ls hl => ?_)
    refine lv_aload_n hx hb dX11_read_6 rfl (lv_at hl 0 rfl) ?_
    refine lv_ifnonnull (tgt := 17) hx hb dX11_read_7 (by decide) ?_
    refine lv_aload_n hx hb dX11_read_17 rfl (lv_at hl 0 rfl) ?_
    refine xget (i := 2) (j := 0) (k := 1) (T := TX8) hx hb ht tb_iX8 hown hX hP.1 rfl rfl rfl (by decide) tb_416 rfl dX11_read_18 ?_
    refine lv_if_eq (tgt := 31) hx hb dX11_read_21 (by decide) (fun c_31 => ?_) (fun c_31 => ?_)
    · have h := it c_31 h
      refine lv_aload_n hx hb dX11_read_31 rfl (lv_at hl 0 rfl) ?_
      refine lv_iload_n hx hb dX11_read_32 rfl (lv_at hl 3 rfl) ?_
      refine lv_iconst (v := 1) hx hb dX11_read_33 (by decide) ?_
      obtain ⟨z_32, e_z_32, h⟩ := bi h
      refine roVi (rest := []) ⟨hx, hb, hml, hown, ht⟩ (c_X8_hasPlaces l D cy fu A_y0 y0_row y0_missing y0_sort y0_many x2 1 z_32 e_z_32) (cV ht mv_X8_hasPlaces tb_526 rfl rfl ⟨Nat.le_of_ble_eq_true rfl, Nat.le_of_ble_eq_true rfl⟩) (P_sub hP.1 [2] rfl) hX rfl rfl rfl hl.1 rfl (Nat.le_of_ble_eq_true rfl) dX11_read_34 ⟨Nat.le_of_ble_eq_true rfl, Nat.le_of_ble_eq_true rfl⟩ ?_
      refine lv_if_ne (tgt := 47) hx hb dX11_read_37 (by decide) (fun c_33 => ?_) (fun c_33 => ?_)
      · have h := ie c_33 h
        refine lv_aload_n hx hb dX11_read_47 rfl (lv_at hl 1 rfl) ?_
        refine lv_iconst (v := 0) hx hb dX11_read_48 (by decide) ?_
        refine xput (i := 0) (j := 0) (k := 0) (T := TX11) tyX11 tyX11_ok nmX11 hx hb ht tb_iX11 hown hX hP hS rfl rfl rfl (by decide) tb_429 rfl rfl rfl (Nat.le_of_ble_eq_true rfl) dX11_read_49 (fun H locs hP hS => ?_)
        have hP : PD D A [bl_X11 cy A_b (A_T 0) r_b_army r_b_war r_b_draftArmy r_b_draftWar r_b_reader r_b_armyReader r_b_warReader r_b_markedArmies r_b_markedWars r_b_latest r_b_trial r_b_foresight r_b_pairs 0 b_fractionTop b_fractionBottom b_marks, [(A_T 0, .inl (cy 4, 4, .inr (.inr (.inr (.inr (trf4 (A_y0 0) (A_y1 0) (A_y2 0) (A_y3 0)))))))], bl_X8 cy A_y0 y0_row y0_missing y0_sort y0_many, bl_X8 cy A_y1 y1_row y1_missing y1_sort y1_many, bl_X8 cy A_y2 y2_row y2_missing y2_sort y2_many, bl_X8 cy A_y3 y3_row y3_missing y3_sort y3_many] H := hP
        refine lv_aload_n hx hb dX11_read_52 rfl (lv_at hl 0 rfl) ?_
        refine lv_iload_n hx hb dX11_read_53 rfl (lv_at hl 3 rfl) ?_
        obtain ⟨z_34, e_z_34, h⟩ := bi h
        refine roVl (rest := []) ⟨hx, hb, hml, hown, ht⟩ (c_X8_at l D cy fu A_y0 y0_row y0_missing y0_sort y0_many x2 z_34 e_z_34) (cV ht mv_X8_at tb_547 rfl rfl ⟨Nat.le_of_ble_eq_true rfl, Nat.le_of_ble_eq_true rfl⟩) (P_sub hP.1 [2] rfl) hX rfl rfl rfl hl.1 rfl (Nat.le_of_ble_eq_true rfl) dX11_read_54 ⟨Nat.le_of_ble_eq_true rfl, Nat.le_of_ble_eq_true rfl⟩ ?_
        cases h
        subst hW1
        exact W.lret hx hb hr (fun _ ht9 _ => ⟨⟨_, (), rfl, rfl, hPt ht9 hP.1⟩, hS.F ht9⟩) hS.2.2 dX11_read_57
      · have h := it c_33 h
        refine lv_aload_n hx hb dX11_read_40 rfl (lv_at hl 1 rfl) ?_
        refine lv_iconst (v := 3) hx hb dX11_read_41 (by decide) ?_
        obtain ⟨z_35, e_z_35, h⟩ := bi h
        refine efVi (rest := []) ⟨hx, hb, hml, hown, ht⟩ (c_X11_refuse l D cy fu A_b (A_T 0) r_b_army r_b_war r_b_draftArmy r_b_draftWar r_b_reader r_b_armyReader r_b_warReader r_b_markedArmies r_b_markedWars r_b_latest r_b_trial r_b_foresight r_b_pairs b_latestStatus b_fractionTop b_fractionBottom b_marks 3 z_35 e_z_35 _ rfl _ rfl) (cV ht mv_X11_refuse tb_543 rfl rfl ⟨Nat.le_of_ble_eq_true rfl, Nat.le_of_ble_eq_true rfl⟩) hP hS hX [0] rfl rfl rfl rfl rfl rfl hl.1 rfl (Nat.le_of_ble_eq_true rfl) dX11_read_42 ⟨Nat.le_of_ble_eq_true rfl, Nat.le_of_ble_eq_true rfl⟩ (fun H locs hP hS => ?_)
        have hP : PD D A [bl_X11 cy A_b (A_T 0) r_b_army r_b_war r_b_draftArmy r_b_draftWar r_b_reader r_b_armyReader r_b_warReader r_b_markedArmies r_b_markedWars r_b_latest r_b_trial r_b_foresight r_b_pairs z_35.2 b_fractionTop b_fractionBottom b_marks, [(A_T 0, .inl (cy 4, 4, .inr (.inr (.inr (.inr (trf4 (A_y0 0) (A_y1 0) (A_y2 0) (A_y3 0)))))))], bl_X8 cy A_y0 y0_row y0_missing y0_sort y0_many, bl_X8 cy A_y1 y1_row y1_missing y1_sort y1_many, bl_X8 cy A_y2 y2_row y2_missing y2_sort y2_many, bl_X8 cy A_y3 y3_row y3_missing y3_sort y3_many] H := hP
        refine lv_i2l (v := Int32.toInt64 z_35.1) hx hb dX11_read_45 rfl ?_
        cases h
        subst hW1
        exact W.lret hx hb hr (fun _ ht9 _ => ⟨⟨_, (), rfl, rfl, hPt ht9 hP.1⟩, hS.F ht9⟩) hS.2.2 dX11_read_46
    · have h := ie c_31 h
      refine lv_aload_n hx hb dX11_read_24 rfl (lv_at hl 1 rfl) ?_
      refine lv_iconst (v := 2) hx hb dX11_read_25 (by decide) ?_
      obtain ⟨z_36, e_z_36, h⟩ := bi h
      refine efVi (rest := []) ⟨hx, hb, hml, hown, ht⟩ (c_X11_refuse l D cy fu A_b (A_T 0) r_b_army r_b_war r_b_draftArmy r_b_draftWar r_b_reader r_b_armyReader r_b_warReader r_b_markedArmies r_b_markedWars r_b_latest r_b_trial r_b_foresight r_b_pairs b_latestStatus b_fractionTop b_fractionBottom b_marks 2 z_36 e_z_36 _ rfl _ rfl) (cV ht mv_X11_refuse tb_543 rfl rfl ⟨Nat.le_of_ble_eq_true rfl, Nat.le_of_ble_eq_true rfl⟩) hP hS hX [0] rfl rfl rfl rfl rfl rfl hl.1 rfl (Nat.le_of_ble_eq_true rfl) dX11_read_26 ⟨Nat.le_of_ble_eq_true rfl, Nat.le_of_ble_eq_true rfl⟩ (fun H locs hP hS => ?_)
      have hP : PD D A [bl_X11 cy A_b (A_T 0) r_b_army r_b_war r_b_draftArmy r_b_draftWar r_b_reader r_b_armyReader r_b_warReader r_b_markedArmies r_b_markedWars r_b_latest r_b_trial r_b_foresight r_b_pairs z_36.2 b_fractionTop b_fractionBottom b_marks, [(A_T 0, .inl (cy 4, 4, .inr (.inr (.inr (.inr (trf4 (A_y0 0) (A_y1 0) (A_y2 0) (A_y3 0)))))))], bl_X8 cy A_y0 y0_row y0_missing y0_sort y0_many, bl_X8 cy A_y1 y1_row y1_missing y1_sort y1_many, bl_X8 cy A_y2 y2_row y2_missing y2_sort y2_many, bl_X8 cy A_y3 y3_row y3_missing y3_sort y3_many] H := hP
      refine lv_i2l (v := Int32.toInt64 z_36.1) hx hb dX11_read_29 rfl ?_
      cases h
      subst hW1
      exact W.lret hx hb hr (fun _ ht9 _ => ⟨⟨_, (), rfl, rfl, hPt ht9 hP.1⟩, hS.F ht9⟩) hS.2.2 dX11_read_30
  have h := ie c_30 h
  by_cases c_37 : x1 = 1
  · have h := it c_37 h
    refine roVq (rest := []) ⟨hx, hb, hml, hown, ht⟩ (c_X11_trayAt l D cy fu A_b r_b_army r_b_war r_b_draftArmy r_b_draftWar r_b_reader r_b_armyReader r_b_warReader r_b_markedArmies r_b_markedWars r_b_latest r_b_trial r_b_foresight r_b_pairs b_latestStatus b_fractionTop b_fractionBottom b_marks A_T (trf4 (A_y0 0) (A_y1 0) (A_y2 0) (A_y3 0)) x1 (some (A_y1 0)) (tray_1 c_37)) (cV ht mv_X11_trayAt tb_500 rfl rfl ⟨Nat.le_of_ble_eq_true rfl, Nat.le_of_ble_eq_true rfl⟩) (P_sub hP.1 [0, 1] rfl) hX rfl rfl rfl hl.1 rfl (Nat.le_of_ble_eq_true rfl) dX11_read_2 ⟨Nat.le_of_ble_eq_true rfl, Nat.le_of_ble_eq_true rfl⟩ ?_
    refine lv_astore_n (lv' := [(3, .ref (A_y1 0)), (0, .ref (A_b 0)), (1, .int x1), (2, .int x2)]) hx hb dX11_read_5 rfl hl (by decide) rfl (fun ls hl => ?_)
    refine lv_aload_n hx hb dX11_read_6 rfl (lv_at hl 0 rfl) ?_
    refine lv_ifnonnull (tgt := 17) hx hb dX11_read_7 (by decide) ?_
    refine lv_aload_n hx hb dX11_read_17 rfl (lv_at hl 0 rfl) ?_
    refine xget (i := 3) (j := 0) (k := 1) (T := TX8) hx hb ht tb_iX8 hown hX hP.1 rfl rfl rfl (by decide) tb_416 rfl dX11_read_18 ?_
    refine lv_if_eq (tgt := 31) hx hb dX11_read_21 (by decide) (fun c_38 => ?_) (fun c_38 => ?_)
    · have h := it c_38 h
      refine lv_aload_n hx hb dX11_read_31 rfl (lv_at hl 0 rfl) ?_
      refine lv_iload_n hx hb dX11_read_32 rfl (lv_at hl 3 rfl) ?_
      refine lv_iconst (v := 1) hx hb dX11_read_33 (by decide) ?_
      obtain ⟨z_39, e_z_39, h⟩ := bi h
      refine roVi (rest := []) ⟨hx, hb, hml, hown, ht⟩ (c_X8_hasPlaces l D cy fu A_y1 y1_row y1_missing y1_sort y1_many x2 1 z_39 e_z_39) (cV ht mv_X8_hasPlaces tb_526 rfl rfl ⟨Nat.le_of_ble_eq_true rfl, Nat.le_of_ble_eq_true rfl⟩) (P_sub hP.1 [3] rfl) hX rfl rfl rfl hl.1 rfl (Nat.le_of_ble_eq_true rfl) dX11_read_34 ⟨Nat.le_of_ble_eq_true rfl, Nat.le_of_ble_eq_true rfl⟩ ?_
      refine lv_if_ne (tgt := 47) hx hb dX11_read_37 (by decide) (fun c_40 => ?_) (fun c_40 => ?_)
      · have h := ie c_40 h
        refine lv_aload_n hx hb dX11_read_47 rfl (lv_at hl 1 rfl) ?_
        refine lv_iconst (v := 0) hx hb dX11_read_48 (by decide) ?_
        refine xput (i := 0) (j := 0) (k := 0) (T := TX11) tyX11 tyX11_ok nmX11 hx hb ht tb_iX11 hown hX hP hS rfl rfl rfl (by decide) tb_429 rfl rfl rfl (Nat.le_of_ble_eq_true rfl) dX11_read_49 (fun H locs hP hS => ?_)
        have hP : PD D A [bl_X11 cy A_b (A_T 0) r_b_army r_b_war r_b_draftArmy r_b_draftWar r_b_reader r_b_armyReader r_b_warReader r_b_markedArmies r_b_markedWars r_b_latest r_b_trial r_b_foresight r_b_pairs 0 b_fractionTop b_fractionBottom b_marks, [(A_T 0, .inl (cy 4, 4, .inr (.inr (.inr (.inr (trf4 (A_y0 0) (A_y1 0) (A_y2 0) (A_y3 0)))))))], bl_X8 cy A_y0 y0_row y0_missing y0_sort y0_many, bl_X8 cy A_y1 y1_row y1_missing y1_sort y1_many, bl_X8 cy A_y2 y2_row y2_missing y2_sort y2_many, bl_X8 cy A_y3 y3_row y3_missing y3_sort y3_many] H := hP
        refine lv_aload_n hx hb dX11_read_52 rfl (lv_at hl 0 rfl) ?_
        refine lv_iload_n hx hb dX11_read_53 rfl (lv_at hl 3 rfl) ?_
        obtain ⟨z_41, e_z_41, h⟩ := bi h
        refine roVl (rest := []) ⟨hx, hb, hml, hown, ht⟩ (c_X8_at l D cy fu A_y1 y1_row y1_missing y1_sort y1_many x2 z_41 e_z_41) (cV ht mv_X8_at tb_547 rfl rfl ⟨Nat.le_of_ble_eq_true rfl, Nat.le_of_ble_eq_true rfl⟩) (P_sub hP.1 [3] rfl) hX rfl rfl rfl hl.1 rfl (Nat.le_of_ble_eq_true rfl) dX11_read_54 ⟨Nat.le_of_ble_eq_true rfl, Nat.le_of_ble_eq_true rfl⟩ ?_
        cases h
        subst hW1
        exact W.lret hx hb hr (fun _ ht9 _ => ⟨⟨_, (), rfl, rfl, hPt ht9 hP.1⟩, hS.F ht9⟩) hS.2.2 dX11_read_57
      · have h := it c_40 h
        refine lv_aload_n hx hb dX11_read_40 rfl (lv_at hl 1 rfl) ?_
        refine lv_iconst (v := 3) hx hb dX11_read_41 (by decide) ?_
        obtain ⟨z_42, e_z_42, h⟩ := bi h
        refine efVi (rest := []) ⟨hx, hb, hml, hown, ht⟩ (c_X11_refuse l D cy fu A_b (A_T 0) r_b_army r_b_war r_b_draftArmy r_b_draftWar r_b_reader r_b_armyReader r_b_warReader r_b_markedArmies r_b_markedWars r_b_latest r_b_trial r_b_foresight r_b_pairs b_latestStatus b_fractionTop b_fractionBottom b_marks 3 z_42 e_z_42 _ rfl _ rfl) (cV ht mv_X11_refuse tb_543 rfl rfl ⟨Nat.le_of_ble_eq_true rfl, Nat.le_of_ble_eq_true rfl⟩) hP hS hX [0] rfl rfl rfl rfl rfl rfl hl.1 rfl (Nat.le_of_ble_eq_true rfl) dX11_read_42 ⟨Nat.le_of_ble_eq_true rfl, Nat.le_of_ble_eq_true rfl⟩ (fun H locs hP hS => ?_)
        have hP : PD D A [bl_X11 cy A_b (A_T 0) r_b_army r_b_war r_b_draftArmy r_b_draftWar r_b_reader r_b_armyReader r_b_warReader r_b_markedArmies r_b_markedWars r_b_latest r_b_trial r_b_foresight r_b_pairs z_42.2 b_fractionTop b_fractionBottom b_marks, [(A_T 0, .inl (cy 4, 4, .inr (.inr (.inr (.inr (trf4 (A_y0 0) (A_y1 0) (A_y2 0) (A_y3 0)))))))], bl_X8 cy A_y0 y0_row y0_missing y0_sort y0_many, bl_X8 cy A_y1 y1_row y1_missing y1_sort y1_many, bl_X8 cy A_y2 y2_row y2_missing y2_sort y2_many, bl_X8 cy A_y3 y3_row y3_missing y3_sort y3_many] H := hP
        refine lv_i2l (v := Int32.toInt64 z_42.1) hx hb dX11_read_45 rfl ?_
        cases h
        subst hW1
        exact W.lret hx hb hr (fun _ ht9 _ => ⟨⟨_, (), rfl, rfl, hPt ht9 hP.1⟩, hS.F ht9⟩) hS.2.2 dX11_read_46
    · have h := ie c_38 h
      refine lv_aload_n hx hb dX11_read_24 rfl (lv_at hl 1 rfl) ?_
      refine lv_iconst (v := 2) hx hb dX11_read_25 (by decide) ?_
      obtain ⟨z_43, e_z_43, h⟩ := bi h
      refine efVi (rest := []) ⟨hx, hb, hml, hown, ht⟩ (c_X11_refuse l D cy fu A_b (A_T 0) r_b_army r_b_war r_b_draftArmy r_b_draftWar r_b_reader r_b_armyReader r_b_warReader r_b_markedArmies r_b_markedWars r_b_latest r_b_trial r_b_foresight r_b_pairs b_latestStatus b_fractionTop b_fractionBottom b_marks 2 z_43 e_z_43 _ rfl _ rfl) (cV ht mv_X11_refuse tb_543 rfl rfl ⟨Nat.le_of_ble_eq_true rfl, Nat.le_of_ble_eq_true rfl⟩) hP hS hX [0] rfl rfl rfl rfl rfl rfl hl.1 rfl (Nat.le_of_ble_eq_true rfl) dX11_read_26 ⟨Nat.le_of_ble_eq_true rfl, Nat.le_of_ble_eq_true rfl⟩ (fun H locs hP hS => ?_)
      have hP : PD D A [bl_X11 cy A_b (A_T 0) r_b_army r_b_war r_b_draftArmy r_b_draftWar r_b_reader r_b_armyReader r_b_warReader r_b_markedArmies r_b_markedWars r_b_latest r_b_trial r_b_foresight r_b_pairs z_43.2 b_fractionTop b_fractionBottom b_marks, [(A_T 0, .inl (cy 4, 4, .inr (.inr (.inr (.inr (trf4 (A_y0 0) (A_y1 0) (A_y2 0) (A_y3 0)))))))], bl_X8 cy A_y0 y0_row y0_missing y0_sort y0_many, bl_X8 cy A_y1 y1_row y1_missing y1_sort y1_many, bl_X8 cy A_y2 y2_row y2_missing y2_sort y2_many, bl_X8 cy A_y3 y3_row y3_missing y3_sort y3_many] H := hP
      refine lv_i2l (v := Int32.toInt64 z_43.1) hx hb dX11_read_29 rfl ?_
      cases h
      subst hW1
      exact W.lret hx hb hr (fun _ ht9 _ => ⟨⟨_, (), rfl, rfl, hPt ht9 hP.1⟩, hS.F ht9⟩) hS.2.2 dX11_read_30
  have h := ie c_37 h
  by_cases c_44 : x1 = 2
  · have h := it c_44 h
    refine roVq (rest := []) ⟨hx, hb, hml, hown, ht⟩ (c_X11_trayAt l D cy fu A_b r_b_army r_b_war r_b_draftArmy r_b_draftWar r_b_reader r_b_armyReader r_b_warReader r_b_markedArmies r_b_markedWars r_b_latest r_b_trial r_b_foresight r_b_pairs b_latestStatus b_fractionTop b_fractionBottom b_marks A_T (trf4 (A_y0 0) (A_y1 0) (A_y2 0) (A_y3 0)) x1 (some (A_y2 0)) (tray_2 c_44)) (cV ht mv_X11_trayAt tb_500 rfl rfl ⟨Nat.le_of_ble_eq_true rfl, Nat.le_of_ble_eq_true rfl⟩) (P_sub hP.1 [0, 1] rfl) hX rfl rfl rfl hl.1 rfl (Nat.le_of_ble_eq_true rfl) dX11_read_2 ⟨Nat.le_of_ble_eq_true rfl, Nat.le_of_ble_eq_true rfl⟩ ?_
    refine lv_astore_n (lv' := [(3, .ref (A_y2 0)), (0, .ref (A_b 0)), (1, .int x1), (2, .int x2)]) hx hb dX11_read_5 rfl hl (by decide) rfl (fun ls hl => ?_)
    refine lv_aload_n hx hb dX11_read_6 rfl (lv_at hl 0 rfl) ?_
    refine lv_ifnonnull (tgt := 17) hx hb dX11_read_7 (by decide) ?_
    refine lv_aload_n hx hb dX11_read_17 rfl (lv_at hl 0 rfl) ?_
    refine xget (i := 4) (j := 0) (k := 1) (T := TX8) hx hb ht tb_iX8 hown hX hP.1 rfl rfl rfl (by decide) tb_416 rfl dX11_read_18 ?_
    refine lv_if_eq (tgt := 31) hx hb dX11_read_21 (by decide) (fun c_45 => ?_) (fun c_45 => ?_)
    · have h := it c_45 h
      refine lv_aload_n hx hb dX11_read_31 rfl (lv_at hl 0 rfl) ?_
      refine lv_iload_n hx hb dX11_read_32 rfl (lv_at hl 3 rfl) ?_
      refine lv_iconst (v := 1) hx hb dX11_read_33 (by decide) ?_
      obtain ⟨z_46, e_z_46, h⟩ := bi h
      refine roVi (rest := []) ⟨hx, hb, hml, hown, ht⟩ (c_X8_hasPlaces l D cy fu A_y2 y2_row y2_missing y2_sort y2_many x2 1 z_46 e_z_46) (cV ht mv_X8_hasPlaces tb_526 rfl rfl ⟨Nat.le_of_ble_eq_true rfl, Nat.le_of_ble_eq_true rfl⟩) (P_sub hP.1 [4] rfl) hX rfl rfl rfl hl.1 rfl (Nat.le_of_ble_eq_true rfl) dX11_read_34 ⟨Nat.le_of_ble_eq_true rfl, Nat.le_of_ble_eq_true rfl⟩ ?_
      refine lv_if_ne (tgt := 47) hx hb dX11_read_37 (by decide) (fun c_47 => ?_) (fun c_47 => ?_)
      · have h := ie c_47 h
        refine lv_aload_n hx hb dX11_read_47 rfl (lv_at hl 1 rfl) ?_
        refine lv_iconst (v := 0) hx hb dX11_read_48 (by decide) ?_
        refine xput (i := 0) (j := 0) (k := 0) (T := TX11) tyX11 tyX11_ok nmX11 hx hb ht tb_iX11 hown hX hP hS rfl rfl rfl (by decide) tb_429 rfl rfl rfl (Nat.le_of_ble_eq_true rfl) dX11_read_49 (fun H locs hP hS => ?_)
        have hP : PD D A [bl_X11 cy A_b (A_T 0) r_b_army r_b_war r_b_draftArmy r_b_draftWar r_b_reader r_b_armyReader r_b_warReader r_b_markedArmies r_b_markedWars r_b_latest r_b_trial r_b_foresight r_b_pairs 0 b_fractionTop b_fractionBottom b_marks, [(A_T 0, .inl (cy 4, 4, .inr (.inr (.inr (.inr (trf4 (A_y0 0) (A_y1 0) (A_y2 0) (A_y3 0)))))))], bl_X8 cy A_y0 y0_row y0_missing y0_sort y0_many, bl_X8 cy A_y1 y1_row y1_missing y1_sort y1_many, bl_X8 cy A_y2 y2_row y2_missing y2_sort y2_many, bl_X8 cy A_y3 y3_row y3_missing y3_sort y3_many] H := hP
        refine lv_aload_n hx hb dX11_read_52 rfl (lv_at hl 0 rfl) ?_
        refine lv_iload_n hx hb dX11_read_53 rfl (lv_at hl 3 rfl) ?_
        obtain ⟨z_48, e_z_48, h⟩ := bi h
        refine roVl (rest := []) ⟨hx, hb, hml, hown, ht⟩ (c_X8_at l D cy fu A_y2 y2_row y2_missing y2_sort y2_many x2 z_48 e_z_48) (cV ht mv_X8_at tb_547 rfl rfl ⟨Nat.le_of_ble_eq_true rfl, Nat.le_of_ble_eq_true rfl⟩) (P_sub hP.1 [4] rfl) hX rfl rfl rfl hl.1 rfl (Nat.le_of_ble_eq_true rfl) dX11_read_54 ⟨Nat.le_of_ble_eq_true rfl, Nat.le_of_ble_eq_true rfl⟩ ?_
        cases h
        subst hW1
        exact W.lret hx hb hr (fun _ ht9 _ => ⟨⟨_, (), rfl, rfl, hPt ht9 hP.1⟩, hS.F ht9⟩) hS.2.2 dX11_read_57
      · have h := it c_47 h
        refine lv_aload_n hx hb dX11_read_40 rfl (lv_at hl 1 rfl) ?_
        refine lv_iconst (v := 3) hx hb dX11_read_41 (by decide) ?_
        obtain ⟨z_49, e_z_49, h⟩ := bi h
        refine efVi (rest := []) ⟨hx, hb, hml, hown, ht⟩ (c_X11_refuse l D cy fu A_b (A_T 0) r_b_army r_b_war r_b_draftArmy r_b_draftWar r_b_reader r_b_armyReader r_b_warReader r_b_markedArmies r_b_markedWars r_b_latest r_b_trial r_b_foresight r_b_pairs b_latestStatus b_fractionTop b_fractionBottom b_marks 3 z_49 e_z_49 _ rfl _ rfl) (cV ht mv_X11_refuse tb_543 rfl rfl ⟨Nat.le_of_ble_eq_true rfl, Nat.le_of_ble_eq_true rfl⟩) hP hS hX [0] rfl rfl rfl rfl rfl rfl hl.1 rfl (Nat.le_of_ble_eq_true rfl) dX11_read_42 ⟨Nat.le_of_ble_eq_true rfl, Nat.le_of_ble_eq_true rfl⟩ (fun H locs hP hS => ?_)
        have hP : PD D A [bl_X11 cy A_b (A_T 0) r_b_army r_b_war r_b_draftArmy r_b_draftWar r_b_reader r_b_armyReader r_b_warReader r_b_markedArmies r_b_markedWars r_b_latest r_b_trial r_b_foresight r_b_pairs z_49.2 b_fractionTop b_fractionBottom b_marks, [(A_T 0, .inl (cy 4, 4, .inr (.inr (.inr (.inr (trf4 (A_y0 0) (A_y1 0) (A_y2 0) (A_y3 0)))))))], bl_X8 cy A_y0 y0_row y0_missing y0_sort y0_many, bl_X8 cy A_y1 y1_row y1_missing y1_sort y1_many, bl_X8 cy A_y2 y2_row y2_missing y2_sort y2_many, bl_X8 cy A_y3 y3_row y3_missing y3_sort y3_many] H := hP
        refine lv_i2l (v := Int32.toInt64 z_49.1) hx hb dX11_read_45 rfl ?_
        cases h
        subst hW1
        exact W.lret hx hb hr (fun _ ht9 _ => ⟨⟨_, (), rfl, rfl, hPt ht9 hP.1⟩, hS.F ht9⟩) hS.2.2 dX11_read_46
    · have h := ie c_45 h
      refine lv_aload_n hx hb dX11_read_24 rfl (lv_at hl 1 rfl) ?_
      refine lv_iconst (v := 2) hx hb dX11_read_25 (by decide) ?_
      obtain ⟨z_50, e_z_50, h⟩ := bi h
      refine efVi (rest := []) ⟨hx, hb, hml, hown, ht⟩ (c_X11_refuse l D cy fu A_b (A_T 0) r_b_army r_b_war r_b_draftArmy r_b_draftWar r_b_reader r_b_armyReader r_b_warReader r_b_markedArmies r_b_markedWars r_b_latest r_b_trial r_b_foresight r_b_pairs b_latestStatus b_fractionTop b_fractionBottom b_marks 2 z_50 e_z_50 _ rfl _ rfl) (cV ht mv_X11_refuse tb_543 rfl rfl ⟨Nat.le_of_ble_eq_true rfl, Nat.le_of_ble_eq_true rfl⟩) hP hS hX [0] rfl rfl rfl rfl rfl rfl hl.1 rfl (Nat.le_of_ble_eq_true rfl) dX11_read_26 ⟨Nat.le_of_ble_eq_true rfl, Nat.le_of_ble_eq_true rfl⟩ (fun H locs hP hS => ?_)
      have hP : PD D A [bl_X11 cy A_b (A_T 0) r_b_army r_b_war r_b_draftArmy r_b_draftWar r_b_reader r_b_armyReader r_b_warReader r_b_markedArmies r_b_markedWars r_b_latest r_b_trial r_b_foresight r_b_pairs z_50.2 b_fractionTop b_fractionBottom b_marks, [(A_T 0, .inl (cy 4, 4, .inr (.inr (.inr (.inr (trf4 (A_y0 0) (A_y1 0) (A_y2 0) (A_y3 0)))))))], bl_X8 cy A_y0 y0_row y0_missing y0_sort y0_many, bl_X8 cy A_y1 y1_row y1_missing y1_sort y1_many, bl_X8 cy A_y2 y2_row y2_missing y2_sort y2_many, bl_X8 cy A_y3 y3_row y3_missing y3_sort y3_many] H := hP
      refine lv_i2l (v := Int32.toInt64 z_50.1) hx hb dX11_read_29 rfl ?_
      cases h
      subst hW1
      exact W.lret hx hb hr (fun _ ht9 _ => ⟨⟨_, (), rfl, rfl, hPt ht9 hP.1⟩, hS.F ht9⟩) hS.2.2 dX11_read_30
  have h := ie c_44 h
  by_cases c_51 : x1 = 3
  · have h := it c_51 h
    refine roVq (rest := []) ⟨hx, hb, hml, hown, ht⟩ (c_X11_trayAt l D cy fu A_b r_b_army r_b_war r_b_draftArmy r_b_draftWar r_b_reader r_b_armyReader r_b_warReader r_b_markedArmies r_b_markedWars r_b_latest r_b_trial r_b_foresight r_b_pairs b_latestStatus b_fractionTop b_fractionBottom b_marks A_T (trf4 (A_y0 0) (A_y1 0) (A_y2 0) (A_y3 0)) x1 (some (A_y3 0)) (tray_3 c_51)) (cV ht mv_X11_trayAt tb_500 rfl rfl ⟨Nat.le_of_ble_eq_true rfl, Nat.le_of_ble_eq_true rfl⟩) (P_sub hP.1 [0, 1] rfl) hX rfl rfl rfl hl.1 rfl (Nat.le_of_ble_eq_true rfl) dX11_read_2 ⟨Nat.le_of_ble_eq_true rfl, Nat.le_of_ble_eq_true rfl⟩ ?_
    refine lv_astore_n (lv' := [(3, .ref (A_y3 0)), (0, .ref (A_b 0)), (1, .int x1), (2, .int x2)]) hx hb dX11_read_5 rfl hl (by decide) rfl (fun ls hl => ?_)
    refine lv_aload_n hx hb dX11_read_6 rfl (lv_at hl 0 rfl) ?_
    refine lv_ifnonnull (tgt := 17) hx hb dX11_read_7 (by decide) ?_
    refine lv_aload_n hx hb dX11_read_17 rfl (lv_at hl 0 rfl) ?_
    refine xget (i := 5) (j := 0) (k := 1) (T := TX8) hx hb ht tb_iX8 hown hX hP.1 rfl rfl rfl (by decide) tb_416 rfl dX11_read_18 ?_
    refine lv_if_eq (tgt := 31) hx hb dX11_read_21 (by decide) (fun c_52 => ?_) (fun c_52 => ?_)
    · have h := it c_52 h
      refine lv_aload_n hx hb dX11_read_31 rfl (lv_at hl 0 rfl) ?_
      refine lv_iload_n hx hb dX11_read_32 rfl (lv_at hl 3 rfl) ?_
      refine lv_iconst (v := 1) hx hb dX11_read_33 (by decide) ?_
      obtain ⟨z_53, e_z_53, h⟩ := bi h
      refine roVi (rest := []) ⟨hx, hb, hml, hown, ht⟩ (c_X8_hasPlaces l D cy fu A_y3 y3_row y3_missing y3_sort y3_many x2 1 z_53 e_z_53) (cV ht mv_X8_hasPlaces tb_526 rfl rfl ⟨Nat.le_of_ble_eq_true rfl, Nat.le_of_ble_eq_true rfl⟩) (P_sub hP.1 [5] rfl) hX rfl rfl rfl hl.1 rfl (Nat.le_of_ble_eq_true rfl) dX11_read_34 ⟨Nat.le_of_ble_eq_true rfl, Nat.le_of_ble_eq_true rfl⟩ ?_
      refine lv_if_ne (tgt := 47) hx hb dX11_read_37 (by decide) (fun c_54 => ?_) (fun c_54 => ?_)
      · have h := ie c_54 h
        refine lv_aload_n hx hb dX11_read_47 rfl (lv_at hl 1 rfl) ?_
        refine lv_iconst (v := 0) hx hb dX11_read_48 (by decide) ?_
        refine xput (i := 0) (j := 0) (k := 0) (T := TX11) tyX11 tyX11_ok nmX11 hx hb ht tb_iX11 hown hX hP hS rfl rfl rfl (by decide) tb_429 rfl rfl rfl (Nat.le_of_ble_eq_true rfl) dX11_read_49 (fun H locs hP hS => ?_)
        have hP : PD D A [bl_X11 cy A_b (A_T 0) r_b_army r_b_war r_b_draftArmy r_b_draftWar r_b_reader r_b_armyReader r_b_warReader r_b_markedArmies r_b_markedWars r_b_latest r_b_trial r_b_foresight r_b_pairs 0 b_fractionTop b_fractionBottom b_marks, [(A_T 0, .inl (cy 4, 4, .inr (.inr (.inr (.inr (trf4 (A_y0 0) (A_y1 0) (A_y2 0) (A_y3 0)))))))], bl_X8 cy A_y0 y0_row y0_missing y0_sort y0_many, bl_X8 cy A_y1 y1_row y1_missing y1_sort y1_many, bl_X8 cy A_y2 y2_row y2_missing y2_sort y2_many, bl_X8 cy A_y3 y3_row y3_missing y3_sort y3_many] H := hP
        refine lv_aload_n hx hb dX11_read_52 rfl (lv_at hl 0 rfl) ?_
        refine lv_iload_n hx hb dX11_read_53 rfl (lv_at hl 3 rfl) ?_
        obtain ⟨z_55, e_z_55, h⟩ := bi h
        refine roVl (rest := []) ⟨hx, hb, hml, hown, ht⟩ (c_X8_at l D cy fu A_y3 y3_row y3_missing y3_sort y3_many x2 z_55 e_z_55) (cV ht mv_X8_at tb_547 rfl rfl ⟨Nat.le_of_ble_eq_true rfl, Nat.le_of_ble_eq_true rfl⟩) (P_sub hP.1 [5] rfl) hX rfl rfl rfl hl.1 rfl (Nat.le_of_ble_eq_true rfl) dX11_read_54 ⟨Nat.le_of_ble_eq_true rfl, Nat.le_of_ble_eq_true rfl⟩ ?_
        cases h
        subst hW1
        exact W.lret hx hb hr (fun _ ht9 _ => ⟨⟨_, (), rfl, rfl, hPt ht9 hP.1⟩, hS.F ht9⟩) hS.2.2 dX11_read_57
      · have h := it c_54 h
        refine lv_aload_n hx hb dX11_read_40 rfl (lv_at hl 1 rfl) ?_
        refine lv_iconst (v := 3) hx hb dX11_read_41 (by decide) ?_
        obtain ⟨z_56, e_z_56, h⟩ := bi h
        refine efVi (rest := []) ⟨hx, hb, hml, hown, ht⟩ (c_X11_refuse l D cy fu A_b (A_T 0) r_b_army r_b_war r_b_draftArmy r_b_draftWar r_b_reader r_b_armyReader r_b_warReader r_b_markedArmies r_b_markedWars r_b_latest r_b_trial r_b_foresight r_b_pairs b_latestStatus b_fractionTop b_fractionBottom b_marks 3 z_56 e_z_56 _ rfl _ rfl) (cV ht mv_X11_refuse tb_543 rfl rfl ⟨Nat.le_of_ble_eq_true rfl, Nat.le_of_ble_eq_true rfl⟩) hP hS hX [0] rfl rfl rfl rfl rfl rfl hl.1 rfl (Nat.le_of_ble_eq_true rfl) dX11_read_42 ⟨Nat.le_of_ble_eq_true rfl, Nat.le_of_ble_eq_true rfl⟩ (fun H locs hP hS => ?_)
        have hP : PD D A [bl_X11 cy A_b (A_T 0) r_b_army r_b_war r_b_draftArmy r_b_draftWar r_b_reader r_b_armyReader r_b_warReader r_b_markedArmies r_b_markedWars r_b_latest r_b_trial r_b_foresight r_b_pairs z_56.2 b_fractionTop b_fractionBottom b_marks, [(A_T 0, .inl (cy 4, 4, .inr (.inr (.inr (.inr (trf4 (A_y0 0) (A_y1 0) (A_y2 0) (A_y3 0)))))))], bl_X8 cy A_y0 y0_row y0_missing y0_sort y0_many, bl_X8 cy A_y1 y1_row y1_missing y1_sort y1_many, bl_X8 cy A_y2 y2_row y2_missing y2_sort y2_many, bl_X8 cy A_y3 y3_row y3_missing y3_sort y3_many] H := hP
        refine lv_i2l (v := Int32.toInt64 z_56.1) hx hb dX11_read_45 rfl ?_
        cases h
        subst hW1
        exact W.lret hx hb hr (fun _ ht9 _ => ⟨⟨_, (), rfl, rfl, hPt ht9 hP.1⟩, hS.F ht9⟩) hS.2.2 dX11_read_46
    · have h := ie c_52 h
      refine lv_aload_n hx hb dX11_read_24 rfl (lv_at hl 1 rfl) ?_
      refine lv_iconst (v := 2) hx hb dX11_read_25 (by decide) ?_
      obtain ⟨z_57, e_z_57, h⟩ := bi h
      refine efVi (rest := []) ⟨hx, hb, hml, hown, ht⟩ (c_X11_refuse l D cy fu A_b (A_T 0) r_b_army r_b_war r_b_draftArmy r_b_draftWar r_b_reader r_b_armyReader r_b_warReader r_b_markedArmies r_b_markedWars r_b_latest r_b_trial r_b_foresight r_b_pairs b_latestStatus b_fractionTop b_fractionBottom b_marks 2 z_57 e_z_57 _ rfl _ rfl) (cV ht mv_X11_refuse tb_543 rfl rfl ⟨Nat.le_of_ble_eq_true rfl, Nat.le_of_ble_eq_true rfl⟩) hP hS hX [0] rfl rfl rfl rfl rfl rfl hl.1 rfl (Nat.le_of_ble_eq_true rfl) dX11_read_26 ⟨Nat.le_of_ble_eq_true rfl, Nat.le_of_ble_eq_true rfl⟩ (fun H locs hP hS => ?_)
      have hP : PD D A [bl_X11 cy A_b (A_T 0) r_b_army r_b_war r_b_draftArmy r_b_draftWar r_b_reader r_b_armyReader r_b_warReader r_b_markedArmies r_b_markedWars r_b_latest r_b_trial r_b_foresight r_b_pairs z_57.2 b_fractionTop b_fractionBottom b_marks, [(A_T 0, .inl (cy 4, 4, .inr (.inr (.inr (.inr (trf4 (A_y0 0) (A_y1 0) (A_y2 0) (A_y3 0)))))))], bl_X8 cy A_y0 y0_row y0_missing y0_sort y0_many, bl_X8 cy A_y1 y1_row y1_missing y1_sort y1_many, bl_X8 cy A_y2 y2_row y2_missing y2_sort y2_many, bl_X8 cy A_y3 y3_row y3_missing y3_sort y3_many] H := hP
      refine lv_i2l (v := Int32.toInt64 z_57.1) hx hb dX11_read_29 rfl ?_
      cases h
      subst hW1
      exact W.lret hx hb hr (fun _ ht9 _ => ⟨⟨_, (), rfl, rfl, hPt ht9 hP.1⟩, hS.F ht9⟩) hS.2.2 dX11_read_30
  have h := ie c_51 h
  refine roVq (rest := []) ⟨hx, hb, hml, hown, ht⟩ (c_X11_trayAt l D cy fu A_b r_b_army r_b_war r_b_draftArmy r_b_draftWar r_b_reader r_b_armyReader r_b_warReader r_b_markedArmies r_b_markedWars r_b_latest r_b_trial r_b_foresight r_b_pairs b_latestStatus b_fractionTop b_fractionBottom b_marks A_T (trf4 (A_y0 0) (A_y1 0) (A_y2 0) (A_y3 0)) x1 (none) (tray_out ⟨c_30, c_37, c_44, c_51⟩)) (cV ht mv_X11_trayAt tb_500 rfl rfl ⟨Nat.le_of_ble_eq_true rfl, Nat.le_of_ble_eq_true rfl⟩) (P_sub hP.1 [0, 1] rfl) hX rfl rfl rfl hl.1 rfl (Nat.le_of_ble_eq_true rfl) dX11_read_2 ⟨Nat.le_of_ble_eq_true rfl, Nat.le_of_ble_eq_true rfl⟩ ?_
  refine lv_astore_nN (lv' := [(3, .null), (0, .ref (A_b 0)), (1, .int x1), (2, .int x2)]) hx hb dX11_read_5 rfl hl (by decide) rfl (fun ls hl => ?_)
  refine lv_aload_nN hx hb dX11_read_6 rfl (lv_at hl 0 rfl) ?_
  refine lv_ifnonnullN hx hb dX11_read_7 ?_
  refine lv_aload_n hx hb dX11_read_10 rfl (lv_at hl 1 rfl) ?_
  refine lv_iconst (v := 1) hx hb dX11_read_11 (by decide) ?_
  obtain ⟨z_58, e_z_58, h⟩ := bi h
  refine efVi (rest := []) ⟨hx, hb, hml, hown, ht⟩ (c_X11_refuse l D cy fu A_b (A_T 0) r_b_army r_b_war r_b_draftArmy r_b_draftWar r_b_reader r_b_armyReader r_b_warReader r_b_markedArmies r_b_markedWars r_b_latest r_b_trial r_b_foresight r_b_pairs b_latestStatus b_fractionTop b_fractionBottom b_marks 1 z_58 e_z_58 _ rfl _ rfl) (cV ht mv_X11_refuse tb_543 rfl rfl ⟨Nat.le_of_ble_eq_true rfl, Nat.le_of_ble_eq_true rfl⟩) hP hS hX [0] rfl rfl rfl rfl rfl rfl hl.1 rfl (Nat.le_of_ble_eq_true rfl) dX11_read_12 ⟨Nat.le_of_ble_eq_true rfl, Nat.le_of_ble_eq_true rfl⟩ (fun H locs hP hS => ?_)
  have hP : PD D A [bl_X11 cy A_b (A_T 0) r_b_army r_b_war r_b_draftArmy r_b_draftWar r_b_reader r_b_armyReader r_b_warReader r_b_markedArmies r_b_markedWars r_b_latest r_b_trial r_b_foresight r_b_pairs z_58.2 b_fractionTop b_fractionBottom b_marks, [(A_T 0, .inl (cy 4, 4, .inr (.inr (.inr (.inr (trf4 (A_y0 0) (A_y1 0) (A_y2 0) (A_y3 0)))))))], bl_X8 cy A_y0 y0_row y0_missing y0_sort y0_many, bl_X8 cy A_y1 y1_row y1_missing y1_sort y1_many, bl_X8 cy A_y2 y2_row y2_missing y2_sort y2_many, bl_X8 cy A_y3 y3_row y3_missing y3_sort y3_many] H := hP
  refine lv_i2l (v := Int32.toInt64 z_58.1) hx hb dX11_read_15 rfl ?_
  cases h
  subst hW1
  exact W.lret hx hb hr (fun _ ht9 _ => ⟨⟨_, (), rfl, rfl, hPt ht9 hP.1⟩, hS.F ht9⟩) hS.2.2 dX11_read_16

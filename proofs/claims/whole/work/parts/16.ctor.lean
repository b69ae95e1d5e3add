def adf (l : List Nat) : Nat → Nat := fun k => l.getD k 0
theorem PDt {D : va_G} {A : Nat → Prop} {bs : List va_W} {t : State} {H : Heap} (h : t.heap = H) (hP : PD D A bs H) : PD D A bs t.heap := by rw [h]; exact hP
theorem dX0_init_0 : decode cX0_init 0 = .ok (.aload_n 0, 1) := by decide +kernel
theorem dX0_init_1 : decode cX0_init 1 = .ok (.invokespecial 3, 3) := by decide +kernel
theorem dX0_init_4 : decode cX0_init 4 = .ok (.aload_n 0, 1) := by decide +kernel
theorem dX0_init_5 : decode cX0_init 5 = .ok (.bipush 8, 2) := by decide +kernel
theorem dX0_init_7 : decode cX0_init 7 = .ok (.newarray .long, 2) := by decide +kernel
theorem dX0_init_9 : decode cX0_init 9 = .ok (.putfield 9, 3) := by decide +kernel
theorem dX0_init_12 : decode cX0_init 12 = .ok (.aload_n 0, 1) := by decide +kernel
theorem dX0_init_13 : decode cX0_init 13 = .ok (.bipush 8, 2) := by decide +kernel
theorem dX0_init_15 : decode cX0_init 15 = .ok (.newarray .int, 2) := by decide +kernel
theorem dX0_init_17 : decode cX0_init 17 = .ok (.putfield 15, 3) := by decide +kernel
theorem dX0_init_20 : decode cX0_init 20 = .ok (.aload_n 0, 1) := by decide +kernel
theorem dX0_init_21 : decode cX0_init 21 = .ok (.bipush 8, 2) := by decide +kernel
theorem dX0_init_23 : decode cX0_init 23 = .ok (.newarray .int, 2) := by decide +kernel
theorem dX0_init_25 : decode cX0_init 25 = .ok (.putfield 19, 3) := by decide +kernel
theorem dX0_init_28 : decode cX0_init 28 = .ok (.aload_n 0, 1) := by decide +kernel
theorem dX0_init_29 : decode cX0_init 29 = .ok (.bipush 8, 2) := by decide +kernel
theorem dX0_init_31 : decode cX0_init 31 = .ok (.newarray .int, 2) := by decide +kernel
theorem dX0_init_33 : decode cX0_init 33 = .ok (.putfield 22, 3) := by decide +kernel
theorem dX0_init_36 : decode cX0_init 36 = .ok (.aload_n 0, 1) := by decide +kernel
theorem dX0_init_37 : decode cX0_init 37 = .ok (.bipush 8, 2) := by decide +kernel
theorem dX0_init_39 : decode cX0_init 39 = .ok (.newarray .int, 2) := by decide +kernel
theorem dX0_init_41 : decode cX0_init 41 = .ok (.putfield 25, 3) := by decide +kernel
theorem dX0_init_44 : decode cX0_init 44 = .ok (.aload_n 0, 1) := by decide +kernel
theorem dX0_init_45 : decode cX0_init 45 = .ok (.bipush 8, 2) := by decide +kernel
theorem dX0_init_47 : decode cX0_init 47 = .ok (.newarray .int, 2) := by decide +kernel
theorem dX0_init_49 : decode cX0_init 49 = .ok (.putfield 28, 3) := by decide +kernel
theorem dX0_init_52 : decode cX0_init 52 = .ok (.aload_n 0, 1) := by decide +kernel
theorem dX0_init_53 : decode cX0_init 53 = .ok (.bipush 64, 2) := by decide +kernel
theorem dX0_init_55 : decode cX0_init 55 = .ok (.newarray .int, 2) := by decide +kernel
theorem dX0_init_57 : decode cX0_init 57 = .ok (.putfield 31, 3) := by decide +kernel
theorem dX0_init_60 : decode cX0_init 60 = .ok (.aload_n 0, 1) := by decide +kernel
theorem dX0_init_61 : decode cX0_init 61 = .ok (.bipush 8, 2) := by decide +kernel
theorem dX0_init_63 : decode cX0_init 63 = .ok (.newarray .int, 2) := by decide +kernel
theorem dX0_init_65 : decode cX0_init 65 = .ok (.putfield 34, 3) := by decide +kernel
theorem dX0_init_68 : decode cX0_init 68 = .ok (.aload_n 0, 1) := by decide +kernel
theorem dX0_init_69 : decode cX0_init 69 = .ok (.iconst 0, 1) := by decide +kernel
theorem dX0_init_70 : decode cX0_init 70 = .ok (.putfield 37, 3) := by decide +kernel
theorem dX0_init_73 : decode cX0_init 73 = .ok (.aload_n 0, 1) := by decide +kernel
theorem dX0_init_74 : decode cX0_init 74 = .ok (.iconst 0, 1) := by decide +kernel
theorem dX0_init_75 : decode cX0_init 75 = .ok (.putfield 41, 3) := by decide +kernel
theorem dX0_init_78 : decode cX0_init 78 = .ok (.aload_n 0, 1) := by decide +kernel
theorem dX0_init_79 : decode cX0_init 79 = .ok (.iconst 1, 1) := by decide +kernel
theorem dX0_init_80 : decode cX0_init 80 = .ok (.putfield 44, 3) := by decide +kernel
theorem dX0_init_83 : decode cX0_init 83 = .ok (.aload_n 0, 1) := by decide +kernel
theorem dX0_init_84 : decode cX0_init 84 = .ok (.bipush 50, 2) := by decide +kernel
theorem dX0_init_86 : decode cX0_init 86 = .ok (.putfield 47, 3) := by decide +kernel
theorem dX0_init_89 : decode cX0_init 89 = .ok (.aload_n 0, 1) := by decide +kernel
theorem dX0_init_90 : decode cX0_init 90 = .ok (.iconst 0, 1) := by decide +kernel
theorem dX0_init_91 : decode cX0_init 91 = .ok (.putfield 50, 3) := by decide +kernel
theorem dX0_init_94 : decode cX0_init 94 = .ok (.aload_n 0, 1) := by decide +kernel
theorem dX0_init_95 : decode cX0_init 95 = .ok (.iconst 0, 1) := by decide +kernel
theorem dX0_init_96 : decode cX0_init 96 = .ok (.putfield 53, 3) := by decide +kernel
theorem dX0_init_99 : decode cX0_init 99 = .ok (.return_, 1) := by decide +kernel
theorem mi_X0 : MI yX0_init cX0_init 1 0 := ⟨tb_36, tb_35, tb_2, rfl, by decide +kernel, by decide +kernel, by decide +kernel⟩
abbrev rmn_X0 : Room := { frames := 1, cells := 8, slots := 120, locals := 40 }
set_option maxHeartbeats 8000000 in
set_option maxRecDepth 100000 in
theorem n_X0 (l : Launch) (D : va_G) (cy : Nat → ClassId) (tO : Nat) (aK aV : Nat → Nat) (h0 sz : Nat) : Met l yX0_init (WW yX0_init cX0_init 1 none) rmn_X0 (Cd D cy tO aK aV [.ref h0] (h0, .inr (0, [.null, .null, .null, .null, .null, .null, .null, .null, .int 0, .int 0, .int 0, .int 0, .int 0, .int 0])) sz) (va_Qv (fun (u : Nat → Nat) => u 0 = h0) (fun u t => PD D (va_A [(h0, .inr (0, [.null, .null, .null, .null, .null, .null, .null, .null, .int 0, .int 0, .int 0, .int 0, .int 0, .int 0]))] sz) [bl_X0 cy u ((fun _ => 0)) ((fun _ => 0)) ((fun _ => 0)) ((fun _ => 0)) ((fun _ => 0)) ((fun _ => 0)) ((fun _ => 0)) ((fun _ => 0)) 0 0 1 50 0 0] t.heap) (va_A [(h0, .inr (0, [.null, .null, .null, .null, .null, .null, .null, .null, .int 0, .int 0, .int 0, .int 0, .int 0, .int 0]))] sz)) 8 120 (va_A [(h0, .inr (0, [.null, .null, .null, .null, .null, .null, .null, .null, .int 0, .int 0, .int 0, .int 0, .int 0, .int 0]))] sz) := by
  refine Met.ofW (cc := cX0_init) (maxL := 1) (ret := none) (by decide) rfl ?_
  intro p e s m args below meth c s₁ B hml hv
  obtain ⟨hargs, hP, hC, hsz⟩ := hv
  have hx := B.exec
  have hb := B.bytes
  have hr := B.returns
  have ht : ∀ w ∈ lw_gd, w.before args s = true := fun w hw => atoms_spec (ws := WW yX0_init cX0_init 1 none) B.pre w (List.mem_cons_of_mem _ hw)
  have hown : s.vm.findClass RX0 = some m.cls := findClass_of_methodNamed B.named
  have hlocks := B.notSynchronized
  have hin : meth.name = "<init>" := (name_of_methodNamed B.named B.method).1
  subst hsz
  have hP : PD D (va_A [(h0, .inr (0, [.null, .null, .null, .null, .null, .null, .null, .null, .int 0, .int 0, .int 0, .int 0, .int 0, .int 0]))] s.heap.size) [[(h0, .inr (0, [.null, .null, .null, .null, .null, .null, .null, .null, .int 0, .int 0, .int 0, .int 0, .int 0, .int 0]))]] s.heap := ⟨hP, D_one⟩
  generalize hAe : va_A [(h0, .inr (0, [.null, .null, .null, .null, .null, .null, .null, .null, .int 0, .int 0, .int 0, .int 0, .int 0, .int 0]))] s.heap.size = A at hP hC ⊢
  have hA : ∀ q : Nat, s.heap.size ≤ q → A q := fun q h => by rw [← hAe]; exact Or.inr h
  have hX := hC.1
  have hE := hC.2.1
  have hS : va_S A s.heap s.heap [] := va_S.rf
  obtain ⟨ls, hl, hent⟩ := ent (m := m) (n := 1) hargs (Nat.le_of_ble_eq_true rfl) (lv := [(0, .ref h0)]) rfl
  rw [hent]
  clear hent
  refine lv_aload_n hx hb dX0_init_0 rfl (lv_at hl 0 rfl) ?_
  refine W.objInit hx hb hown (ht _ tb_37) (ht _ tb_28) (ht _ tb_29) rfl (by rw [hml]; exact hl.1) rfl dX0_init_1 (Nat.le_of_ble_eq_true rfl) (Nat.le_of_ble_eq_true rfl) ?_
  refine W.eq (g2 := F0 m 4 ls []) rfl ?_
  refine lv_aload_n hx hb dX0_init_4 rfl (lv_at hl 0 rfl) ?_
  refine lv_bipush (v := 8) hx hb dX0_init_5 (by decide) ?_
  refine xnewJ (N := 8) hx hb ht hX hP hS hA (by decide) (by decide) (by decide) (Nat.le_of_ble_eq_true rfl) (Nat.le_of_ble_eq_true rfl) tb_104 dX0_init_7 (fun q1 H hP hS => ?_)
  have hP : PD D A [[(h0, .inr (0, [.null, .null, .null, .null, .null, .null, .null, .null, .int 0, .int 0, .int 0, .int 0, .int 0, .int 0]))], [(q1, .inl (cy 1, 8, .inr (.inl ((fun _ => 0)))))]] H := hP
  refine xputF (i := 0) (j := 0) (k := 0) (T := TX0) tyX0 tyX0_ok nmX0 hx hb ht tb_iX0 hown hX hP hS rfl rfl rfl (by decide) tb_38 rfl hin rfl rfl rfl (Nat.le_of_ble_eq_true rfl) dX0_init_9 (fun H locs hP hS => ?_)
  have hP : PD D A [[(h0, .inr (0, [.ref q1, .null, .null, .null, .null, .null, .null, .null, .int 0, .int 0, .int 0, .int 0, .int 0, .int 0]))], [(q1, .inl (cy 1, 8, .inr (.inl ((fun _ => 0)))))]] H := hP
  refine lv_aload_n hx hb dX0_init_12 rfl (lv_at hl 0 rfl) ?_
  refine lv_bipush (v := 8) hx hb dX0_init_13 (by decide) ?_
  refine xnewI (N := 8) hx hb ht hX hP hS hA (by decide) (by decide) (by decide) (Nat.le_of_ble_eq_true rfl) (Nat.le_of_ble_eq_true rfl) tb_105 dX0_init_15 (fun q2 H hP hS => ?_)
  have hP : PD D A [[(h0, .inr (0, [.ref q1, .null, .null, .null, .null, .null, .null, .null, .int 0, .int 0, .int 0, .int 0, .int 0, .int 0]))], [(q1, .inl (cy 1, 8, .inr (.inl ((fun _ => 0)))))], [(q2, .inl (cy 0, 8, .inl ((fun _ => 0))))]] H := hP
  refine xputF (i := 0) (j := 0) (k := 1) (T := TX0) tyX0 tyX0_ok nmX0 hx hb ht tb_iX0 hown hX hP hS rfl rfl rfl (by decide) tb_39 rfl hin rfl rfl rfl (Nat.le_of_ble_eq_true rfl) dX0_init_17 (fun H locs hP hS => ?_)
  have hP : PD D A [[(h0, .inr (0, [.ref q1, .ref q2, .null, .null, .null, .null, .null, .null, .int 0, .int 0, .int 0, .int 0, .int 0, .int 0]))], [(q1, .inl (cy 1, 8, .inr (.inl ((fun _ => 0)))))], [(q2, .inl (cy 0, 8, .inl ((fun _ => 0))))]] H := hP
  refine lv_aload_n hx hb dX0_init_20 rfl (lv_at hl 0 rfl) ?_
  refine lv_bipush (v := 8) hx hb dX0_init_21 (by decide) ?_
  refine xnewI (N := 8) hx hb ht hX hP hS hA (by decide) (by decide) (by decide) (Nat.le_of_ble_eq_true rfl) (Nat.le_of_ble_eq_true rfl) tb_105 dX0_init_23 (fun q3 H hP hS => ?_)
  have hP : PD D A [[(h0, .inr (0, [.ref q1, .ref q2, .null, .null, .null, .null, .null, .null, .int 0, .int 0, .int 0, .int 0, .int 0, .int 0]))], [(q1, .inl (cy 1, 8, .inr (.inl ((fun _ => 0)))))], [(q2, .inl (cy 0, 8, .inl ((fun _ => 0))))], [(q3, .inl (cy 0, 8, .inl ((fun _ => 0))))]] H := hP
  refine xputF (i := 0) (j := 0) (k := 2) (T := TX0) tyX0 tyX0_ok nmX0 hx hb ht tb_iX0 hown hX hP hS rfl rfl rfl (by decide) tb_41 rfl hin rfl rfl rfl (Nat.le_of_ble_eq_true rfl) dX0_init_25 (fun H locs hP hS => ?_)
  have hP : PD D A [[(h0, .inr (0, [.ref q1, .ref q2, .ref q3, .null, .null, .null, .null, .null, .int 0, .int 0, .int 0, .int 0, .int 0, .int 0]))], [(q1, .inl (cy 1, 8, .inr (.inl ((fun _ => 0)))))], [(q2, .inl (cy 0, 8, .inl ((fun _ => 0))))], [(q3, .inl (cy 0, 8, .inl ((fun _ => 0))))]] H := hP
  refine lv_aload_n hx hb dX0_init_28 rfl (lv_at hl 0 rfl) ?_
  refine lv_bipush (v := 8) hx hb dX0_init_29 (by decide) ?_
  refine xnewI (N := 8) hx hb ht hX hP hS hA (by decide) (by decide) (by decide) (Nat.le_of_ble_eq_true rfl) (Nat.le_of_ble_eq_true rfl) tb_105 dX0_init_31 (fun q4 H hP hS => ?_)
  have hP : PD D A [[(h0, .inr (0, [.ref q1, .ref q2, .ref q3, .null, .null, .null, .null, .null, .int 0, .int 0, .int 0, .int 0, .int 0, .int 0]))], [(q1, .inl (cy 1, 8, .inr (.inl ((fun _ => 0)))))], [(q2, .inl (cy 0, 8, .inl ((fun _ => 0))))], [(q3, .inl (cy 0, 8, .inl ((fun _ => 0))))], [(q4, .inl (cy 0, 8, .inl ((fun _ => 0))))]] H := hP
  refine xputF (i := 0) (j := 0) (k := 3) (T := TX0) tyX0 tyX0_ok nmX0 hx hb ht tb_iX0 hown hX hP hS rfl rfl rfl (by decide) tb_43 rfl hin rfl rfl rfl (Nat.le_of_ble_eq_true rfl) dX0_init_33 (fun H locs hP hS => ?_)
  have hP : PD D A [[(h0, .inr (0, [.ref q1, .ref q2, .ref q3, .ref q4, .null, .null, .null, .null, .int 0, .int 0, .int 0, .int 0, .int 0, .int 0]))], [(q1, .inl (cy 1, 8, .inr (.inl ((fun _ => 0)))))], [(q2, .inl (cy 0, 8, .inl ((fun _ => 0))))], [(q3, .inl (cy 0, 8, .inl ((fun _ => 0))))], [(q4, .inl (cy 0, 8, .inl ((fun _ => 0))))]] H := hP
  refine lv_aload_n hx hb dX0_init_36 rfl (lv_at hl 0 rfl) ?_
  refine lv_bipush (v := 8) hx hb dX0_init_37 (by decide) ?_
  refine xnewI (N := 8) hx hb ht hX hP hS hA (by decide) (by decide) (by decide) (Nat.le_of_ble_eq_true rfl) (Nat.le_of_ble_eq_true rfl) tb_105 dX0_init_39 (fun q5 H hP hS => ?_)
  have hP : PD D A [[(h0, .inr (0, [.ref q1, .ref q2, .ref q3, .ref q4, .null, .null, .null, .null, .int 0, .int 0, .int 0, .int 0, .int 0, .int 0]))], [(q1, .inl (cy 1, 8, .inr (.inl ((fun _ => 0)))))], [(q2, .inl (cy 0, 8, .inl ((fun _ => 0))))], [(q3, .inl (cy 0, 8, .inl ((fun _ => 0))))], [(q4, .inl (cy 0, 8, .inl ((fun _ => 0))))], [(q5, .inl (cy 0, 8, .inl ((fun _ => 0))))]] H := hP
  refine xputF (i := 0) (j := 0) (k := 4) (T := TX0) tyX0 tyX0_ok nmX0 hx hb ht tb_iX0 hown hX hP hS rfl rfl rfl (by decide) tb_48 rfl hin rfl rfl rfl (Nat.le_of_ble_eq_true rfl) dX0_init_41 (fun H locs hP hS => ?_)
  have hP : PD D A [[(h0, .inr (0, [.ref q1, .ref q2, .ref q3, .ref q4, .ref q5, .null, .null, .null, .int 0, .int 0, .int 0, .int 0, .int 0, .int 0]))], [(q1, .inl (cy 1, 8, .inr (.inl ((fun _ => 0)))))], [(q2, .inl (cy 0, 8, .inl ((fun _ => 0))))], [(q3, .inl (cy 0, 8, .inl ((fun _ => 0))))], [(q4, .inl (cy 0, 8, .inl ((fun _ => 0))))], [(q5, .inl (cy 0, 8, .inl ((fun _ => 0))))]] H := hP
  refine lv_aload_n hx hb dX0_init_44 rfl (lv_at hl 0 rfl) ?_
  refine lv_bipush (v := 8) hx hb dX0_init_45 (by decide) ?_
  refine xnewI (N := 8) hx hb ht hX hP hS hA (by decide) (by decide) (by decide) (Nat.le_of_ble_eq_true rfl) (Nat.le_of_ble_eq_true rfl) tb_105 dX0_init_47 (fun q6 H hP hS => ?_)
  have hP : PD D A [[(h0, .inr (0, [.ref q1, .ref q2, .ref q3, .ref q4, .ref q5, .null, .null, .null, .int 0, .int 0, .int 0, .int 0, .int 0, .int 0]))], [(q1, .inl (cy 1, 8, .inr (.inl ((fun _ => 0)))))], [(q2, .inl (cy 0, 8, .inl ((fun _ => 0))))], [(q3, .inl (cy 0, 8, .inl ((fun _ => 0))))], [(q4, .inl (cy 0, 8, .inl ((fun _ => 0))))], [(q5, .inl (cy 0, 8, .inl ((fun _ => 0))))], [(q6, .inl (cy 0, 8, .inl ((fun _ => 0))))]] H := hP
  refine xputF (i := 0) (j := 0) (k := 5) (T := TX0) tyX0 tyX0_ok nmX0 hx hb ht tb_iX0 hown hX hP hS rfl rfl rfl (by decide) tb_50 rfl hin rfl rfl rfl (Nat.le_of_ble_eq_true rfl) dX0_init_49 (fun H locs hP hS => ?_)
  have hP : PD D A [[(h0, .inr (0, [.ref q1, .ref q2, .ref q3, .ref q4, .ref q5, .ref q6, .null, .null, .int 0, .int 0, .int 0, .int 0, .int 0, .int 0]))], [(q1, .inl (cy 1, 8, .inr (.inl ((fun _ => 0)))))], [(q2, .inl (cy 0, 8, .inl ((fun _ => 0))))], [(q3, .inl (cy 0, 8, .inl ((fun _ => 0))))], [(q4, .inl (cy 0, 8, .inl ((fun _ => 0))))], [(q5, .inl (cy 0, 8, .inl ((fun _ => 0))))], [(q6, .inl (cy 0, 8, .inl ((fun _ => 0))))]] H := hP
  refine lv_aload_n hx hb dX0_init_52 rfl (lv_at hl 0 rfl) ?_
  refine lv_bipush (v := 64) hx hb dX0_init_53 (by decide) ?_
  refine xnewI (N := 64) hx hb ht hX hP hS hA (by decide) (by decide) (by decide) (Nat.le_of_ble_eq_true rfl) (Nat.le_of_ble_eq_true rfl) tb_105 dX0_init_55 (fun q7 H hP hS => ?_)
  have hP : PD D A [[(h0, .inr (0, [.ref q1, .ref q2, .ref q3, .ref q4, .ref q5, .ref q6, .null, .null, .int 0, .int 0, .int 0, .int 0, .int 0, .int 0]))], [(q1, .inl (cy 1, 8, .inr (.inl ((fun _ => 0)))))], [(q2, .inl (cy 0, 8, .inl ((fun _ => 0))))], [(q3, .inl (cy 0, 8, .inl ((fun _ => 0))))], [(q4, .inl (cy 0, 8, .inl ((fun _ => 0))))], [(q5, .inl (cy 0, 8, .inl ((fun _ => 0))))], [(q6, .inl (cy 0, 8, .inl ((fun _ => 0))))], [(q7, .inl (cy 0, 64, .inl ((fun _ => 0))))]] H := hP
  refine xputF (i := 0) (j := 0) (k := 6) (T := TX0) tyX0 tyX0_ok nmX0 hx hb ht tb_iX0 hown hX hP hS rfl rfl rfl (by decide) tb_53 rfl hin rfl rfl rfl (Nat.le_of_ble_eq_true rfl) dX0_init_57 (fun H locs hP hS => ?_)
  have hP : PD D A [[(h0, .inr (0, [.ref q1, .ref q2, .ref q3, .ref q4, .ref q5, .ref q6, .ref q7, .null, .int 0, .int 0, .int 0, .int 0, .int 0, .int 0]))], [(q1, .inl (cy 1, 8, .inr (.inl ((fun _ => 0)))))], [(q2, .inl (cy 0, 8, .inl ((fun _ => 0))))], [(q3, .inl (cy 0, 8, .inl ((fun _ => 0))))], [(q4, .inl (cy 0, 8, .inl ((fun _ => 0))))], [(q5, .inl (cy 0, 8, .inl ((fun _ => 0))))], [(q6, .inl (cy 0, 8, .inl ((fun _ => 0))))], [(q7, .inl (cy 0, 64, .inl ((fun _ => 0))))]] H := hP
  refine lv_aload_n hx hb dX0_init_60 rfl (lv_at hl 0 rfl) ?_
  refine lv_bipush (v := 8) hx hb dX0_init_61 (by decide) ?_
  refine xnewI (N := 8) hx hb ht hX hP hS hA (by decide) (by decide) (by decide) (Nat.le_of_ble_eq_true rfl) (Nat.le_of_ble_eq_true rfl) tb_105 dX0_init_63 (fun q8 H hP hS => ?_)
  have hP : PD D A [[(h0, .inr (0, [.ref q1, .ref q2, .ref q3, .ref q4, .ref q5, .ref q6, .ref q7, .null, .int 0, .int 0, .int 0, .int 0, .int 0, .int 0]))], [(q1, .inl (cy 1, 8, .inr (.inl ((fun _ => 0)))))], [(q2, .inl (cy 0, 8, .inl ((fun _ => 0))))], [(q3, .inl (cy 0, 8, .inl ((fun _ => 0))))], [(q4, .inl (cy 0, 8, .inl ((fun _ => 0))))], [(q5, .inl (cy 0, 8, .inl ((fun _ => 0))))], [(q6, .inl (cy 0, 8, .inl ((fun _ => 0))))], [(q7, .inl (cy 0, 64, .inl ((fun _ => 0))))], [(q8, .inl (cy 0, 8, .inl ((fun _ => 0))))]] H := hP
  refine xputF (i := 0) (j := 0) (k := 7) (T := TX0) tyX0 tyX0_ok nmX0 hx hb ht tb_iX0 hown hX hP hS rfl rfl rfl (by decide) tb_54 rfl hin rfl rfl rfl (Nat.le_of_ble_eq_true rfl) dX0_init_65 (fun H locs hP hS => ?_)
  have hP : PD D A [[(h0, .inr (0, [.ref q1, .ref q2, .ref q3, .ref q4, .ref q5, .ref q6, .ref q7, .ref q8, .int 0, .int 0, .int 0, .int 0, .int 0, .int 0]))], [(q1, .inl (cy 1, 8, .inr (.inl ((fun _ => 0)))))], [(q2, .inl (cy 0, 8, .inl ((fun _ => 0))))], [(q3, .inl (cy 0, 8, .inl ((fun _ => 0))))], [(q4, .inl (cy 0, 8, .inl ((fun _ => 0))))], [(q5, .inl (cy 0, 8, .inl ((fun _ => 0))))], [(q6, .inl (cy 0, 8, .inl ((fun _ => 0))))], [(q7, .inl (cy 0, 64, .inl ((fun _ => 0))))], [(q8, .inl (cy 0, 8, .inl ((fun _ => 0))))]] H := hP
  refine lv_aload_n hx hb dX0_init_68 rfl (lv_at hl 0 rfl) ?_
  refine lv_iconst (v := 0) hx hb dX0_init_69 (by decide) ?_
  refine xput (i := 0) (j := 0) (k := 8) (T := TX0) tyX0 tyX0_ok nmX0 hx hb ht tb_iX0 hown hX hP hS rfl rfl rfl (by decide) tb_55 rfl rfl rfl (Nat.le_of_ble_eq_true rfl) dX0_init_70 (fun H locs hP hS => ?_)
  have hP : PD D A [[(h0, .inr (0, [.ref q1, .ref q2, .ref q3, .ref q4, .ref q5, .ref q6, .ref q7, .ref q8, .int 0, .int 0, .int 0, .int 0, .int 0, .int 0]))], [(q1, .inl (cy 1, 8, .inr (.inl ((fun _ => 0)))))], [(q2, .inl (cy 0, 8, .inl ((fun _ => 0))))], [(q3, .inl (cy 0, 8, .inl ((fun _ => 0))))], [(q4, .inl (cy 0, 8, .inl ((fun _ => 0))))], [(q5, .inl (cy 0, 8, .inl ((fun _ => 0))))], [(q6, .inl (cy 0, 8, .inl ((fun _ => 0))))], [(q7, .inl (cy 0, 64, .inl ((fun _ => 0))))], [(q8, .inl (cy 0, 8, .inl ((fun _ => 0))))]] H := hP
  refine lv_aload_n hx hb dX0_init_73 rfl (lv_at hl 0 rfl) ?_
  refine lv_iconst (v := 0) hx hb dX0_init_74 (by decide) ?_
  refine xput (i := 0) (j := 0) (k := 9) (T := TX0) tyX0 tyX0_ok nmX0 hx hb ht tb_iX0 hown hX hP hS rfl rfl rfl (by decide) tb_61 rfl rfl rfl (Nat.le_of_ble_eq_true rfl) dX0_init_75 (fun H locs hP hS => ?_)
  have hP : PD D A [[(h0, .inr (0, [.ref q1, .ref q2, .ref q3, .ref q4, .ref q5, .ref q6, .ref q7, .ref q8, .int 0, .int 0, .int 0, .int 0, .int 0, .int 0]))], [(q1, .inl (cy 1, 8, .inr (.inl ((fun _ => 0)))))], [(q2, .inl (cy 0, 8, .inl ((fun _ => 0))))], [(q3, .inl (cy 0, 8, .inl ((fun _ => 0))))], [(q4, .inl (cy 0, 8, .inl ((fun _ => 0))))], [(q5, .inl (cy 0, 8, .inl ((fun _ => 0))))], [(q6, .inl (cy 0, 8, .inl ((fun _ => 0))))], [(q7, .inl (cy 0, 64, .inl ((fun _ => 0))))], [(q8, .inl (cy 0, 8, .inl ((fun _ => 0))))]] H := hP
  refine lv_aload_n hx hb dX0_init_78 rfl (lv_at hl 0 rfl) ?_
  refine lv_iconst (v := 1) hx hb dX0_init_79 (by decide) ?_
  refine xput (i := 0) (j := 0) (k := 10) (T := TX0) tyX0 tyX0_ok nmX0 hx hb ht tb_iX0 hown hX hP hS rfl rfl rfl (by decide) tb_65 rfl rfl rfl (Nat.le_of_ble_eq_true rfl) dX0_init_80 (fun H locs hP hS => ?_)
  have hP : PD D A [[(h0, .inr (0, [.ref q1, .ref q2, .ref q3, .ref q4, .ref q5, .ref q6, .ref q7, .ref q8, .int 0, .int 0, .int 1, .int 0, .int 0, .int 0]))], [(q1, .inl (cy 1, 8, .inr (.inl ((fun _ => 0)))))], [(q2, .inl (cy 0, 8, .inl ((fun _ => 0))))], [(q3, .inl (cy 0, 8, .inl ((fun _ => 0))))], [(q4, .inl (cy 0, 8, .inl ((fun _ => 0))))], [(q5, .inl (cy 0, 8, .inl ((fun _ => 0))))], [(q6, .inl (cy 0, 8, .inl ((fun _ => 0))))], [(q7, .inl (cy 0, 64, .inl ((fun _ => 0))))], [(q8, .inl (cy 0, 8, .inl ((fun _ => 0))))]] H := hP
  refine lv_aload_n hx hb dX0_init_83 rfl (lv_at hl 0 rfl) ?_
  refine lv_bipush (v := 50) hx hb dX0_init_84 (by decide) ?_
  refine xput (i := 0) (j := 0) (k := 11) (T := TX0) tyX0 tyX0_ok nmX0 hx hb ht tb_iX0 hown hX hP hS rfl rfl rfl (by decide) tb_68 rfl rfl rfl (Nat.le_of_ble_eq_true rfl) dX0_init_86 (fun H locs hP hS => ?_)
  have hP : PD D A [[(h0, .inr (0, [.ref q1, .ref q2, .ref q3, .ref q4, .ref q5, .ref q6, .ref q7, .ref q8, .int 0, .int 0, .int 1, .int 50, .int 0, .int 0]))], [(q1, .inl (cy 1, 8, .inr (.inl ((fun _ => 0)))))], [(q2, .inl (cy 0, 8, .inl ((fun _ => 0))))], [(q3, .inl (cy 0, 8, .inl ((fun _ => 0))))], [(q4, .inl (cy 0, 8, .inl ((fun _ => 0))))], [(q5, .inl (cy 0, 8, .inl ((fun _ => 0))))], [(q6, .inl (cy 0, 8, .inl ((fun _ => 0))))], [(q7, .inl (cy 0, 64, .inl ((fun _ => 0))))], [(q8, .inl (cy 0, 8, .inl ((fun _ => 0))))]] H := hP
  refine lv_aload_n hx hb dX0_init_89 rfl (lv_at hl 0 rfl) ?_
  refine lv_iconst (v := 0) hx hb dX0_init_90 (by decide) ?_
  refine xput (i := 0) (j := 0) (k := 12) (T := TX0) tyX0 tyX0_ok nmX0 hx hb ht tb_iX0 hown hX hP hS rfl rfl rfl (by decide) tb_71 rfl rfl rfl (Nat.le_of_ble_eq_true rfl) dX0_init_91 (fun H locs hP hS => ?_)
  have hP : PD D A [[(h0, .inr (0, [.ref q1, .ref q2, .ref q3, .ref q4, .ref q5, .ref q6, .ref q7, .ref q8, .int 0, .int 0, .int 1, .int 50, .int 0, .int 0]))], [(q1, .inl (cy 1, 8, .inr (.inl ((fun _ => 0)))))], [(q2, .inl (cy 0, 8, .inl ((fun _ => 0))))], [(q3, .inl (cy 0, 8, .inl ((fun _ => 0))))], [(q4, .inl (cy 0, 8, .inl ((fun _ => 0))))], [(q5, .inl (cy 0, 8, .inl ((fun _ => 0))))], [(q6, .inl (cy 0, 8, .inl ((fun _ => 0))))], [(q7, .inl (cy 0, 64, .inl ((fun _ => 0))))], [(q8, .inl (cy 0, 8, .inl ((fun _ => 0))))]] H := hP
  refine lv_aload_n hx hb dX0_init_94 rfl (lv_at hl 0 rfl) ?_
  refine lv_iconst (v := 0) hx hb dX0_init_95 (by decide) ?_
  refine xput (i := 0) (j := 0) (k := 13) (T := TX0) tyX0 tyX0_ok nmX0 hx hb ht tb_iX0 hown hX hP hS rfl rfl rfl (by decide) tb_73 rfl rfl rfl (Nat.le_of_ble_eq_true rfl) dX0_init_96 (fun H locs hP hS => ?_)
  have hP : PD D A [[(h0, .inr (0, [.ref q1, .ref q2, .ref q3, .ref q4, .ref q5, .ref q6, .ref q7, .ref q8, .int 0, .int 0, .int 1, .int 50, .int 0, .int 0]))], [(q1, .inl (cy 1, 8, .inr (.inl ((fun _ => 0)))))], [(q2, .inl (cy 0, 8, .inl ((fun _ => 0))))], [(q3, .inl (cy 0, 8, .inl ((fun _ => 0))))], [(q4, .inl (cy 0, 8, .inl ((fun _ => 0))))], [(q5, .inl (cy 0, 8, .inl ((fun _ => 0))))], [(q6, .inl (cy 0, 8, .inl ((fun _ => 0))))], [(q7, .inl (cy 0, 64, .inl ((fun _ => 0))))], [(q8, .inl (cy 0, 8, .inl ((fun _ => 0))))]] H := hP
  refine W.widen (k := 8) (n := 120) (Nat.le_of_ble_eq_true rfl) (Nat.le_of_ble_eq_true rfl) ?_
  exact W.vret hx hb hr (fun t ht9 _ => ⟨⟨adf [h0, q1, q2, q3, q4, q5, q6, q7, q8], rfl, rfl, PDt ht9 ⟨hP.1, hP.2⟩⟩, hS.F ht9⟩) hS.2.2 dX0_init_99
theorem dX9_init_0 : decode cX9_init 0 = .ok (.aload_n 0, 1) := by decide +kernel
theorem dX9_init_1 : decode cX9_init 1 = .ok (.invokespecial 3, 3) := by decide +kernel
theorem dX9_init_4 : decode cX9_init 4 = .ok (.aload_n 0, 1) := by decide +kernel
theorem dX9_init_5 : decode cX9_init 5 = .ok (.bipush 60, 2) := by decide +kernel
theorem dX9_init_7 : decode cX9_init 7 = .ok (.newarray .int, 2) := by decide +kernel
theorem dX9_init_9 : decode cX9_init 9 = .ok (.putfield 9, 3) := by decide +kernel
theorem dX9_init_12 : decode cX9_init 12 = .ok (.aload_n 0, 1) := by decide +kernel
theorem dX9_init_13 : decode cX9_init 13 = .ok (.bipush 60, 2) := by decide +kernel
theorem dX9_init_15 : decode cX9_init 15 = .ok (.newarray .int, 2) := by decide +kernel
theorem dX9_init_17 : decode cX9_init 17 = .ok (.putfield 15, 3) := by decide +kernel
theorem dX9_init_20 : decode cX9_init 20 = .ok (.aload_n 0, 1) := by decide +kernel
theorem dX9_init_21 : decode cX9_init 21 = .ok (.bipush 60, 2) := by decide +kernel
theorem dX9_init_23 : decode cX9_init 23 = .ok (.newarray .int, 2) := by decide +kernel
theorem dX9_init_25 : decode cX9_init 25 = .ok (.putfield 18, 3) := by decide +kernel
theorem dX9_init_28 : decode cX9_init 28 = .ok (.aload_n 0, 1) := by decide +kernel
theorem dX9_init_29 : decode cX9_init 29 = .ok (.bipush 60, 2) := by decide +kernel
theorem dX9_init_31 : decode cX9_init 31 = .ok (.newarray .int, 2) := by decide +kernel
theorem dX9_init_33 : decode cX9_init 33 = .ok (.putfield 21, 3) := by decide +kernel
theorem dX9_init_36 : decode cX9_init 36 = .ok (.aload_n 0, 1) := by decide +kernel
theorem dX9_init_37 : decode cX9_init 37 = .ok (.bipush 60, 2) := by decide +kernel
theorem dX9_init_39 : decode cX9_init 39 = .ok (.newarray .int, 2) := by decide +kernel
theorem dX9_init_41 : decode cX9_init 41 = .ok (.putfield 24, 3) := by decide +kernel
theorem dX9_init_44 : decode cX9_init 44 = .ok (.aload_n 0, 1) := by decide +kernel
theorem dX9_init_45 : decode cX9_init 45 = .ok (.bipush 60, 2) := by decide +kernel
theorem dX9_init_47 : decode cX9_init 47 = .ok (.newarray .int, 2) := by decide +kernel
theorem dX9_init_49 : decode cX9_init 49 = .ok (.putfield 27, 3) := by decide +kernel
theorem dX9_init_52 : decode cX9_init 52 = .ok (.aload_n 0, 1) := by decide +kernel
theorem dX9_init_53 : decode cX9_init 53 = .ok (.iconst 0, 1) := by decide +kernel
theorem dX9_init_54 : decode cX9_init 54 = .ok (.putfield 30, 3) := by decide +kernel
theorem dX9_init_57 : decode cX9_init 57 = .ok (.aload_n 0, 1) := by decide +kernel
theorem dX9_init_58 : decode cX9_init 58 = .ok (.iconst 0, 1) := by decide +kernel
theorem dX9_init_59 : decode cX9_init 59 = .ok (.putfield 34, 3) := by decide +kernel
theorem dX9_init_62 : decode cX9_init 62 = .ok (.aload_n 0, 1) := by decide +kernel
theorem dX9_init_63 : decode cX9_init 63 = .ok (.iconst 0, 1) := by decide +kernel
theorem dX9_init_64 : decode cX9_init 64 = .ok (.putfield 38, 3) := by decide +kernel
theorem dX9_init_67 : decode cX9_init 67 = .ok (.return_, 1) := by decide +kernel
theorem mi_X9 : MI yX9_init cX9_init 1 0 := ⟨tb_110, tb_109, tb_3, rfl, by decide +kernel, by decide +kernel, by decide +kernel⟩
abbrev rmn_X9 : Room := { frames := 1, cells := 6, slots := 360, locals := 40 }
set_option maxHeartbeats 8000000 in
set_option maxRecDepth 100000 in
theorem n_X9 (l : Launch) (D : va_G) (cy : Nat → ClassId) (tO : Nat) (aK aV : Nat → Nat) (h0 sz : Nat) : Met l yX9_init (WW yX9_init cX9_init 1 none) rmn_X9 (Cd D cy tO aK aV [.ref h0] (h0, .inr (8, [.null, .null, .null, .null, .null, .null, .int 0, .int 0, .int 0])) sz) (va_Qv (fun (u : Nat → Nat) => u 0 = h0) (fun u t => PD D (va_A [(h0, .inr (8, [.null, .null, .null, .null, .null, .null, .int 0, .int 0, .int 0]))] sz) [bl_X9 cy u ((fun _ => 0)) ((fun _ => 0)) ((fun _ => 0)) ((fun _ => 0)) ((fun _ => 0)) ((fun _ => 0)) 0 0 0] t.heap) (va_A [(h0, .inr (8, [.null, .null, .null, .null, .null, .null, .int 0, .int 0, .int 0]))] sz)) 6 360 (va_A [(h0, .inr (8, [.null, .null, .null, .null, .null, .null, .int 0, .int 0, .int 0]))] sz) := by
  refine Met.ofW (cc := cX9_init) (maxL := 1) (ret := none) (by decide) rfl ?_
  intro p e s m args below meth c s₁ B hml hv
  obtain ⟨hargs, hP, hC, hsz⟩ := hv
  have hx := B.exec
  have hb := B.bytes
  have hr := B.returns
  have ht : ∀ w ∈ lw_gd, w.before args s = true := fun w hw => atoms_spec (ws := WW yX9_init cX9_init 1 none) B.pre w (List.mem_cons_of_mem _ hw)
  have hown : s.vm.findClass RX9 = some m.cls := findClass_of_methodNamed B.named
  have hlocks := B.notSynchronized
  have hin : meth.name = "<init>" := (name_of_methodNamed B.named B.method).1
  subst hsz
  have hP : PD D (va_A [(h0, .inr (8, [.null, .null, .null, .null, .null, .null, .int 0, .int 0, .int 0]))] s.heap.size) [[(h0, .inr (8, [.null, .null, .null, .null, .null, .null, .int 0, .int 0, .int 0]))]] s.heap := ⟨hP, D_one⟩
  generalize hAe : va_A [(h0, .inr (8, [.null, .null, .null, .null, .null, .null, .int 0, .int 0, .int 0]))] s.heap.size = A at hP hC ⊢
  have hA : ∀ q : Nat, s.heap.size ≤ q → A q := fun q h => by rw [← hAe]; exact Or.inr h
  have hX := hC.1
  have hE := hC.2.1
  have hS : va_S A s.heap s.heap [] := va_S.rf
  obtain ⟨ls, hl, hent⟩ := ent (m := m) (n := 1) hargs (Nat.le_of_ble_eq_true rfl) (lv := [(0, .ref h0)]) rfl
  rw [hent]
  clear hent
  refine lv_aload_n hx hb dX9_init_0 rfl (lv_at hl 0 rfl) ?_
  refine W.objInit hx hb hown (ht _ tb_111) (ht _ tb_28) (ht _ tb_29) rfl (by rw [hml]; exact hl.1) rfl dX9_init_1 (Nat.le_of_ble_eq_true rfl) (Nat.le_of_ble_eq_true rfl) ?_
  refine W.eq (g2 := F0 m 4 ls []) rfl ?_
  refine lv_aload_n hx hb dX9_init_4 rfl (lv_at hl 0 rfl) ?_
  refine lv_bipush (v := 60) hx hb dX9_init_5 (by decide) ?_
  refine xnewI (N := 60) hx hb ht hX hP hS hA (by decide) (by decide) (by decide) (Nat.le_of_ble_eq_true rfl) (Nat.le_of_ble_eq_true rfl) tb_105 dX9_init_7 (fun q1 H hP hS => ?_)
  have hP : PD D A [[(h0, .inr (8, [.null, .null, .null, .null, .null, .null, .int 0, .int 0, .int 0]))], [(q1, .inl (cy 0, 60, .inl ((fun _ => 0))))]] H := hP
  refine xputF (i := 0) (j := 0) (k := 0) (T := TX9) tyX9 tyX9_ok nmX9 hx hb ht tb_iX9 hown hX hP hS rfl rfl rfl (by decide) tb_112 rfl hin rfl rfl rfl (Nat.le_of_ble_eq_true rfl) dX9_init_9 (fun H locs hP hS => ?_)
  have hP : PD D A [[(h0, .inr (8, [.ref q1, .null, .null, .null, .null, .null, .int 0, .int 0, .int 0]))], [(q1, .inl (cy 0, 60, .inl ((fun _ => 0))))]] H := hP
  refine lv_aload_n hx hb dX9_init_12 rfl (lv_at hl 0 rfl) ?_
  refine lv_bipush (v := 60) hx hb dX9_init_13 (by decide) ?_
  refine xnewI (N := 60) hx hb ht hX hP hS hA (by decide) (by decide) (by decide) (Nat.le_of_ble_eq_true rfl) (Nat.le_of_ble_eq_true rfl) tb_105 dX9_init_15 (fun q2 H hP hS => ?_)
  have hP : PD D A [[(h0, .inr (8, [.ref q1, .null, .null, .null, .null, .null, .int 0, .int 0, .int 0]))], [(q1, .inl (cy 0, 60, .inl ((fun _ => 0))))], [(q2, .inl (cy 0, 60, .inl ((fun _ => 0))))]] H := hP
  refine xputF (i := 0) (j := 0) (k := 1) (T := TX9) tyX9 tyX9_ok nmX9 hx hb ht tb_iX9 hown hX hP hS rfl rfl rfl (by decide) tb_114 rfl hin rfl rfl rfl (Nat.le_of_ble_eq_true rfl) dX9_init_17 (fun H locs hP hS => ?_)
  have hP : PD D A [[(h0, .inr (8, [.ref q1, .ref q2, .null, .null, .null, .null, .int 0, .int 0, .int 0]))], [(q1, .inl (cy 0, 60, .inl ((fun _ => 0))))], [(q2, .inl (cy 0, 60, .inl ((fun _ => 0))))]] H := hP
  refine lv_aload_n hx hb dX9_init_20 rfl (lv_at hl 0 rfl) ?_
  refine lv_bipush (v := 60) hx hb dX9_init_21 (by decide) ?_
  refine xnewI (N := 60) hx hb ht hX hP hS hA (by decide) (by decide) (by decide) (Nat.le_of_ble_eq_true rfl) (Nat.le_of_ble_eq_true rfl) tb_105 dX9_init_23 (fun q3 H hP hS => ?_)
  have hP : PD D A [[(h0, .inr (8, [.ref q1, .ref q2, .null, .null, .null, .null, .int 0, .int 0, .int 0]))], [(q1, .inl (cy 0, 60, .inl ((fun _ => 0))))], [(q2, .inl (cy 0, 60, .inl ((fun _ => 0))))], [(q3, .inl (cy 0, 60, .inl ((fun _ => 0))))]] H := hP
  refine xputF (i := 0) (j := 0) (k := 2) (T := TX9) tyX9 tyX9_ok nmX9 hx hb ht tb_iX9 hown hX hP hS rfl rfl rfl (by decide) tb_117 rfl hin rfl rfl rfl (Nat.le_of_ble_eq_true rfl) dX9_init_25 (fun H locs hP hS => ?_)
  have hP : PD D A [[(h0, .inr (8, [.ref q1, .ref q2, .ref q3, .null, .null, .null, .int 0, .int 0, .int 0]))], [(q1, .inl (cy 0, 60, .inl ((fun _ => 0))))], [(q2, .inl (cy 0, 60, .inl ((fun _ => 0))))], [(q3, .inl (cy 0, 60, .inl ((fun _ => 0))))]] H := hP
  refine lv_aload_n hx hb dX9_init_28 rfl (lv_at hl 0 rfl) ?_
  refine lv_bipush (v := 60) hx hb dX9_init_29 (by decide) ?_
  refine xnewI (N := 60) hx hb ht hX hP hS hA (by decide) (by decide) (by decide) (Nat.le_of_ble_eq_true rfl) (Nat.le_of_ble_eq_true rfl) tb_105 dX9_init_31 (fun q4 H hP hS => ?_)
  have hP : PD D A [[(h0, .inr (8, [.ref q1, .ref q2, .ref q3, .null, .null, .null, .int 0, .int 0, .int 0]))], [(q1, .inl (cy 0, 60, .inl ((fun _ => 0))))], [(q2, .inl (cy 0, 60, .inl ((fun _ => 0))))], [(q3, .inl (cy 0, 60, .inl ((fun _ => 0))))], [(q4, .inl (cy 0, 60, .inl ((fun _ => 0))))]] H := hP
  refine xputF (i := 0) (j := 0) (k := 3) (T := TX9) tyX9 tyX9_ok nmX9 hx hb ht tb_iX9 hown hX hP hS rfl rfl rfl (by decide) tb_120 rfl hin rfl rfl rfl (Nat.le_of_ble_eq_true rfl) dX9_init_33 (fun H locs hP hS => ?_)
  have hP : PD D A [[(h0, .inr (8, [.ref q1, .ref q2, .ref q3, .ref q4, .null, .null, .int 0, .int 0, .int 0]))], [(q1, .inl (cy 0, 60, .inl ((fun _ => 0))))], [(q2, .inl (cy 0, 60, .inl ((fun _ => 0))))], [(q3, .inl (cy 0, 60, .inl ((fun _ => 0))))], [(q4, .inl (cy 0, 60, .inl ((fun _ => 0))))]] H := hP
  refine lv_aload_n hx hb dX9_init_36 rfl (lv_at hl 0 rfl) ?_
  refine lv_bipush (v := 60) hx hb dX9_init_37 (by decide) ?_
  refine xnewI (N := 60) hx hb ht hX hP hS hA (by decide) (by decide) (by decide) (Nat.le_of_ble_eq_true rfl) (Nat.le_of_ble_eq_true rfl) tb_105 dX9_init_39 (fun q5 H hP hS => ?_)
  have hP : PD D A [[(h0, .inr (8, [.ref q1, .ref q2, .ref q3, .ref q4, .null, .null, .int 0, .int 0, .int 0]))], [(q1, .inl (cy 0, 60, .inl ((fun _ => 0))))], [(q2, .inl (cy 0, 60, .inl ((fun _ => 0))))], [(q3, .inl (cy 0, 60, .inl ((fun _ => 0))))], [(q4, .inl (cy 0, 60, .inl ((fun _ => 0))))], [(q5, .inl (cy 0, 60, .inl ((fun _ => 0))))]] H := hP
  refine xputF (i := 0) (j := 0) (k := 4) (T := TX9) tyX9 tyX9_ok nmX9 hx hb ht tb_iX9 hown hX hP hS rfl rfl rfl (by decide) tb_123 rfl hin rfl rfl rfl (Nat.le_of_ble_eq_true rfl) dX9_init_41 (fun H locs hP hS => ?_)
  have hP : PD D A [[(h0, .inr (8, [.ref q1, .ref q2, .ref q3, .ref q4, .ref q5, .null, .int 0, .int 0, .int 0]))], [(q1, .inl (cy 0, 60, .inl ((fun _ => 0))))], [(q2, .inl (cy 0, 60, .inl ((fun _ => 0))))], [(q3, .inl (cy 0, 60, .inl ((fun _ => 0))))], [(q4, .inl (cy 0, 60, .inl ((fun _ => 0))))], [(q5, .inl (cy 0, 60, .inl ((fun _ => 0))))]] H := hP
  refine lv_aload_n hx hb dX9_init_44 rfl (lv_at hl 0 rfl) ?_
  refine lv_bipush (v := 60) hx hb dX9_init_45 (by decide) ?_
  refine xnewI (N := 60) hx hb ht hX hP hS hA (by decide) (by decide) (by decide) (Nat.le_of_ble_eq_true rfl) (Nat.le_of_ble_eq_true rfl) tb_105 dX9_init_47 (fun q6 H hP hS => ?_)
  have hP : PD D A [[(h0, .inr (8, [.ref q1, .ref q2, .ref q3, .ref q4, .ref q5, .null, .int 0, .int 0, .int 0]))], [(q1, .inl (cy 0, 60, .inl ((fun _ => 0))))], [(q2, .inl (cy 0, 60, .inl ((fun _ => 0))))], [(q3, .inl (cy 0, 60, .inl ((fun _ => 0))))], [(q4, .inl (cy 0, 60, .inl ((fun _ => 0))))], [(q5, .inl (cy 0, 60, .inl ((fun _ => 0))))], [(q6, .inl (cy 0, 60, .inl ((fun _ => 0))))]] H := hP
  refine xputF (i := 0) (j := 0) (k := 5) (T := TX9) tyX9 tyX9_ok nmX9 hx hb ht tb_iX9 hown hX hP hS rfl rfl rfl (by decide) tb_126 rfl hin rfl rfl rfl (Nat.le_of_ble_eq_true rfl) dX9_init_49 (fun H locs hP hS => ?_)
  have hP : PD D A [[(h0, .inr (8, [.ref q1, .ref q2, .ref q3, .ref q4, .ref q5, .ref q6, .int 0, .int 0, .int 0]))], [(q1, .inl (cy 0, 60, .inl ((fun _ => 0))))], [(q2, .inl (cy 0, 60, .inl ((fun _ => 0))))], [(q3, .inl (cy 0, 60, .inl ((fun _ => 0))))], [(q4, .inl (cy 0, 60, .inl ((fun _ => 0))))], [(q5, .inl (cy 0, 60, .inl ((fun _ => 0))))], [(q6, .inl (cy 0, 60, .inl ((fun _ => 0))))]] H := hP
  refine lv_aload_n hx hb dX9_init_52 rfl (lv_at hl 0 rfl) ?_
  refine lv_iconst (v := 0) hx hb dX9_init_53 (by decide) ?_
  refine xput (i := 0) (j := 0) (k := 6) (T := TX9) tyX9 tyX9_ok nmX9 hx hb ht tb_iX9 hown hX hP hS rfl rfl rfl (by decide) tb_128 rfl rfl rfl (Nat.le_of_ble_eq_true rfl) dX9_init_54 (fun H locs hP hS => ?_)
  have hP : PD D A [[(h0, .inr (8, [.ref q1, .ref q2, .ref q3, .ref q4, .ref q5, .ref q6, .int 0, .int 0, .int 0]))], [(q1, .inl (cy 0, 60, .inl ((fun _ => 0))))], [(q2, .inl (cy 0, 60, .inl ((fun _ => 0))))], [(q3, .inl (cy 0, 60, .inl ((fun _ => 0))))], [(q4, .inl (cy 0, 60, .inl ((fun _ => 0))))], [(q5, .inl (cy 0, 60, .inl ((fun _ => 0))))], [(q6, .inl (cy 0, 60, .inl ((fun _ => 0))))]] H := hP
  refine lv_aload_n hx hb dX9_init_57 rfl (lv_at hl 0 rfl) ?_
  refine lv_iconst (v := 0) hx hb dX9_init_58 (by decide) ?_
  refine xput (i := 0) (j := 0) (k := 7) (T := TX9) tyX9 tyX9_ok nmX9 hx hb ht tb_iX9 hown hX hP hS rfl rfl rfl (by decide) tb_131 rfl rfl rfl (Nat.le_of_ble_eq_true rfl) dX9_init_59 (fun H locs hP hS => ?_)
  have hP : PD D A [[(h0, .inr (8, [.ref q1, .ref q2, .ref q3, .ref q4, .ref q5, .ref q6, .int 0, .int 0, .int 0]))], [(q1, .inl (cy 0, 60, .inl ((fun _ => 0))))], [(q2, .inl (cy 0, 60, .inl ((fun _ => 0))))], [(q3, .inl (cy 0, 60, .inl ((fun _ => 0))))], [(q4, .inl (cy 0, 60, .inl ((fun _ => 0))))], [(q5, .inl (cy 0, 60, .inl ((fun _ => 0))))], [(q6, .inl (cy 0, 60, .inl ((fun _ => 0))))]] H := hP
  refine lv_aload_n hx hb dX9_init_62 rfl (lv_at hl 0 rfl) ?_
  refine lv_iconst (v := 0) hx hb dX9_init_63 (by decide) ?_
  refine xput (i := 0) (j := 0) (k := 8) (T := TX9) tyX9 tyX9_ok nmX9 hx hb ht tb_iX9 hown hX hP hS rfl rfl rfl (by decide) tb_134 rfl rfl rfl (Nat.le_of_ble_eq_true rfl) dX9_init_64 (fun H locs hP hS => ?_)
  have hP : PD D A [[(h0, .inr (8, [.ref q1, .ref q2, .ref q3, .ref q4, .ref q5, .ref q6, .int 0, .int 0, .int 0]))], [(q1, .inl (cy 0, 60, .inl ((fun _ => 0))))], [(q2, .inl (cy 0, 60, .inl ((fun _ => 0))))], [(q3, .inl (cy 0, 60, .inl ((fun _ => 0))))], [(q4, .inl (cy 0, 60, .inl ((fun _ => 0))))], [(q5, .inl (cy 0, 60, .inl ((fun _ => 0))))], [(q6, .inl (cy 0, 60, .inl ((fun _ => 0))))]] H := hP
  refine W.widen (k := 6) (n := 360) (Nat.le_of_ble_eq_true rfl) (Nat.le_of_ble_eq_true rfl) ?_
  exact W.vret hx hb hr (fun t ht9 _ => ⟨⟨adf [h0, q1, q2, q3, q4, q5, q6], rfl, rfl, PDt ht9 ⟨hP.1, hP.2⟩⟩, hS.F ht9⟩) hS.2.2 dX9_init_67
theorem dX8_init_0 : decode cX8_init 0 = .ok (.aload_n 0, 1) := by decide +kernel
theorem dX8_init_1 : decode cX8_init 1 = .ok (.invokespecial 3, 3) := by decide +kernel
theorem dX8_init_4 : decode cX8_init 4 = .ok (.aload_n 0, 1) := by decide +kernel
theorem dX8_init_5 : decode cX8_init 5 = .ok (.bipush 60, 2) := by decide +kernel
theorem dX8_init_7 : decode cX8_init 7 = .ok (.newarray .long, 2) := by decide +kernel
theorem dX8_init_9 : decode cX8_init 9 = .ok (.putfield 9, 3) := by decide +kernel
theorem dX8_init_12 : decode cX8_init 12 = .ok (.aload_n 0, 1) := by decide +kernel
theorem dX8_init_13 : decode cX8_init 13 = .ok (.iconst 1, 1) := by decide +kernel
theorem dX8_init_14 : decode cX8_init 14 = .ok (.putfield 15, 3) := by decide +kernel
theorem dX8_init_17 : decode cX8_init 17 = .ok (.aload_n 0, 1) := by decide +kernel
theorem dX8_init_18 : decode cX8_init 18 = .ok (.iconst 0, 1) := by decide +kernel
theorem dX8_init_19 : decode cX8_init 19 = .ok (.putfield 19, 3) := by decide +kernel
theorem dX8_init_22 : decode cX8_init 22 = .ok (.aload_n 0, 1) := by decide +kernel
theorem dX8_init_23 : decode cX8_init 23 = .ok (.iconst 0, 1) := by decide +kernel
theorem dX8_init_24 : decode cX8_init 24 = .ok (.putfield 23, 3) := by decide +kernel
theorem dX8_init_27 : decode cX8_init 27 = .ok (.return_, 1) := by decide +kernel
theorem mi_X8 : MI yX8_init cX8_init 1 0 := ⟨tb_411, tb_410, tb_15, rfl, by decide +kernel, by decide +kernel, by decide +kernel⟩
abbrev rmn_X8 : Room := { frames := 1, cells := 1, slots := 60, locals := 40 }
set_option maxHeartbeats 8000000 in
set_option maxRecDepth 100000 in
theorem n_X8 (l : Launch) (D : va_G) (cy : Nat → ClassId) (tO : Nat) (aK aV : Nat → Nat) (h0 sz : Nat) : Met l yX8_init (WW yX8_init cX8_init 1 none) rmn_X8 (Cd D cy tO aK aV [.ref h0] (h0, .inr (7, [.null, .int 0, .int 0, .int 0])) sz) (va_Qv (fun (u : Nat → Nat) => u 0 = h0) (fun u t => PD D (va_A [(h0, .inr (7, [.null, .int 0, .int 0, .int 0]))] sz) [bl_X8 cy u ((fun _ => 0)) 1 0 0] t.heap) (va_A [(h0, .inr (7, [.null, .int 0, .int 0, .int 0]))] sz)) 1 60 (va_A [(h0, .inr (7, [.null, .int 0, .int 0, .int 0]))] sz) := by
  refine Met.ofW (cc := cX8_init) (maxL := 1) (ret := none) (by decide) rfl ?_
  intro p e s m args below meth c s₁ B hml hv
  obtain ⟨hargs, hP, hC, hsz⟩ := hv
  have hx := B.exec
  have hb := B.bytes
  have hr := B.returns
  have ht : ∀ w ∈ lw_gd, w.before args s = true := fun w hw => atoms_spec (ws := WW yX8_init cX8_init 1 none) B.pre w (List.mem_cons_of_mem _ hw)
  have hown : s.vm.findClass RX8 = some m.cls := findClass_of_methodNamed B.named
  have hlocks := B.notSynchronized
  have hin : meth.name = "<init>" := (name_of_methodNamed B.named B.method).1
  subst hsz
  have hP : PD D (va_A [(h0, .inr (7, [.null, .int 0, .int 0, .int 0]))] s.heap.size) [[(h0, .inr (7, [.null, .int 0, .int 0, .int 0]))]] s.heap := ⟨hP, D_one⟩
  generalize hAe : va_A [(h0, .inr (7, [.null, .int 0, .int 0, .int 0]))] s.heap.size = A at hP hC ⊢
  have hA : ∀ q : Nat, s.heap.size ≤ q → A q := fun q h => by rw [← hAe]; exact Or.inr h
  have hX := hC.1
  have hE := hC.2.1
  have hS : va_S A s.heap s.heap [] := va_S.rf
  obtain ⟨ls, hl, hent⟩ := ent (m := m) (n := 1) hargs (Nat.le_of_ble_eq_true rfl) (lv := [(0, .ref h0)]) rfl
  rw [hent]
  clear hent
  refine lv_aload_n hx hb dX8_init_0 rfl (lv_at hl 0 rfl) ?_
  refine W.objInit hx hb hown (ht _ tb_412) (ht _ tb_28) (ht _ tb_29) rfl (by rw [hml]; exact hl.1) rfl dX8_init_1 (Nat.le_of_ble_eq_true rfl) (Nat.le_of_ble_eq_true rfl) ?_
  refine W.eq (g2 := F0 m 4 ls []) rfl ?_
  refine lv_aload_n hx hb dX8_init_4 rfl (lv_at hl 0 rfl) ?_
  refine lv_bipush (v := 60) hx hb dX8_init_5 (by decide) ?_
  refine xnewJ (N := 60) hx hb ht hX hP hS hA (by decide) (by decide) (by decide) (Nat.le_of_ble_eq_true rfl) (Nat.le_of_ble_eq_true rfl) tb_104 dX8_init_7 (fun q1 H hP hS => ?_)
  have hP : PD D A [[(h0, .inr (7, [.null, .int 0, .int 0, .int 0]))], [(q1, .inl (cy 1, 60, .inr (.inl ((fun _ => 0)))))]] H := hP
  refine xputF (i := 0) (j := 0) (k := 0) (T := TX8) tyX8 tyX8_ok nmX8 hx hb ht tb_iX8 hown hX hP hS rfl rfl rfl (by decide) tb_413 rfl hin rfl rfl rfl (Nat.le_of_ble_eq_true rfl) dX8_init_9 (fun H locs hP hS => ?_)
  have hP : PD D A [[(h0, .inr (7, [.ref q1, .int 0, .int 0, .int 0]))], [(q1, .inl (cy 1, 60, .inr (.inl ((fun _ => 0)))))]] H := hP
  refine lv_aload_n hx hb dX8_init_12 rfl (lv_at hl 0 rfl) ?_
  refine lv_iconst (v := 1) hx hb dX8_init_13 (by decide) ?_
  refine xput (i := 0) (j := 0) (k := 1) (T := TX8) tyX8 tyX8_ok nmX8 hx hb ht tb_iX8 hown hX hP hS rfl rfl rfl (by decide) tb_415 rfl rfl rfl (Nat.le_of_ble_eq_true rfl) dX8_init_14 (fun H locs hP hS => ?_)
  have hP : PD D A [[(h0, .inr (7, [.ref q1, .int 1, .int 0, .int 0]))], [(q1, .inl (cy 1, 60, .inr (.inl ((fun _ => 0)))))]] H := hP
  refine lv_aload_n hx hb dX8_init_17 rfl (lv_at hl 0 rfl) ?_
  refine lv_iconst (v := 0) hx hb dX8_init_18 (by decide) ?_
  refine xput (i := 0) (j := 0) (k := 2) (T := TX8) tyX8 tyX8_ok nmX8 hx hb ht tb_iX8 hown hX hP hS rfl rfl rfl (by decide) tb_417 rfl rfl rfl (Nat.le_of_ble_eq_true rfl) dX8_init_19 (fun H locs hP hS => ?_)
  have hP : PD D A [[(h0, .inr (7, [.ref q1, .int 1, .int 0, .int 0]))], [(q1, .inl (cy 1, 60, .inr (.inl ((fun _ => 0)))))]] H := hP
  refine lv_aload_n hx hb dX8_init_22 rfl (lv_at hl 0 rfl) ?_
  refine lv_iconst (v := 0) hx hb dX8_init_23 (by decide) ?_
  refine xput (i := 0) (j := 0) (k := 3) (T := TX8) tyX8 tyX8_ok nmX8 hx hb ht tb_iX8 hown hX hP hS rfl rfl rfl (by decide) tb_419 rfl rfl rfl (Nat.le_of_ble_eq_true rfl) dX8_init_24 (fun H locs hP hS => ?_)
  have hP : PD D A [[(h0, .inr (7, [.ref q1, .int 1, .int 0, .int 0]))], [(q1, .inl (cy 1, 60, .inr (.inl ((fun _ => 0)))))]] H := hP
  refine W.widen (k := 1) (n := 60) (Nat.le_of_ble_eq_true rfl) (Nat.le_of_ble_eq_true rfl) ?_
  exact W.vret hx hb hr (fun t ht9 _ => ⟨⟨adf [h0, q1], rfl, rfl, PDt ht9 ⟨hP.1, hP.2⟩⟩, hS.F ht9⟩) hS.2.2 dX8_init_27
theorem dX1_init_0 : decode cX1_init 0 = .ok (.aload_n 0, 1) := by decide +kernel
theorem dX1_init_1 : decode cX1_init 1 = .ok (.invokespecial 3, 3) := by decide +kernel
theorem dX1_init_4 : decode cX1_init 4 = .ok (.aload_n 0, 1) := by decide +kernel
theorem dX1_init_5 : decode cX1_init 5 = .ok (.iconst 0, 1) := by decide +kernel
theorem dX1_init_6 : decode cX1_init 6 = .ok (.putfield 9, 3) := by decide +kernel
theorem dX1_init_9 : decode cX1_init 9 = .ok (.aload_n 0, 1) := by decide +kernel
theorem dX1_init_10 : decode cX1_init 10 = .ok (.iconst 0, 1) := by decide +kernel
theorem dX1_init_11 : decode cX1_init 11 = .ok (.putfield 15, 3) := by decide +kernel
theorem dX1_init_14 : decode cX1_init 14 = .ok (.aload_n 0, 1) := by decide +kernel
theorem dX1_init_15 : decode cX1_init 15 = .ok (.aload_n 1, 1) := by decide +kernel
theorem dX1_init_16 : decode cX1_init 16 = .ok (.putfield 18, 3) := by decide +kernel
theorem dX1_init_19 : decode cX1_init 19 = .ok (.aload_n 0, 1) := by decide +kernel
theorem dX1_init_20 : decode cX1_init 20 = .ok (.aload_n 2, 1) := by decide +kernel
theorem dX1_init_21 : decode cX1_init 21 = .ok (.putfield 22, 3) := by decide +kernel
theorem dX1_init_24 : decode cX1_init 24 = .ok (.return_, 1) := by decide +kernel
theorem mi_X1 : MI yX1_init cX1_init 3 2 := ⟨tb_279, tb_278, tb_10, rfl, by decide +kernel, by decide +kernel, by decide +kernel⟩
abbrev rmn_X1 : Room := { frames := 1, cells := 0, slots := 0, locals := 40 }
set_option maxHeartbeats 8000000 in
set_option maxRecDepth 100000 in
theorem n_X1 (l : Launch) (D : va_G) (cy : Nat → ClassId) (tO : Nat) (aK aV : Nat → Nat) (r1 : Nat) (r2 : Nat) (h0 sz : Nat) : Met l yX1_init (WW yX1_init cX1_init 3 none) rmn_X1 (Cd D cy tO aK aV [.ref h0, .ref r1, .ref r2] (h0, .inr (1, [.null, .null, .int 0, .int 0])) sz) (va_Qv (fun (u : Nat → Nat) => u 0 = h0) (fun u t => PD D (va_A [(h0, .inr (1, [.null, .null, .int 0, .int 0]))] sz) [bl_X1 cy u r1 r2 0 0] t.heap) (va_A [(h0, .inr (1, [.null, .null, .int 0, .int 0]))] sz)) 0 0 (va_A [(h0, .inr (1, [.null, .null, .int 0, .int 0]))] sz) := by
  refine Met.ofW (cc := cX1_init) (maxL := 3) (ret := none) (by decide) rfl ?_
  intro p e s m args below meth c s₁ B hml hv
  obtain ⟨hargs, hP, hC, hsz⟩ := hv
  have hx := B.exec
  have hb := B.bytes
  have hr := B.returns
  have ht : ∀ w ∈ lw_gd, w.before args s = true := fun w hw => atoms_spec (ws := WW yX1_init cX1_init 3 none) B.pre w (List.mem_cons_of_mem _ hw)
  have hown : s.vm.findClass RX1 = some m.cls := findClass_of_methodNamed B.named
  have hlocks := B.notSynchronized
  have hin : meth.name = "<init>" := (name_of_methodNamed B.named B.method).1
  subst hsz
  have hP : PD D (va_A [(h0, .inr (1, [.null, .null, .int 0, .int 0]))] s.heap.size) [[(h0, .inr (1, [.null, .null, .int 0, .int 0]))]] s.heap := ⟨hP, D_one⟩
  generalize hAe : va_A [(h0, .inr (1, [.null, .null, .int 0, .int 0]))] s.heap.size = A at hP hC ⊢
  have hA : ∀ q : Nat, s.heap.size ≤ q → A q := fun q h => by rw [← hAe]; exact Or.inr h
  have hX := hC.1
  have hE := hC.2.1
  have hS : va_S A s.heap s.heap [] := va_S.rf
  obtain ⟨ls, hl, hent⟩ := ent (m := m) (n := 3) hargs (Nat.le_of_ble_eq_true rfl) (lv := [(0, .ref h0), (1, .ref r1), (2, .ref r2)]) rfl
  rw [hent]
  clear hent
  refine lv_aload_n hx hb dX1_init_0 rfl (lv_at hl 0 rfl) ?_
  refine W.objInit hx hb hown (ht _ tb_280) (ht _ tb_28) (ht _ tb_29) rfl (by rw [hml]; exact hl.1) rfl dX1_init_1 (Nat.le_of_ble_eq_true rfl) (Nat.le_of_ble_eq_true rfl) ?_
  refine W.eq (g2 := F0 m 4 ls []) rfl ?_
  refine lv_aload_n hx hb dX1_init_4 rfl (lv_at hl 0 rfl) ?_
  refine lv_iconst (v := 0) hx hb dX1_init_5 (by decide) ?_
  refine xput (i := 0) (j := 0) (k := 2) (T := TX1) tyX1 tyX1_ok nmX1 hx hb ht tb_iX1 hown hX hP hS rfl rfl rfl (by decide) tb_283 rfl rfl rfl (Nat.le_of_ble_eq_true rfl) dX1_init_6 (fun H locs hP hS => ?_)
  have hP : PD D A [[(h0, .inr (1, [.null, .null, .int 0, .int 0]))]] H := hP
  refine lv_aload_n hx hb dX1_init_9 rfl (lv_at hl 0 rfl) ?_
  refine lv_iconst (v := 0) hx hb dX1_init_10 (by decide) ?_
  refine xput (i := 0) (j := 0) (k := 3) (T := TX1) tyX1 tyX1_ok nmX1 hx hb ht tb_iX1 hown hX hP hS rfl rfl rfl (by decide) tb_284 rfl rfl rfl (Nat.le_of_ble_eq_true rfl) dX1_init_11 (fun H locs hP hS => ?_)
  have hP : PD D A [[(h0, .inr (1, [.null, .null, .int 0, .int 0]))]] H := hP
  refine lv_aload_n hx hb dX1_init_14 rfl (lv_at hl 0 rfl) ?_
  refine lv_aload_n hx hb dX1_init_15 rfl (lv_at hl 1 rfl) ?_
  refine xputF (i := 0) (j := 0) (k := 0) (T := TX1) tyX1 tyX1_ok nmX1 hx hb ht tb_iX1 hown hX hP hS rfl rfl rfl (by decide) tb_281 rfl hin rfl rfl rfl (Nat.le_of_ble_eq_true rfl) dX1_init_16 (fun H locs hP hS => ?_)
  have hP : PD D A [[(h0, .inr (1, [.ref r1, .null, .int 0, .int 0]))]] H := hP
  refine lv_aload_n hx hb dX1_init_19 rfl (lv_at hl 0 rfl) ?_
  refine lv_aload_n hx hb dX1_init_20 rfl (lv_at hl 2 rfl) ?_
  refine xputF (i := 0) (j := 0) (k := 1) (T := TX1) tyX1 tyX1_ok nmX1 hx hb ht tb_iX1 hown hX hP hS rfl rfl rfl (by decide) tb_282 rfl hin rfl rfl rfl (Nat.le_of_ble_eq_true rfl) dX1_init_21 (fun H locs hP hS => ?_)
  have hP : PD D A [[(h0, .inr (1, [.ref r1, .ref r2, .int 0, .int 0]))]] H := hP
  refine W.widen (k := 0) (n := 0) (Nat.le_of_ble_eq_true rfl) (Nat.le_of_ble_eq_true rfl) ?_
  exact W.vret hx hb hr (fun t ht9 _ => ⟨⟨adf [h0], rfl, rfl, PDt ht9 ⟨hP.1, hP.2⟩⟩, hS.F ht9⟩) hS.2.2 dX1_init_24
theorem dX10_init_0 : decode cX10_init 0 = .ok (.aload_n 0, 1) := by decide +kernel
theorem dX10_init_1 : decode cX10_init 1 = .ok (.invokespecial 3, 3) := by decide +kernel
theorem dX10_init_4 : decode cX10_init 4 = .ok (.aload_n 0, 1) := by decide +kernel
theorem dX10_init_5 : decode cX10_init 5 = .ok (.iconst 3, 1) := by decide +kernel
theorem dX10_init_6 : decode cX10_init 6 = .ok (.newarray .int, 2) := by decide +kernel
theorem dX10_init_8 : decode cX10_init 8 = .ok (.putfield 9, 3) := by decide +kernel
theorem dX10_init_11 : decode cX10_init 11 = .ok (.aload_n 0, 1) := by decide +kernel
theorem dX10_init_12 : decode cX10_init 12 = .ok (.iconst 0, 1) := by decide +kernel
theorem dX10_init_13 : decode cX10_init 13 = .ok (.putfield 15, 3) := by decide +kernel
theorem dX10_init_16 : decode cX10_init 16 = .ok (.aload_n 0, 1) := by decide +kernel
theorem dX10_init_17 : decode cX10_init 17 = .ok (.aload_n 1, 1) := by decide +kernel
theorem dX10_init_18 : decode cX10_init 18 = .ok (.putfield 19, 3) := by decide +kernel
theorem dX10_init_21 : decode cX10_init 21 = .ok (.aload_n 0, 1) := by decide +kernel
theorem dX10_init_22 : decode cX10_init 22 = .ok (.aload_n 2, 1) := by decide +kernel
theorem dX10_init_23 : decode cX10_init 23 = .ok (.putfield 23, 3) := by decide +kernel
theorem dX10_init_26 : decode cX10_init 26 = .ok (.aload_n 0, 1) := by decide +kernel
theorem dX10_init_27 : decode cX10_init 27 = .ok (.aload_n 3, 1) := by decide +kernel
theorem dX10_init_28 : decode cX10_init 28 = .ok (.putfield 27, 3) := by decide +kernel
theorem dX10_init_31 : decode cX10_init 31 = .ok (.return_, 1) := by decide +kernel
theorem mi_X10 : MI yX10_init cX10_init 4 3 := ⟨tb_298, tb_297, tb_11, rfl, by decide +kernel, by decide +kernel, by decide +kernel⟩
abbrev rmn_X10 : Room := { frames := 1, cells := 1, slots := 3, locals := 40 }
set_option maxHeartbeats 8000000 in
set_option maxRecDepth 100000 in
theorem n_X10 (l : Launch) (D : va_G) (cy : Nat → ClassId) (tO : Nat) (aK aV : Nat → Nat) (r1 : Nat) (r2 : Nat) (r3 : Nat) (h0 sz : Nat) : Met l yX10_init (WW yX10_init cX10_init 4 none) rmn_X10 (Cd D cy tO aK aV [.ref h0, .ref r1, .ref r2, .ref r3] (h0, .inr (9, [.null, .null, .null, .null, .int 0])) sz) (va_Qv (fun (u : Nat → Nat) => u 0 = h0) (fun u t => PD D (va_A [(h0, .inr (9, [.null, .null, .null, .null, .int 0]))] sz) [bl_X10 cy u r1 r2 r3 ((fun _ => 0)) 0] t.heap) (va_A [(h0, .inr (9, [.null, .null, .null, .null, .int 0]))] sz)) 1 3 (va_A [(h0, .inr (9, [.null, .null, .null, .null, .int 0]))] sz) := by
  refine Met.ofW (cc := cX10_init) (maxL := 4) (ret := none) (by decide) rfl ?_
  intro p e s m args below meth c s₁ B hml hv
  obtain ⟨hargs, hP, hC, hsz⟩ := hv
  have hx := B.exec
  have hb := B.bytes
  have hr := B.returns
  have ht : ∀ w ∈ lw_gd, w.before args s = true := fun w hw => atoms_spec (ws := WW yX10_init cX10_init 4 none) B.pre w (List.mem_cons_of_mem _ hw)
  have hown : s.vm.findClass RX10 = some m.cls := findClass_of_methodNamed B.named
  have hlocks := B.notSynchronized
  have hin : meth.name = "<init>" := (name_of_methodNamed B.named B.method).1
  subst hsz
  have hP : PD D (va_A [(h0, .inr (9, [.null, .null, .null, .null, .int 0]))] s.heap.size) [[(h0, .inr (9, [.null, .null, .null, .null, .int 0]))]] s.heap := ⟨hP, D_one⟩
  generalize hAe : va_A [(h0, .inr (9, [.null, .null, .null, .null, .int 0]))] s.heap.size = A at hP hC ⊢
  have hA : ∀ q : Nat, s.heap.size ≤ q → A q := fun q h => by rw [← hAe]; exact Or.inr h
  have hX := hC.1
  have hE := hC.2.1
  have hS : va_S A s.heap s.heap [] := va_S.rf
  obtain ⟨ls, hl, hent⟩ := ent (m := m) (n := 4) hargs (Nat.le_of_ble_eq_true rfl) (lv := [(0, .ref h0), (1, .ref r1), (2, .ref r2), (3, .ref r3)]) rfl
  rw [hent]
  clear hent
  refine lv_aload_n hx hb dX10_init_0 rfl (lv_at hl 0 rfl) ?_
  refine W.objInit hx hb hown (ht _ tb_299) (ht _ tb_28) (ht _ tb_29) rfl (by rw [hml]; exact hl.1) rfl dX10_init_1 (Nat.le_of_ble_eq_true rfl) (Nat.le_of_ble_eq_true rfl) ?_
  refine W.eq (g2 := F0 m 4 ls []) rfl ?_
  refine lv_aload_n hx hb dX10_init_4 rfl (lv_at hl 0 rfl) ?_
  refine lv_iconst (v := 3) hx hb dX10_init_5 (by decide) ?_
  refine xnewI (N := 3) hx hb ht hX hP hS hA (by decide) (by decide) (by decide) (Nat.le_of_ble_eq_true rfl) (Nat.le_of_ble_eq_true rfl) tb_105 dX10_init_6 (fun q1 H hP hS => ?_)
  have hP : PD D A [[(h0, .inr (9, [.null, .null, .null, .null, .int 0]))], [(q1, .inl (cy 0, 3, .inl ((fun _ => 0))))]] H := hP
  refine xputF (i := 0) (j := 0) (k := 3) (T := TX10) tyX10 tyX10_ok nmX10 hx hb ht tb_iX10 hown hX hP hS rfl rfl rfl (by decide) tb_303 rfl hin rfl rfl rfl (Nat.le_of_ble_eq_true rfl) dX10_init_8 (fun H locs hP hS => ?_)
  have hP : PD D A [[(h0, .inr (9, [.null, .null, .null, .ref q1, .int 0]))], [(q1, .inl (cy 0, 3, .inl ((fun _ => 0))))]] H := hP
  refine lv_aload_n hx hb dX10_init_11 rfl (lv_at hl 0 rfl) ?_
  refine lv_iconst (v := 0) hx hb dX10_init_12 (by decide) ?_
  refine xput (i := 0) (j := 0) (k := 4) (T := TX10) tyX10 tyX10_ok nmX10 hx hb ht tb_iX10 hown hX hP hS rfl rfl rfl (by decide) tb_304 rfl rfl rfl (Nat.le_of_ble_eq_true rfl) dX10_init_13 (fun H locs hP hS => ?_)
  have hP : PD D A [[(h0, .inr (9, [.null, .null, .null, .ref q1, .int 0]))], [(q1, .inl (cy 0, 3, .inl ((fun _ => 0))))]] H := hP
  refine lv_aload_n hx hb dX10_init_16 rfl (lv_at hl 0 rfl) ?_
  refine lv_aload_n hx hb dX10_init_17 rfl (lv_at hl 1 rfl) ?_
  refine xputF (i := 0) (j := 0) (k := 0) (T := TX10) tyX10 tyX10_ok nmX10 hx hb ht tb_iX10 hown hX hP hS rfl rfl rfl (by decide) tb_300 rfl hin rfl rfl rfl (Nat.le_of_ble_eq_true rfl) dX10_init_18 (fun H locs hP hS => ?_)
  have hP : PD D A [[(h0, .inr (9, [.ref r1, .null, .null, .ref q1, .int 0]))], [(q1, .inl (cy 0, 3, .inl ((fun _ => 0))))]] H := hP
  refine lv_aload_n hx hb dX10_init_21 rfl (lv_at hl 0 rfl) ?_
  refine lv_aload_n hx hb dX10_init_22 rfl (lv_at hl 2 rfl) ?_
  refine xputF (i := 0) (j := 0) (k := 1) (T := TX10) tyX10 tyX10_ok nmX10 hx hb ht tb_iX10 hown hX hP hS rfl rfl rfl (by decide) tb_301 rfl hin rfl rfl rfl (Nat.le_of_ble_eq_true rfl) dX10_init_23 (fun H locs hP hS => ?_)
  have hP : PD D A [[(h0, .inr (9, [.ref r1, .ref r2, .null, .ref q1, .int 0]))], [(q1, .inl (cy 0, 3, .inl ((fun _ => 0))))]] H := hP
  refine lv_aload_n hx hb dX10_init_26 rfl (lv_at hl 0 rfl) ?_
  refine lv_aload_n hx hb dX10_init_27 rfl (lv_at hl 3 rfl) ?_
  refine xputF (i := 0) (j := 0) (k := 2) (T := TX10) tyX10 tyX10_ok nmX10 hx hb ht tb_iX10 hown hX hP hS rfl rfl rfl (by decide) tb_302 rfl hin rfl rfl rfl (Nat.le_of_ble_eq_true rfl) dX10_init_28 (fun H locs hP hS => ?_)
  have hP : PD D A [[(h0, .inr (9, [.ref r1, .ref r2, .ref r3, .ref q1, .int 0]))], [(q1, .inl (cy 0, 3, .inl ((fun _ => 0))))]] H := hP
  refine W.widen (k := 1) (n := 3) (Nat.le_of_ble_eq_true rfl) (Nat.le_of_ble_eq_true rfl) ?_
  exact W.vret hx hb hr (fun t ht9 _ => ⟨⟨adf [h0, q1], rfl, rfl, PDt ht9 ⟨hP.1, hP.2⟩⟩, hS.F ht9⟩) hS.2.2 dX10_init_31
theorem dX2_init_0 : decode cX2_init 0 = .ok (.aload_n 0, 1) := by decide +kernel
theorem dX2_init_1 : decode cX2_init 1 = .ok (.invokespecial 3, 3) := by decide +kernel
theorem dX2_init_4 : decode cX2_init 4 = .ok (.aload_n 0, 1) := by decide +kernel
theorem dX2_init_5 : decode cX2_init 5 = .ok (.bipush 60, 2) := by decide +kernel
theorem dX2_init_7 : decode cX2_init 7 = .ok (.newarray .int, 2) := by decide +kernel
theorem dX2_init_9 : decode cX2_init 9 = .ok (.putfield 9, 3) := by decide +kernel
theorem dX2_init_12 : decode cX2_init 12 = .ok (.aload_n 0, 1) := by decide +kernel
theorem dX2_init_13 : decode cX2_init 13 = .ok (.iconst 0, 1) := by decide +kernel
theorem dX2_init_14 : decode cX2_init 14 = .ok (.putfield 15, 3) := by decide +kernel
theorem dX2_init_17 : decode cX2_init 17 = .ok (.aload_n 0, 1) := by decide +kernel
theorem dX2_init_18 : decode cX2_init 18 = .ok (.iconst 0, 1) := by decide +kernel
theorem dX2_init_19 : decode cX2_init 19 = .ok (.putfield 19, 3) := by decide +kernel
theorem dX2_init_22 : decode cX2_init 22 = .ok (.aload_n 0, 1) := by decide +kernel
theorem dX2_init_23 : decode cX2_init 23 = .ok (.iconst 0, 1) := by decide +kernel
theorem dX2_init_24 : decode cX2_init 24 = .ok (.putfield 23, 3) := by decide +kernel
theorem dX2_init_27 : decode cX2_init 27 = .ok (.aload_n 0, 1) := by decide +kernel
theorem dX2_init_28 : decode cX2_init 28 = .ok (.iconst 0, 1) := by decide +kernel
theorem dX2_init_29 : decode cX2_init 29 = .ok (.putfield 26, 3) := by decide +kernel
theorem dX2_init_32 : decode cX2_init 32 = .ok (.aload_n 0, 1) := by decide +kernel
theorem dX2_init_33 : decode cX2_init 33 = .ok (.iconst 0, 1) := by decide +kernel
theorem dX2_init_34 : decode cX2_init 34 = .ok (.putfield 29, 3) := by decide +kernel
theorem dX2_init_37 : decode cX2_init 37 = .ok (.aload_n 0, 1) := by decide +kernel
theorem dX2_init_38 : decode cX2_init 38 = .ok (.iconst 0, 1) := by decide +kernel
theorem dX2_init_39 : decode cX2_init 39 = .ok (.putfield 32, 3) := by decide +kernel
theorem dX2_init_42 : decode cX2_init 42 = .ok (.aload_n 0, 1) := by decide +kernel
theorem dX2_init_43 : decode cX2_init 43 = .ok (.iconst 0, 1) := by decide +kernel
theorem dX2_init_44 : decode cX2_init 44 = .ok (.putfield 35, 3) := by decide +kernel
theorem dX2_init_47 : decode cX2_init 47 = .ok (.aload_n 0, 1) := by decide +kernel
theorem dX2_init_48 : decode cX2_init 48 = .ok (.iconst 0, 1) := by decide +kernel
theorem dX2_init_49 : decode cX2_init 49 = .ok (.putfield 38, 3) := by decide +kernel
theorem dX2_init_52 : decode cX2_init 52 = .ok (.aload_n 0, 1) := by decide +kernel
theorem dX2_init_53 : decode cX2_init 53 = .ok (.aload_n 1, 1) := by decide +kernel
theorem dX2_init_54 : decode cX2_init 54 = .ok (.putfield 41, 3) := by decide +kernel
theorem dX2_init_57 : decode cX2_init 57 = .ok (.aload_n 0, 1) := by decide +kernel
theorem dX2_init_58 : decode cX2_init 58 = .ok (.aload_n 2, 1) := by decide +kernel
theorem dX2_init_59 : decode cX2_init 59 = .ok (.putfield 45, 3) := by decide +kernel
theorem dX2_init_62 : decode cX2_init 62 = .ok (.return_, 1) := by decide +kernel
theorem mi_X2 : MI yX2_init cX2_init 3 2 := ⟨tb_322, tb_321, tb_12, rfl, by decide +kernel, by decide +kernel, by decide +kernel⟩
abbrev rmn_X2 : Room := { frames := 1, cells := 1, slots := 60, locals := 40 }
set_option maxHeartbeats 8000000 in
set_option maxRecDepth 100000 in
theorem n_X2 (l : Launch) (D : va_G) (cy : Nat → ClassId) (tO : Nat) (aK aV : Nat → Nat) (r1 : Nat) (r2 : Nat) (h0 sz : Nat) : Met l yX2_init (WW yX2_init cX2_init 3 none) rmn_X2 (Cd D cy tO aK aV [.ref h0, .ref r1, .ref r2] (h0, .inr (2, [.null, .null, .null, .int 0, .int 0, .int 0, .int 0, .int 0, .int 0, .int 0, .int 0])) sz) (va_Qv (fun (u : Nat → Nat) => u 0 = h0) (fun u t => PD D (va_A [(h0, .inr (2, [.null, .null, .null, .int 0, .int 0, .int 0, .int 0, .int 0, .int 0, .int 0, .int 0]))] sz) [bl_X2 cy u r1 r2 ((fun _ => 0)) 0 0 0 0 0 0 0 0] t.heap) (va_A [(h0, .inr (2, [.null, .null, .null, .int 0, .int 0, .int 0, .int 0, .int 0, .int 0, .int 0, .int 0]))] sz)) 1 60 (va_A [(h0, .inr (2, [.null, .null, .null, .int 0, .int 0, .int 0, .int 0, .int 0, .int 0, .int 0, .int 0]))] sz) := by
  refine Met.ofW (cc := cX2_init) (maxL := 3) (ret := none) (by decide) rfl ?_
  intro p e s m args below meth c s₁ B hml hv
  obtain ⟨hargs, hP, hC, hsz⟩ := hv
  have hx := B.exec
  have hb := B.bytes
  have hr := B.returns
  have ht : ∀ w ∈ lw_gd, w.before args s = true := fun w hw => atoms_spec (ws := WW yX2_init cX2_init 3 none) B.pre w (List.mem_cons_of_mem _ hw)
  have hown : s.vm.findClass RX2 = some m.cls := findClass_of_methodNamed B.named
  have hlocks := B.notSynchronized
  have hin : meth.name = "<init>" := (name_of_methodNamed B.named B.method).1
  subst hsz
  have hP : PD D (va_A [(h0, .inr (2, [.null, .null, .null, .int 0, .int 0, .int 0, .int 0, .int 0, .int 0, .int 0, .int 0]))] s.heap.size) [[(h0, .inr (2, [.null, .null, .null, .int 0, .int 0, .int 0, .int 0, .int 0, .int 0, .int 0, .int 0]))]] s.heap := ⟨hP, D_one⟩
  generalize hAe : va_A [(h0, .inr (2, [.null, .null, .null, .int 0, .int 0, .int 0, .int 0, .int 0, .int 0, .int 0, .int 0]))] s.heap.size = A at hP hC ⊢
  have hA : ∀ q : Nat, s.heap.size ≤ q → A q := fun q h => by rw [← hAe]; exact Or.inr h
  have hX := hC.1
  have hE := hC.2.1
  have hS : va_S A s.heap s.heap [] := va_S.rf
  obtain ⟨ls, hl, hent⟩ := ent (m := m) (n := 3) hargs (Nat.le_of_ble_eq_true rfl) (lv := [(0, .ref h0), (1, .ref r1), (2, .ref r2)]) rfl
  rw [hent]
  clear hent
  refine lv_aload_n hx hb dX2_init_0 rfl (lv_at hl 0 rfl) ?_
  refine W.objInit hx hb hown (ht _ tb_323) (ht _ tb_28) (ht _ tb_29) rfl (by rw [hml]; exact hl.1) rfl dX2_init_1 (Nat.le_of_ble_eq_true rfl) (Nat.le_of_ble_eq_true rfl) ?_
  refine W.eq (g2 := F0 m 4 ls []) rfl ?_
  refine lv_aload_n hx hb dX2_init_4 rfl (lv_at hl 0 rfl) ?_
  refine lv_bipush (v := 60) hx hb dX2_init_5 (by decide) ?_
  refine xnewI (N := 60) hx hb ht hX hP hS hA (by decide) (by decide) (by decide) (Nat.le_of_ble_eq_true rfl) (Nat.le_of_ble_eq_true rfl) tb_105 dX2_init_7 (fun q1 H hP hS => ?_)
  have hP : PD D A [[(h0, .inr (2, [.null, .null, .null, .int 0, .int 0, .int 0, .int 0, .int 0, .int 0, .int 0, .int 0]))], [(q1, .inl (cy 0, 60, .inl ((fun _ => 0))))]] H := hP
  refine xputF (i := 0) (j := 0) (k := 0) (T := TX2) tyX2 tyX2_ok nmX2 hx hb ht tb_iX2 hown hX hP hS rfl rfl rfl (by decide) tb_324 rfl hin rfl rfl rfl (Nat.le_of_ble_eq_true rfl) dX2_init_9 (fun H locs hP hS => ?_)
  have hP : PD D A [[(h0, .inr (2, [.ref q1, .null, .null, .int 0, .int 0, .int 0, .int 0, .int 0, .int 0, .int 0, .int 0]))], [(q1, .inl (cy 0, 60, .inl ((fun _ => 0))))]] H := hP
  refine lv_aload_n hx hb dX2_init_12 rfl (lv_at hl 0 rfl) ?_
  refine lv_iconst (v := 0) hx hb dX2_init_13 (by decide) ?_
  refine xput (i := 0) (j := 0) (k := 3) (T := TX2) tyX2 tyX2_ok nmX2 hx hb ht tb_iX2 hown hX hP hS rfl rfl rfl (by decide) tb_327 rfl rfl rfl (Nat.le_of_ble_eq_true rfl) dX2_init_14 (fun H locs hP hS => ?_)
  have hP : PD D A [[(h0, .inr (2, [.ref q1, .null, .null, .int 0, .int 0, .int 0, .int 0, .int 0, .int 0, .int 0, .int 0]))], [(q1, .inl (cy 0, 60, .inl ((fun _ => 0))))]] H := hP
  refine lv_aload_n hx hb dX2_init_17 rfl (lv_at hl 0 rfl) ?_
  refine lv_iconst (v := 0) hx hb dX2_init_18 (by decide) ?_
  refine xput (i := 0) (j := 0) (k := 4) (T := TX2) tyX2 tyX2_ok nmX2 hx hb ht tb_iX2 hown hX hP hS rfl rfl rfl (by decide) tb_328 rfl rfl rfl (Nat.le_of_ble_eq_true rfl) dX2_init_19 (fun H locs hP hS => ?_)
  have hP : PD D A [[(h0, .inr (2, [.ref q1, .null, .null, .int 0, .int 0, .int 0, .int 0, .int 0, .int 0, .int 0, .int 0]))], [(q1, .inl (cy 0, 60, .inl ((fun _ => 0))))]] H := hP
  refine lv_aload_n hx hb dX2_init_22 rfl (lv_at hl 0 rfl) ?_
  refine lv_iconst (v := 0) hx hb dX2_init_23 (by decide) ?_
  refine xput (i := 0) (j := 0) (k := 5) (T := TX2) tyX2 tyX2_ok nmX2 hx hb ht tb_iX2 hown hX hP hS rfl rfl rfl (by decide) tb_330 rfl rfl rfl (Nat.le_of_ble_eq_true rfl) dX2_init_24 (fun H locs hP hS => ?_)
  have hP : PD D A [[(h0, .inr (2, [.ref q1, .null, .null, .int 0, .int 0, .int 0, .int 0, .int 0, .int 0, .int 0, .int 0]))], [(q1, .inl (cy 0, 60, .inl ((fun _ => 0))))]] H := hP
  refine lv_aload_n hx hb dX2_init_27 rfl (lv_at hl 0 rfl) ?_
  refine lv_iconst (v := 0) hx hb dX2_init_28 (by decide) ?_
  refine xput (i := 0) (j := 0) (k := 6) (T := TX2) tyX2 tyX2_ok nmX2 hx hb ht tb_iX2 hown hX hP hS rfl rfl rfl (by decide) tb_332 rfl rfl rfl (Nat.le_of_ble_eq_true rfl) dX2_init_29 (fun H locs hP hS => ?_)
  have hP : PD D A [[(h0, .inr (2, [.ref q1, .null, .null, .int 0, .int 0, .int 0, .int 0, .int 0, .int 0, .int 0, .int 0]))], [(q1, .inl (cy 0, 60, .inl ((fun _ => 0))))]] H := hP
  refine lv_aload_n hx hb dX2_init_32 rfl (lv_at hl 0 rfl) ?_
  refine lv_iconst (v := 0) hx hb dX2_init_33 (by decide) ?_
  refine xput (i := 0) (j := 0) (k := 7) (T := TX2) tyX2 tyX2_ok nmX2 hx hb ht tb_iX2 hown hX hP hS rfl rfl rfl (by decide) tb_333 rfl rfl rfl (Nat.le_of_ble_eq_true rfl) dX2_init_34 (fun H locs hP hS => ?_)
  have hP : PD D A [[(h0, .inr (2, [.ref q1, .null, .null, .int 0, .int 0, .int 0, .int 0, .int 0, .int 0, .int 0, .int 0]))], [(q1, .inl (cy 0, 60, .inl ((fun _ => 0))))]] H := hP
  refine lv_aload_n hx hb dX2_init_37 rfl (lv_at hl 0 rfl) ?_
  refine lv_iconst (v := 0) hx hb dX2_init_38 (by decide) ?_
  refine xput (i := 0) (j := 0) (k := 8) (T := TX2) tyX2 tyX2_ok nmX2 hx hb ht tb_iX2 hown hX hP hS rfl rfl rfl (by decide) tb_334 rfl rfl rfl (Nat.le_of_ble_eq_true rfl) dX2_init_39 (fun H locs hP hS => ?_)
  have hP : PD D A [[(h0, .inr (2, [.ref q1, .null, .null, .int 0, .int 0, .int 0, .int 0, .int 0, .int 0, .int 0, .int 0]))], [(q1, .inl (cy 0, 60, .inl ((fun _ => 0))))]] H := hP
  refine lv_aload_n hx hb dX2_init_42 rfl (lv_at hl 0 rfl) ?_
  refine lv_iconst (v := 0) hx hb dX2_init_43 (by decide) ?_
  refine xput (i := 0) (j := 0) (k := 9) (T := TX2) tyX2 tyX2_ok nmX2 hx hb ht tb_iX2 hown hX hP hS rfl rfl rfl (by decide) tb_335 rfl rfl rfl (Nat.le_of_ble_eq_true rfl) dX2_init_44 (fun H locs hP hS => ?_)
  have hP : PD D A [[(h0, .inr (2, [.ref q1, .null, .null, .int 0, .int 0, .int 0, .int 0, .int 0, .int 0, .int 0, .int 0]))], [(q1, .inl (cy 0, 60, .inl ((fun _ => 0))))]] H := hP
  refine lv_aload_n hx hb dX2_init_47 rfl (lv_at hl 0 rfl) ?_
  refine lv_iconst (v := 0) hx hb dX2_init_48 (by decide) ?_
  refine xput (i := 0) (j := 0) (k := 10) (T := TX2) tyX2 tyX2_ok nmX2 hx hb ht tb_iX2 hown hX hP hS rfl rfl rfl (by decide) tb_336 rfl rfl rfl (Nat.le_of_ble_eq_true rfl) dX2_init_49 (fun H locs hP hS => ?_)
  have hP : PD D A [[(h0, .inr (2, [.ref q1, .null, .null, .int 0, .int 0, .int 0, .int 0, .int 0, .int 0, .int 0, .int 0]))], [(q1, .inl (cy 0, 60, .inl ((fun _ => 0))))]] H := hP
  refine lv_aload_n hx hb dX2_init_52 rfl (lv_at hl 0 rfl) ?_
  refine lv_aload_n hx hb dX2_init_53 rfl (lv_at hl 1 rfl) ?_
  refine xputF (i := 0) (j := 0) (k := 1) (T := TX2) tyX2 tyX2_ok nmX2 hx hb ht tb_iX2 hown hX hP hS rfl rfl rfl (by decide) tb_325 rfl hin rfl rfl rfl (Nat.le_of_ble_eq_true rfl) dX2_init_54 (fun H locs hP hS => ?_)
  have hP : PD D A [[(h0, .inr (2, [.ref q1, .ref r1, .null, .int 0, .int 0, .int 0, .int 0, .int 0, .int 0, .int 0, .int 0]))], [(q1, .inl (cy 0, 60, .inl ((fun _ => 0))))]] H := hP
  refine lv_aload_n hx hb dX2_init_57 rfl (lv_at hl 0 rfl) ?_
  refine lv_aload_n hx hb dX2_init_58 rfl (lv_at hl 2 rfl) ?_
  refine xputF (i := 0) (j := 0) (k := 2) (T := TX2) tyX2 tyX2_ok nmX2 hx hb ht tb_iX2 hown hX hP hS rfl rfl rfl (by decide) tb_326 rfl hin rfl rfl rfl (Nat.le_of_ble_eq_true rfl) dX2_init_59 (fun H locs hP hS => ?_)
  have hP : PD D A [[(h0, .inr (2, [.ref q1, .ref r1, .ref r2, .int 0, .int 0, .int 0, .int 0, .int 0, .int 0, .int 0, .int 0]))], [(q1, .inl (cy 0, 60, .inl ((fun _ => 0))))]] H := hP
  refine W.widen (k := 1) (n := 60) (Nat.le_of_ble_eq_true rfl) (Nat.le_of_ble_eq_true rfl) ?_
  exact W.vret hx hb hr (fun t ht9 _ => ⟨⟨adf [h0, q1], rfl, rfl, PDt ht9 ⟨hP.1, hP.2⟩⟩, hS.F ht9⟩) hS.2.2 dX2_init_62
theorem dX5_init_0 : decode cX5_init 0 = .ok (.aload_n 0, 1) := by decide +kernel
theorem dX5_init_1 : decode cX5_init 1 = .ok (.invokespecial 3, 3) := by decide +kernel
theorem dX5_init_4 : decode cX5_init 4 = .ok (.aload_n 0, 1) := by decide +kernel
theorem dX5_init_5 : decode cX5_init 5 = .ok (.bipush 8, 2) := by decide +kernel
theorem dX5_init_7 : decode cX5_init 7 = .ok (.newarray .int, 2) := by decide +kernel
theorem dX5_init_9 : decode cX5_init 9 = .ok (.putfield 9, 3) := by decide +kernel
theorem dX5_init_12 : decode cX5_init 12 = .ok (.aload_n 0, 1) := by decide +kernel
theorem dX5_init_13 : decode cX5_init 13 = .ok (.bipush 8, 2) := by decide +kernel
theorem dX5_init_15 : decode cX5_init 15 = .ok (.newarray .int, 2) := by decide +kernel
theorem dX5_init_17 : decode cX5_init 17 = .ok (.putfield 15, 3) := by decide +kernel
theorem dX5_init_20 : decode cX5_init 20 = .ok (.aload_n 0, 1) := by decide +kernel
theorem dX5_init_21 : decode cX5_init 21 = .ok (.bipush 8, 2) := by decide +kernel
theorem dX5_init_23 : decode cX5_init 23 = .ok (.newarray .int, 2) := by decide +kernel
theorem dX5_init_25 : decode cX5_init 25 = .ok (.putfield 18, 3) := by decide +kernel
theorem dX5_init_28 : decode cX5_init 28 = .ok (.aload_n 0, 1) := by decide +kernel
theorem dX5_init_29 : decode cX5_init 29 = .ok (.iconst 0, 1) := by decide +kernel
theorem dX5_init_30 : decode cX5_init 30 = .ok (.putfield 21, 3) := by decide +kernel
theorem dX5_init_33 : decode cX5_init 33 = .ok (.aload_n 0, 1) := by decide +kernel
theorem dX5_init_34 : decode cX5_init 34 = .ok (.iconst 0, 1) := by decide +kernel
theorem dX5_init_35 : decode cX5_init 35 = .ok (.putfield 25, 3) := by decide +kernel
theorem dX5_init_38 : decode cX5_init 38 = .ok (.aload_n 0, 1) := by decide +kernel
theorem dX5_init_39 : decode cX5_init 39 = .ok (.iconst 0, 1) := by decide +kernel
theorem dX5_init_40 : decode cX5_init 40 = .ok (.putfield 28, 3) := by decide +kernel
theorem dX5_init_43 : decode cX5_init 43 = .ok (.aload_n 0, 1) := by decide +kernel
theorem dX5_init_44 : decode cX5_init 44 = .ok (.aload_n 1, 1) := by decide +kernel
theorem dX5_init_45 : decode cX5_init 45 = .ok (.putfield 31, 3) := by decide +kernel
theorem dX5_init_48 : decode cX5_init 48 = .ok (.return_, 1) := by decide +kernel
theorem mi_X5 : MI yX5_init cX5_init 2 1 := ⟨tb_382, tb_381, tb_14, rfl, by decide +kernel, by decide +kernel, by decide +kernel⟩
abbrev rmn_X5 : Room := { frames := 1, cells := 3, slots := 24, locals := 40 }
set_option maxHeartbeats 8000000 in
set_option maxRecDepth 100000 in
theorem n_X5 (l : Launch) (D : va_G) (cy : Nat → ClassId) (tO : Nat) (aK aV : Nat → Nat) (r1 : Nat) (h0 sz : Nat) : Met l yX5_init (WW yX5_init cX5_init 2 none) rmn_X5 (Cd D cy tO aK aV [.ref h0, .ref r1] (h0, .inr (4, [.null, .null, .null, .null, .int 0, .int 0, .int 0])) sz) (va_Qv (fun (u : Nat → Nat) => u 0 = h0) (fun u t => PD D (va_A [(h0, .inr (4, [.null, .null, .null, .null, .int 0, .int 0, .int 0]))] sz) [bl_X5 cy u r1 ((fun _ => 0)) ((fun _ => 0)) ((fun _ => 0)) 0 0 0] t.heap) (va_A [(h0, .inr (4, [.null, .null, .null, .null, .int 0, .int 0, .int 0]))] sz)) 3 24 (va_A [(h0, .inr (4, [.null, .null, .null, .null, .int 0, .int 0, .int 0]))] sz) := by
  refine Met.ofW (cc := cX5_init) (maxL := 2) (ret := none) (by decide) rfl ?_
  intro p e s m args below meth c s₁ B hml hv
  obtain ⟨hargs, hP, hC, hsz⟩ := hv
  have hx := B.exec
  have hb := B.bytes
  have hr := B.returns
  have ht : ∀ w ∈ lw_gd, w.before args s = true := fun w hw => atoms_spec (ws := WW yX5_init cX5_init 2 none) B.pre w (List.mem_cons_of_mem _ hw)
  have hown : s.vm.findClass RX5 = some m.cls := findClass_of_methodNamed B.named
  have hlocks := B.notSynchronized
  have hin : meth.name = "<init>" := (name_of_methodNamed B.named B.method).1
  subst hsz
  have hP : PD D (va_A [(h0, .inr (4, [.null, .null, .null, .null, .int 0, .int 0, .int 0]))] s.heap.size) [[(h0, .inr (4, [.null, .null, .null, .null, .int 0, .int 0, .int 0]))]] s.heap := ⟨hP, D_one⟩
  generalize hAe : va_A [(h0, .inr (4, [.null, .null, .null, .null, .int 0, .int 0, .int 0]))] s.heap.size = A at hP hC ⊢
  have hA : ∀ q : Nat, s.heap.size ≤ q → A q := fun q h => by rw [← hAe]; exact Or.inr h
  have hX := hC.1
  have hE := hC.2.1
  have hS : va_S A s.heap s.heap [] := va_S.rf
  obtain ⟨ls, hl, hent⟩ := ent (m := m) (n := 2) hargs (Nat.le_of_ble_eq_true rfl) (lv := [(0, .ref h0), (1, .ref r1)]) rfl
  rw [hent]
  clear hent
  refine lv_aload_n hx hb dX5_init_0 rfl (lv_at hl 0 rfl) ?_
  refine W.objInit hx hb hown (ht _ tb_383) (ht _ tb_28) (ht _ tb_29) rfl (by rw [hml]; exact hl.1) rfl dX5_init_1 (Nat.le_of_ble_eq_true rfl) (Nat.le_of_ble_eq_true rfl) ?_
  refine W.eq (g2 := F0 m 4 ls []) rfl ?_
  refine lv_aload_n hx hb dX5_init_4 rfl (lv_at hl 0 rfl) ?_
  refine lv_bipush (v := 8) hx hb dX5_init_5 (by decide) ?_
  refine xnewI (N := 8) hx hb ht hX hP hS hA (by decide) (by decide) (by decide) (Nat.le_of_ble_eq_true rfl) (Nat.le_of_ble_eq_true rfl) tb_105 dX5_init_7 (fun q1 H hP hS => ?_)
  have hP : PD D A [[(h0, .inr (4, [.null, .null, .null, .null, .int 0, .int 0, .int 0]))], [(q1, .inl (cy 0, 8, .inl ((fun _ => 0))))]] H := hP
  refine xputF (i := 0) (j := 0) (k := 0) (T := TX5) tyX5 tyX5_ok nmX5 hx hb ht tb_iX5 hown hX hP hS rfl rfl rfl (by decide) tb_384 rfl hin rfl rfl rfl (Nat.le_of_ble_eq_true rfl) dX5_init_9 (fun H locs hP hS => ?_)
  have hP : PD D A [[(h0, .inr (4, [.ref q1, .null, .null, .null, .int 0, .int 0, .int 0]))], [(q1, .inl (cy 0, 8, .inl ((fun _ => 0))))]] H := hP
  refine lv_aload_n hx hb dX5_init_12 rfl (lv_at hl 0 rfl) ?_
  refine lv_bipush (v := 8) hx hb dX5_init_13 (by decide) ?_
  refine xnewI (N := 8) hx hb ht hX hP hS hA (by decide) (by decide) (by decide) (Nat.le_of_ble_eq_true rfl) (Nat.le_of_ble_eq_true rfl) tb_105 dX5_init_15 (fun q2 H hP hS => ?_)
  have hP : PD D A [[(h0, .inr (4, [.ref q1, .null, .null, .null, .int 0, .int 0, .int 0]))], [(q1, .inl (cy 0, 8, .inl ((fun _ => 0))))], [(q2, .inl (cy 0, 8, .inl ((fun _ => 0))))]] H := hP
  refine xputF (i := 0) (j := 0) (k := 1) (T := TX5) tyX5 tyX5_ok nmX5 hx hb ht tb_iX5 hown hX hP hS rfl rfl rfl (by decide) tb_385 rfl hin rfl rfl rfl (Nat.le_of_ble_eq_true rfl) dX5_init_17 (fun H locs hP hS => ?_)
  have hP : PD D A [[(h0, .inr (4, [.ref q1, .ref q2, .null, .null, .int 0, .int 0, .int 0]))], [(q1, .inl (cy 0, 8, .inl ((fun _ => 0))))], [(q2, .inl (cy 0, 8, .inl ((fun _ => 0))))]] H := hP
  refine lv_aload_n hx hb dX5_init_20 rfl (lv_at hl 0 rfl) ?_
  refine lv_bipush (v := 8) hx hb dX5_init_21 (by decide) ?_
  refine xnewI (N := 8) hx hb ht hX hP hS hA (by decide) (by decide) (by decide) (Nat.le_of_ble_eq_true rfl) (Nat.le_of_ble_eq_true rfl) tb_105 dX5_init_23 (fun q3 H hP hS => ?_)
  have hP : PD D A [[(h0, .inr (4, [.ref q1, .ref q2, .null, .null, .int 0, .int 0, .int 0]))], [(q1, .inl (cy 0, 8, .inl ((fun _ => 0))))], [(q2, .inl (cy 0, 8, .inl ((fun _ => 0))))], [(q3, .inl (cy 0, 8, .inl ((fun _ => 0))))]] H := hP
  refine xputF (i := 0) (j := 0) (k := 2) (T := TX5) tyX5 tyX5_ok nmX5 hx hb ht tb_iX5 hown hX hP hS rfl rfl rfl (by decide) tb_386 rfl hin rfl rfl rfl (Nat.le_of_ble_eq_true rfl) dX5_init_25 (fun H locs hP hS => ?_)
  have hP : PD D A [[(h0, .inr (4, [.ref q1, .ref q2, .ref q3, .null, .int 0, .int 0, .int 0]))], [(q1, .inl (cy 0, 8, .inl ((fun _ => 0))))], [(q2, .inl (cy 0, 8, .inl ((fun _ => 0))))], [(q3, .inl (cy 0, 8, .inl ((fun _ => 0))))]] H := hP
  refine lv_aload_n hx hb dX5_init_28 rfl (lv_at hl 0 rfl) ?_
  refine lv_iconst (v := 0) hx hb dX5_init_29 (by decide) ?_
  refine xput (i := 0) (j := 0) (k := 4) (T := TX5) tyX5 tyX5_ok nmX5 hx hb ht tb_iX5 hown hX hP hS rfl rfl rfl (by decide) tb_388 rfl rfl rfl (Nat.le_of_ble_eq_true rfl) dX5_init_30 (fun H locs hP hS => ?_)
  have hP : PD D A [[(h0, .inr (4, [.ref q1, .ref q2, .ref q3, .null, .int 0, .int 0, .int 0]))], [(q1, .inl (cy 0, 8, .inl ((fun _ => 0))))], [(q2, .inl (cy 0, 8, .inl ((fun _ => 0))))], [(q3, .inl (cy 0, 8, .inl ((fun _ => 0))))]] H := hP
  refine lv_aload_n hx hb dX5_init_33 rfl (lv_at hl 0 rfl) ?_
  refine lv_iconst (v := 0) hx hb dX5_init_34 (by decide) ?_
  refine xput (i := 0) (j := 0) (k := 5) (T := TX5) tyX5 tyX5_ok nmX5 hx hb ht tb_iX5 hown hX hP hS rfl rfl rfl (by decide) tb_389 rfl rfl rfl (Nat.le_of_ble_eq_true rfl) dX5_init_35 (fun H locs hP hS => ?_)
  have hP : PD D A [[(h0, .inr (4, [.ref q1, .ref q2, .ref q3, .null, .int 0, .int 0, .int 0]))], [(q1, .inl (cy 0, 8, .inl ((fun _ => 0))))], [(q2, .inl (cy 0, 8, .inl ((fun _ => 0))))], [(q3, .inl (cy 0, 8, .inl ((fun _ => 0))))]] H := hP
  refine lv_aload_n hx hb dX5_init_38 rfl (lv_at hl 0 rfl) ?_
  refine lv_iconst (v := 0) hx hb dX5_init_39 (by decide) ?_
  refine xput (i := 0) (j := 0) (k := 6) (T := TX5) tyX5 tyX5_ok nmX5 hx hb ht tb_iX5 hown hX hP hS rfl rfl rfl (by decide) tb_391 rfl rfl rfl (Nat.le_of_ble_eq_true rfl) dX5_init_40 (fun H locs hP hS => ?_)
  have hP : PD D A [[(h0, .inr (4, [.ref q1, .ref q2, .ref q3, .null, .int 0, .int 0, .int 0]))], [(q1, .inl (cy 0, 8, .inl ((fun _ => 0))))], [(q2, .inl (cy 0, 8, .inl ((fun _ => 0))))], [(q3, .inl (cy 0, 8, .inl ((fun _ => 0))))]] H := hP
  refine lv_aload_n hx hb dX5_init_43 rfl (lv_at hl 0 rfl) ?_
  refine lv_aload_n hx hb dX5_init_44 rfl (lv_at hl 1 rfl) ?_
  refine xputF (i := 0) (j := 0) (k := 3) (T := TX5) tyX5 tyX5_ok nmX5 hx hb ht tb_iX5 hown hX hP hS rfl rfl rfl (by decide) tb_387 rfl hin rfl rfl rfl (Nat.le_of_ble_eq_true rfl) dX5_init_45 (fun H locs hP hS => ?_)
  have hP : PD D A [[(h0, .inr (4, [.ref q1, .ref q2, .ref q3, .ref r1, .int 0, .int 0, .int 0]))], [(q1, .inl (cy 0, 8, .inl ((fun _ => 0))))], [(q2, .inl (cy 0, 8, .inl ((fun _ => 0))))], [(q3, .inl (cy 0, 8, .inl ((fun _ => 0))))]] H := hP
  refine W.widen (k := 3) (n := 24) (Nat.le_of_ble_eq_true rfl) (Nat.le_of_ble_eq_true rfl) ?_
  exact W.vret hx hb hr (fun t ht9 _ => ⟨⟨adf [h0, q1, q2, q3], rfl, rfl, PDt ht9 ⟨hP.1, hP.2⟩⟩, hS.F ht9⟩) hS.2.2 dX5_init_48
theorem dX7_init_0 : decode cX7_init 0 = .ok (.aload_n 0, 1) := by decide +kernel
theorem dX7_init_1 : decode cX7_init 1 = .ok (.invokespecial 3, 3) := by decide +kernel
theorem dX7_init_4 : decode cX7_init 4 = .ok (.aload_n 0, 1) := by decide +kernel
theorem dX7_init_5 : decode cX7_init 5 = .ok (.sipush 900, 3) := by decide +kernel
theorem dX7_init_8 : decode cX7_init 8 = .ok (.newarray .byte, 2) := by decide +kernel
theorem dX7_init_10 : decode cX7_init 10 = .ok (.putfield 9, 3) := by decide +kernel
theorem dX7_init_13 : decode cX7_init 13 = .ok (.aload_n 0, 1) := by decide +kernel
theorem dX7_init_14 : decode cX7_init 14 = .ok (.bipush 19, 2) := by decide +kernel
theorem dX7_init_16 : decode cX7_init 16 = .ok (.newarray .long, 2) := by decide +kernel
theorem dX7_init_18 : decode cX7_init 18 = .ok (.putfield 15, 3) := by decide +kernel
theorem dX7_init_21 : decode cX7_init 21 = .ok (.aload_n 0, 1) := by decide +kernel
theorem dX7_init_22 : decode cX7_init 22 = .ok (.iconst 0, 1) := by decide +kernel
theorem dX7_init_23 : decode cX7_init 23 = .ok (.putfield 19, 3) := by decide +kernel
theorem dX7_init_26 : decode cX7_init 26 = .ok (.aload_n 0, 1) := by decide +kernel
theorem dX7_init_27 : decode cX7_init 27 = .ok (.iconst 0, 1) := by decide +kernel
theorem dX7_init_28 : decode cX7_init 28 = .ok (.putfield 23, 3) := by decide +kernel
theorem dX7_init_31 : decode cX7_init 31 = .ok (.aload_n 0, 1) := by decide +kernel
theorem dX7_init_32 : decode cX7_init 32 = .ok (.iconst 0, 1) := by decide +kernel
theorem dX7_init_33 : decode cX7_init 33 = .ok (.putfield 26, 3) := by decide +kernel
theorem dX7_init_36 : decode cX7_init 36 = .ok (.aload_n 0, 1) := by decide +kernel
theorem dX7_init_37 : decode cX7_init 37 = .ok (.iconst 0, 1) := by decide +kernel
theorem dX7_init_38 : decode cX7_init 38 = .ok (.putfield 29, 3) := by decide +kernel
theorem dX7_init_41 : decode cX7_init 41 = .ok (.aload_n 0, 1) := by decide +kernel
theorem dX7_init_42 : decode cX7_init 42 = .ok (.iconst (-1), 1) := by decide +kernel
theorem dX7_init_43 : decode cX7_init 43 = .ok (.putfield 32, 3) := by decide +kernel
theorem dX7_init_46 : decode cX7_init 46 = .ok (.aload_n 0, 1) := by decide +kernel
theorem dX7_init_47 : decode cX7_init 47 = .ok (.lconst 0, 1) := by decide +kernel
theorem dX7_init_48 : decode cX7_init 48 = .ok (.putfield 35, 3) := by decide +kernel
theorem dX7_init_51 : decode cX7_init 51 = .ok (.aload_n 0, 1) := by decide +kernel
theorem dX7_init_52 : decode cX7_init 52 = .ok (.iconst 0, 1) := by decide +kernel
theorem dX7_init_53 : decode cX7_init 53 = .ok (.putfield 39, 3) := by decide +kernel
theorem dX7_init_56 : decode cX7_init 56 = .ok (.aload_n 0, 1) := by decide +kernel
theorem dX7_init_57 : decode cX7_init 57 = .ok (.iconst 0, 1) := by decide +kernel
theorem dX7_init_58 : decode cX7_init 58 = .ok (.putfield 42, 3) := by decide +kernel
theorem dX7_init_61 : decode cX7_init 61 = .ok (.lconst 0, 1) := by decide +kernel
theorem dX7_init_62 : decode cX7_init 62 = .ok (.lstore_n 1, 1) := by decide +kernel
theorem dX7_init_63 : decode cX7_init 63 = .ok (.iconst 0, 1) := by decide +kernel
theorem dX7_init_64 : decode cX7_init 64 = .ok (.istore_n 3, 1) := by decide +kernel
theorem dX7_init_65 : decode cX7_init 65 = .ok (.iconst 0, 1) := by decide +kernel
theorem dX7_init_66 : decode cX7_init 66 = .ok (.istore 4, 2) := by decide +kernel
theorem dX7_init_68 : decode cX7_init 68 = .ok (.iload 4, 2) := by decide +kernel
theorem dX7_init_70 : decode cX7_init 70 = .ok (.ldc 45, 2) := by decide +kernel
theorem dX7_init_72 : decode cX7_init 72 = .ok (.invokevirtual 47, 3) := by decide +kernel
theorem dX7_init_75 : decode cX7_init 75 = .ok (.if_icmp .ge 61, 3) := by decide +kernel
theorem dX7_init_78 : decode cX7_init 78 = .ok (.ldc 45, 2) := by decide +kernel
theorem dX7_init_80 : decode cX7_init 80 = .ok (.iload 4, 2) := by decide +kernel
theorem dX7_init_82 : decode cX7_init 82 = .ok (.invokevirtual 52, 3) := by decide +kernel
theorem dX7_init_85 : decode cX7_init 85 = .ok (.istore 5, 2) := by decide +kernel
theorem dX7_init_87 : decode cX7_init 87 = .ok (.iload 5, 2) := by decide +kernel
theorem dX7_init_89 : decode cX7_init 89 = .ok (.bipush 32, 2) := by decide +kernel
theorem dX7_init_91 : decode cX7_init 91 = .ok (.if_icmp .eq 21, 3) := by decide +kernel
theorem dX7_init_94 : decode cX7_init 94 = .ok (.lload_n 1, 1) := by decide +kernel
theorem dX7_init_95 : decode cX7_init 95 = .ok (.ldc2_w 56, 3) := by decide +kernel
theorem dX7_init_98 : decode cX7_init 98 = .ok (.lmul, 1) := by decide +kernel
theorem dX7_init_99 : decode cX7_init 99 = .ok (.iload 5, 2) := by decide +kernel
theorem dX7_init_101 : decode cX7_init 101 = .ok (.bipush 97, 2) := by decide +kernel
theorem dX7_init_103 : decode cX7_init 103 = .ok (.isub, 1) := by decide +kernel
theorem dX7_init_104 : decode cX7_init 104 = .ok (.iconst 1, 1) := by decide +kernel
theorem dX7_init_105 : decode cX7_init 105 = .ok (.iadd, 1) := by decide +kernel
theorem dX7_init_106 : decode cX7_init 106 = .ok (.i2l, 1) := by decide +kernel
theorem dX7_init_107 : decode cX7_init 107 = .ok (.ladd, 1) := by decide +kernel
theorem dX7_init_108 : decode cX7_init 108 = .ok (.lstore_n 1, 1) := by decide +kernel
theorem dX7_init_109 : decode cX7_init 109 = .ok (.goto 21, 3) := by decide +kernel
theorem dX7_init_112 : decode cX7_init 112 = .ok (.iload_n 3, 1) := by decide +kernel
theorem dX7_init_113 : decode cX7_init 113 = .ok (.bipush 19, 2) := by decide +kernel
theorem dX7_init_115 : decode cX7_init 115 = .ok (.if_icmp .ge 15, 3) := by decide +kernel
theorem dX7_init_118 : decode cX7_init 118 = .ok (.aload_n 0, 1) := by decide +kernel
theorem dX7_init_119 : decode cX7_init 119 = .ok (.getfield 15, 3) := by decide +kernel
theorem dX7_init_122 : decode cX7_init 122 = .ok (.iload_n 3, 1) := by decide +kernel
theorem dX7_init_123 : decode cX7_init 123 = .ok (.lload_n 1, 1) := by decide +kernel
theorem dX7_init_124 : decode cX7_init 124 = .ok (.lastore, 1) := by decide +kernel
theorem dX7_init_125 : decode cX7_init 125 = .ok (.lconst 0, 1) := by decide +kernel
theorem dX7_init_126 : decode cX7_init 126 = .ok (.lstore_n 1, 1) := by decide +kernel
theorem dX7_init_127 : decode cX7_init 127 = .ok (.iinc 3 1, 3) := by decide +kernel
theorem dX7_init_130 : decode cX7_init 130 = .ok (.iinc 4 1, 3) := by decide +kernel
theorem dX7_init_133 : decode cX7_init 133 = .ok (.goto (-65), 3) := by decide +kernel
theorem dX7_init_136 : decode cX7_init 136 = .ok (.return_, 1) := by decide +kernel
theorem mi_X7 : MI yX7_init cX7_init 6 0 := ⟨tb_166, tb_165, tb_5, rfl, by decide +kernel, by decide +kernel, by decide +kernel⟩
def f_X7_init_b68 (fu : Nat) (k68 : (Nat → Int64) → Int64 → Int32 → Int32 → (Option ((Nat → Int64)))) (t_wordCodes : Nat → Int64) (x1 : Int64) (x3 : Int32) (x4 : Int32) : Option ((Nat → Int64)) := (f_J0_length_8abf5 fu 0).bind fun z_12 => (if z_12 ≤ x4 then some (t_wordCodes) else (f_J0_charAt_5068e fu 0 x4).bind fun z_14 => (if z_14 = 32 then (if 19 ≤ x3 then bnd (x4 + 1) fun x4_17 => k68 t_wordCodes x1 x3 x4_17 else (wrJ t_wordCodes 19 x3 x1).bind fun t_wordCodes_18 => bnd (x3 + 1) fun x3_19 => bnd (x4 + 1) fun x4_20 => k68 t_wordCodes_18 0 x3_19 x4_20) else bnd ((x1 * 32) + (Int32.toInt64 ((z_14 - 97) + 1))) fun x1_21 => bnd (x4 + 1) fun x4_22 => k68 t_wordCodes x1_21 x3 x4_22))
def f_X7_init_l68 (fu : Nat) : Nat → (Nat → Int64) → Int64 → Int32 → Int32 → (Option ((Nat → Int64)))
  | 0, _, _, _, _ => none
  | n + 1, t_wordCodes, x1, x3, x4 => f_X7_init_b68 fu (f_X7_init_l68 fu n) t_wordCodes x1 x3 x4
def f_X7_init (fu : Nat) (t_wordCodes : Nat → Int64) : Option ((Nat → Int64)) := f_X7_init_l68 fu fu t_wordCodes 0 0 0
abbrev rmn_X7 : Room := { frames := 4, cells := 2, slots := 919, locals := 85 }
set_option maxHeartbeats 8000000 in
set_option maxRecDepth 100000 in
theorem n_X7 (l : Launch) (D : va_G) (cy : Nat → ClassId) (tO : Nat) (aK aV : Nat → Nat) (fu : Nat) (h0 sz : Nat) (res : Nat → Int64) (h : f_X7_init fu (fun _ => 0) = some res) : Met l yX7_init (WW yX7_init cX7_init 6 none) rmn_X7 (Cd D cy tO aK aV [.ref h0] (h0, .inr (6, [.null, .null, .int 0, .int 0, .int 0, .int 0, .int 0, .long 0, .int 0, .int 0])) sz) (va_Qv (fun (u : Nat → Nat) => u 0 = h0) (fun u t => PD D (va_A [(h0, .inr (6, [.null, .null, .int 0, .int 0, .int 0, .int 0, .int 0, .long 0, .int 0, .int 0]))] sz) [bl_X7 cy u ((fun _ => 0)) res 0 0 0 0 (-1) 0 0 0] t.heap) (va_A [(h0, .inr (6, [.null, .null, .int 0, .int 0, .int 0, .int 0, .int 0, .long 0, .int 0, .int 0]))] sz)) 2 919 (va_A [(h0, .inr (6, [.null, .null, .int 0, .int 0, .int 0, .int 0, .int 0, .long 0, .int 0, .int 0]))] sz) := by
  refine Met.ofW (cc := cX7_init) (maxL := 6) (ret := none) (by decide) rfl ?_
  intro p e s m args below meth c s₁ B hml hv
  obtain ⟨hargs, hP, hC, hsz⟩ := hv
  have hx := B.exec
  have hb := B.bytes
  have hr := B.returns
  have ht : ∀ w ∈ lw_gd, w.before args s = true := fun w hw => atoms_spec (ws := WW yX7_init cX7_init 6 none) B.pre w (List.mem_cons_of_mem _ hw)
  have hown : s.vm.findClass RX7 = some m.cls := findClass_of_methodNamed B.named
  have hlocks := B.notSynchronized
  have hin : meth.name = "<init>" := (name_of_methodNamed B.named B.method).1
  subst hsz
  have hP : PD D (va_A [(h0, .inr (6, [.null, .null, .int 0, .int 0, .int 0, .int 0, .int 0, .long 0, .int 0, .int 0]))] s.heap.size) [[(h0, .inr (6, [.null, .null, .int 0, .int 0, .int 0, .int 0, .int 0, .long 0, .int 0, .int 0]))]] s.heap := ⟨hP, D_one⟩
  generalize hAe : va_A [(h0, .inr (6, [.null, .null, .int 0, .int 0, .int 0, .int 0, .int 0, .long 0, .int 0, .int 0]))] s.heap.size = A at hP hC ⊢
  have hA : ∀ q : Nat, s.heap.size ≤ q → A q := fun q h => by rw [← hAe]; exact Or.inr h
  have hX := hC.1
  have hE := hC.2.1
  have hS : va_S A s.heap s.heap [] := va_S.rf
  obtain ⟨ls, hl, hent⟩ := ent (m := m) (n := 6) hargs (Nat.le_of_ble_eq_true rfl) (lv := [(0, .ref h0)]) rfl
  rw [hent]
  clear hent
  refine lv_aload_n hx hb dX7_init_0 rfl (lv_at hl 0 rfl) ?_
  refine W.objInit hx hb hown (ht _ tb_167) (ht _ tb_28) (ht _ tb_29) rfl (by rw [hml]; exact hl.1) rfl dX7_init_1 (Nat.le_of_ble_eq_true rfl) (Nat.le_of_ble_eq_true rfl) ?_
  refine W.eq (g2 := F0 m 4 ls []) rfl ?_
  refine lv_aload_n hx hb dX7_init_4 rfl (lv_at hl 0 rfl) ?_
  refine lv_sipush (v := 900) hx hb dX7_init_5 (by decide) ?_
  refine xnewB (N := 900) hx hb ht hX hP hS hA (by decide) (by decide) (by decide) (Nat.le_of_ble_eq_true rfl) (Nat.le_of_ble_eq_true rfl) tb_259 dX7_init_8 (fun q1 H hP hS => ?_)
  have hP : PD D A [[(h0, .inr (6, [.null, .null, .int 0, .int 0, .int 0, .int 0, .int 0, .long 0, .int 0, .int 0]))], [(q1, .inl (cy 2, 900, .inl ((fun _ => 0))))]] H := hP
  refine xputF (i := 0) (j := 0) (k := 0) (T := TX7) tyX7 tyX7_ok nmX7 hx hb ht tb_iX7 hown hX hP hS rfl rfl rfl (by decide) tb_218 rfl hin rfl rfl rfl (Nat.le_of_ble_eq_true rfl) dX7_init_10 (fun H locs hP hS => ?_)
  have hP : PD D A [[(h0, .inr (6, [.ref q1, .null, .int 0, .int 0, .int 0, .int 0, .int 0, .long 0, .int 0, .int 0]))], [(q1, .inl (cy 2, 900, .inl ((fun _ => 0))))]] H := hP
  refine lv_aload_n hx hb dX7_init_13 rfl (lv_at hl 0 rfl) ?_
  refine lv_bipush (v := 19) hx hb dX7_init_14 (by decide) ?_
  refine xnewJ (N := 19) hx hb ht hX hP hS hA (by decide) (by decide) (by decide) (Nat.le_of_ble_eq_true rfl) (Nat.le_of_ble_eq_true rfl) tb_104 dX7_init_16 (fun q2 H hP hS => ?_)
  have hP : PD D A [[(h0, .inr (6, [.ref q1, .null, .int 0, .int 0, .int 0, .int 0, .int 0, .long 0, .int 0, .int 0]))], [(q1, .inl (cy 2, 900, .inl ((fun _ => 0))))], [(q2, .inl (cy 1, 19, .inr (.inl ((fun _ => 0)))))]] H := hP
  refine xputF (i := 0) (j := 0) (k := 1) (T := TX7) tyX7 tyX7_ok nmX7 hx hb ht tb_iX7 hown hX hP hS rfl rfl rfl (by decide) tb_219 rfl hin rfl rfl rfl (Nat.le_of_ble_eq_true rfl) dX7_init_18 (fun H locs hP hS => ?_)
  have hP : PD D A [[(h0, .inr (6, [.ref q1, .ref q2, .int 0, .int 0, .int 0, .int 0, .int 0, .long 0, .int 0, .int 0]))], [(q1, .inl (cy 2, 900, .inl ((fun _ => 0))))], [(q2, .inl (cy 1, 19, .inr (.inl ((fun _ => 0)))))]] H := hP
  refine lv_aload_n hx hb dX7_init_21 rfl (lv_at hl 0 rfl) ?_
  refine lv_iconst (v := 0) hx hb dX7_init_22 (by decide) ?_
  refine xput (i := 0) (j := 0) (k := 2) (T := TX7) tyX7 tyX7_ok nmX7 hx hb ht tb_iX7 hown hX hP hS rfl rfl rfl (by decide) tb_220 rfl rfl rfl (Nat.le_of_ble_eq_true rfl) dX7_init_23 (fun H locs hP hS => ?_)
  have hP : PD D A [[(h0, .inr (6, [.ref q1, .ref q2, .int 0, .int 0, .int 0, .int 0, .int 0, .long 0, .int 0, .int 0]))], [(q1, .inl (cy 2, 900, .inl ((fun _ => 0))))], [(q2, .inl (cy 1, 19, .inr (.inl ((fun _ => 0)))))]] H := hP
  refine lv_aload_n hx hb dX7_init_26 rfl (lv_at hl 0 rfl) ?_
  refine lv_iconst (v := 0) hx hb dX7_init_27 (by decide) ?_
  refine xput (i := 0) (j := 0) (k := 3) (T := TX7) tyX7 tyX7_ok nmX7 hx hb ht tb_iX7 hown hX hP hS rfl rfl rfl (by decide) tb_222 rfl rfl rfl (Nat.le_of_ble_eq_true rfl) dX7_init_28 (fun H locs hP hS => ?_)
  have hP : PD D A [[(h0, .inr (6, [.ref q1, .ref q2, .int 0, .int 0, .int 0, .int 0, .int 0, .long 0, .int 0, .int 0]))], [(q1, .inl (cy 2, 900, .inl ((fun _ => 0))))], [(q2, .inl (cy 1, 19, .inr (.inl ((fun _ => 0)))))]] H := hP
  refine lv_aload_n hx hb dX7_init_31 rfl (lv_at hl 0 rfl) ?_
  refine lv_iconst (v := 0) hx hb dX7_init_32 (by decide) ?_
  refine xput (i := 0) (j := 0) (k := 4) (T := TX7) tyX7 tyX7_ok nmX7 hx hb ht tb_iX7 hown hX hP hS rfl rfl rfl (by decide) tb_224 rfl rfl rfl (Nat.le_of_ble_eq_true rfl) dX7_init_33 (fun H locs hP hS => ?_)
  have hP : PD D A [[(h0, .inr (6, [.ref q1, .ref q2, .int 0, .int 0, .int 0, .int 0, .int 0, .long 0, .int 0, .int 0]))], [(q1, .inl (cy 2, 900, .inl ((fun _ => 0))))], [(q2, .inl (cy 1, 19, .inr (.inl ((fun _ => 0)))))]] H := hP
  refine lv_aload_n hx hb dX7_init_36 rfl (lv_at hl 0 rfl) ?_
  refine lv_iconst (v := 0) hx hb dX7_init_37 (by decide) ?_
  refine xput (i := 0) (j := 0) (k := 5) (T := TX7) tyX7 tyX7_ok nmX7 hx hb ht tb_iX7 hown hX hP hS rfl rfl rfl (by decide) tb_226 rfl rfl rfl (Nat.le_of_ble_eq_true rfl) dX7_init_38 (fun H locs hP hS => ?_)
  have hP : PD D A [[(h0, .inr (6, [.ref q1, .ref q2, .int 0, .int 0, .int 0, .int 0, .int 0, .long 0, .int 0, .int 0]))], [(q1, .inl (cy 2, 900, .inl ((fun _ => 0))))], [(q2, .inl (cy 1, 19, .inr (.inl ((fun _ => 0)))))]] H := hP
  refine lv_aload_n hx hb dX7_init_41 rfl (lv_at hl 0 rfl) ?_
  refine lv_iconst (v := (-1)) hx hb dX7_init_42 (by decide) ?_
  refine xput (i := 0) (j := 0) (k := 6) (T := TX7) tyX7 tyX7_ok nmX7 hx hb ht tb_iX7 hown hX hP hS rfl rfl rfl (by decide) tb_229 rfl rfl rfl (Nat.le_of_ble_eq_true rfl) dX7_init_43 (fun H locs hP hS => ?_)
  have hP : PD D A [[(h0, .inr (6, [.ref q1, .ref q2, .int 0, .int 0, .int 0, .int 0, .int (-1), .long 0, .int 0, .int 0]))], [(q1, .inl (cy 2, 900, .inl ((fun _ => 0))))], [(q2, .inl (cy 1, 19, .inr (.inl ((fun _ => 0)))))]] H := hP
  refine lv_aload_n hx hb dX7_init_46 rfl (lv_at hl 0 rfl) ?_
  refine lv_lconst (v := 0) hx hb dX7_init_47 (by decide) ?_
  refine xput (i := 0) (j := 0) (k := 7) (T := TX7) tyX7 tyX7_ok nmX7 hx hb ht tb_iX7 hown hX hP hS rfl rfl rfl (by decide) tb_233 rfl rfl rfl (Nat.le_of_ble_eq_true rfl) dX7_init_48 (fun H locs hP hS => ?_)
  have hP : PD D A [[(h0, .inr (6, [.ref q1, .ref q2, .int 0, .int 0, .int 0, .int 0, .int (-1), .long 0, .int 0, .int 0]))], [(q1, .inl (cy 2, 900, .inl ((fun _ => 0))))], [(q2, .inl (cy 1, 19, .inr (.inl ((fun _ => 0)))))]] H := hP
  refine lv_aload_n hx hb dX7_init_51 rfl (lv_at hl 0 rfl) ?_
  refine lv_iconst (v := 0) hx hb dX7_init_52 (by decide) ?_
  refine xput (i := 0) (j := 0) (k := 8) (T := TX7) tyX7 tyX7_ok nmX7 hx hb ht tb_iX7 hown hX hP hS rfl rfl rfl (by decide) tb_236 rfl rfl rfl (Nat.le_of_ble_eq_true rfl) dX7_init_53 (fun H locs hP hS => ?_)
  have hP : PD D A [[(h0, .inr (6, [.ref q1, .ref q2, .int 0, .int 0, .int 0, .int 0, .int (-1), .long 0, .int 0, .int 0]))], [(q1, .inl (cy 2, 900, .inl ((fun _ => 0))))], [(q2, .inl (cy 1, 19, .inr (.inl ((fun _ => 0)))))]] H := hP
  refine lv_aload_n hx hb dX7_init_56 rfl (lv_at hl 0 rfl) ?_
  refine lv_iconst (v := 0) hx hb dX7_init_57 (by decide) ?_
  refine xput (i := 0) (j := 0) (k := 9) (T := TX7) tyX7 tyX7_ok nmX7 hx hb ht tb_iX7 hown hX hP hS rfl rfl rfl (by decide) tb_237 rfl rfl rfl (Nat.le_of_ble_eq_true rfl) dX7_init_58 (fun H locs hP hS => ?_)
  have hP : PD D A [[(h0, .inr (6, [.ref q1, .ref q2, .int 0, .int 0, .int 0, .int 0, .int (-1), .long 0, .int 0, .int 0]))], [(q1, .inl (cy 2, 900, .inl ((fun _ => 0))))], [(q2, .inl (cy 1, 19, .inr (.inl ((fun _ => 0)))))]] H := hP
  refine W.widen (k := 2) (n := 919) (Nat.le_of_ble_eq_true rfl) (Nat.le_of_ble_eq_true rfl) ?_
  obtain ⟨A_t, e0, hP⟩ : ∃ A_t : Nat → Nat, A_t 0 = h0 ∧ PD D A [bl_X7 cy A_t ((fun _ => 0)) ((fun _ => 0)) 0 0 0 0 (-1) 0 0 0] H := ⟨adf [h0, q1, q2], rfl, hP.1, hP.2⟩
  have hl : lv_has ls 6 [(0, .ref (A_t 0))] := by rw [e0]; exact hl
  obtain ⟨t_wordCodes, hwc⟩ : ∃ f : Nat → Int64, f = (fun _ => 0) := ⟨_, rfl⟩
  have hP : PD D A [bl_X7 cy A_t ((fun _ => 0)) t_wordCodes 0 0 0 0 (-1) 0 0 0] H := by rw [hwc]; exact hP
  have h : f_X7_init fu t_wordCodes = some res := by rw [hwc]; exact h
  have l68 : ∀ (n68 : Nat) (t_wordCodes : Nat → Int64) (x1 : Int64) (x3 : Int32) (x4 : Int32) (H : Heap) (locs : List Loc) (_ : PD D A [bl_X7 cy A_t ((fun _ => 0)) t_wordCodes 0 0 0 0 (-1) 0 0 0] H) (_ : va_S A s.heap H locs) (ls : Array Slot), lv_has ls 6 [(0, .ref (A_t 0)), (1, .long x1), (3, .int x3), (4, .int x4)] → f_X7_init_l68 fu n68 t_wordCodes x1 x3 x4 = some res → W p l e (headSpec (WW yX7_init cX7_init 6 none) rmn_X7).room s m args below meth c H locs 2 919 (MQ below (va_Qv (fun (u : Nat → Nat) => u 0 = h0) (fun u t => PD D A [bl_X7 cy u ((fun _ => 0)) res 0 0 0 0 (-1) 0 0 0] t.heap) A) args s 2 919 A) (F0 m 68 ls []) := by
    intro n68
    induction n68 with
    | zero => intro t_wordCodes x1 x3 x4 H locs hP hS ls hl h; cases h
    | succ n68 ih68 =>
      intro t_wordCodes x1 x3 x4 H locs hP hS ls hl h
      have h : f_X7_init_b68 fu (f_X7_init_l68 fu n68) t_wordCodes x1 x3 x4 = some res := h
      unfold f_X7_init_b68 at h
      refine lv_iload hx hb dX7_init_68 (lv_at hl 3 rfl) ?_
      refine va_ldcS hx hb hown hE.2.2.2.2.2.2.1 dX7_init_70 ?_
      obtain ⟨z_12, e_z_12, h⟩ := bi h
      refine roTiX (rest := [.int x4]) ⟨hx, hb, hml, hown, ht⟩ (c_J0_length_8abf5 l D cy fu tO aK aV 0 (by decide)  z_12 e_z_12) (cV ht mv_J0_length_8abf5 tb_169 rfl rfl ⟨Nat.le_of_ble_eq_true rfl, Nat.le_of_ble_eq_true rfl⟩) (P_sub hP.1 [] rfl) hX hE hS (by decide) rfl hl.1 rfl (Nat.le_of_ble_eq_true rfl) dX7_init_72 ⟨Nat.le_of_ble_eq_true rfl, Nat.le_of_ble_eq_true rfl⟩ ?_
      refine lv_icmp_ge (tgt := 136) hx hb dX7_init_75 (by decide) (fun c_13 => ?_) (fun c_13 => ?_)
      · have h := it c_13 h
        cases h
        exact W.vret hx hb hr (fun t ht9 _ => ⟨⟨A_t, rfl, e0, PDt ht9 hP⟩, hS.F ht9⟩) hS.2.2 dX7_init_136
      · have h := ie c_13 h
        refine va_ldcS hx hb hown hE.2.2.2.2.2.2.1 dX7_init_78 ?_
        refine lv_iload hx hb dX7_init_80 (lv_at hl 3 rfl) ?_
        obtain ⟨z_14, e_z_14, h⟩ := bi h
        refine roTiX (rest := []) ⟨hx, hb, hml, hown, ht⟩ (c_J0_charAt_5068e l D cy fu tO aK aV 0 (by decide)  x4 z_14 e_z_14) (cV ht mv_J0_charAt_5068e tb_179 rfl rfl ⟨Nat.le_of_ble_eq_true rfl, Nat.le_of_ble_eq_true rfl⟩) (P_sub hP.1 [] rfl) hX hE hS (by decide) rfl hl.1 rfl (Nat.le_of_ble_eq_true rfl) dX7_init_82 ⟨Nat.le_of_ble_eq_true rfl, Nat.le_of_ble_eq_true rfl⟩ ?_
        refine lv_istore (lv' := [(5, .int z_14), (0, .ref (A_t 0)), (1, .long x1), (3, .int x3), (4, .int x4)]) hx hb dX7_init_85 hl (by decide) rfl (fun ls hl => ?_)
        refine lv_iload hx hb dX7_init_87 (lv_at hl 0 rfl) ?_
        refine lv_bipush (v := 32) hx hb dX7_init_89 (by decide) ?_
        refine lv_icmp_eq (tgt := 112) hx hb dX7_init_91 (by decide) (fun c_15 => ?_) (fun c_15 => ?_)
        · have h := it c_15 h
          refine lv_iload_n hx hb dX7_init_112 rfl (lv_at hl 3 rfl) ?_
          refine lv_bipush (v := 19) hx hb dX7_init_113 (by decide) ?_
          refine lv_icmp_ge (tgt := 130) hx hb dX7_init_115 (by decide) (fun c_16 => ?_) (fun c_16 => ?_)
          · have h := it c_16 h
            obtain ⟨x4_17, e_x4_17⟩ : ∃ y : Int32, y = x4 + 1 := ⟨_, rfl⟩
            have h := bn e_x4_17 h
            refine lv_iinc (v := x4_17) (lv' := [(4, .int x4_17), (5, .int z_14), (0, .ref (A_t 0)), (1, .long x1), (3, .int x3)]) hx hb dX7_init_130 hl (k := 4) rfl (by rw [e_x4_17]; rfl) (by decide) rfl (fun ls hl => ?_)
            refine lv_goto (tgt := 68) hx hb dX7_init_133 (by decide) ?_
            exact ih68 t_wordCodes x1 x3 x4_17 _ _ hP hS ls (lv_sub hl [2, 3, 4, 0] rfl) h
          · have h := ie c_16 h
            refine lv_aload_n hx hb dX7_init_118 rfl (lv_at hl 1 rfl) ?_
            refine xget (i := 0) (j := 0) (k := 1) (T := TX7) hx hb ht tb_iX7 hown hX hP.1 rfl rfl rfl (by decide) tb_219 rfl dX7_init_119 ?_
            refine lv_iload_n hx hb dX7_init_122 rfl (lv_at hl 3 rfl) ?_
            refine lv_lload_n hx hb dX7_init_123 rfl (lv_at hl 2 rfl) ?_
            obtain ⟨t_wordCodes_18, e_t_wordCodes_18, h⟩ := bi h
            refine xlast (i0 := 0) (j0 := 2) hx hb hX hP hS rfl rfl e_t_wordCodes_18 dX7_init_124 (fun H locs hP hS => ?_)
            have hP : PD D A [bl_X7 cy A_t ((fun _ => 0)) t_wordCodes_18 0 0 0 0 (-1) 0 0 0] H := hP
            refine lv_lconst (v := 0) hx hb dX7_init_125 (by decide) ?_
            refine lv_lstore_n (lv' := [(1, .long 0), (5, .int z_14), (0, .ref (A_t 0)), (3, .int x3), (4, .int x4)]) hx hb dX7_init_126 rfl hl (by decide) rfl (fun ls hl => ?_)
            obtain ⟨x3_19, e_x3_19⟩ : ∃ y : Int32, y = x3 + 1 := ⟨_, rfl⟩
            have h := bn e_x3_19 h
            refine lv_iinc (v := x3_19) (lv' := [(3, .int x3_19), (1, .long 0), (5, .int z_14), (0, .ref (A_t 0)), (4, .int x4)]) hx hb dX7_init_127 hl (k := 3) rfl (by rw [e_x3_19]; rfl) (by decide) rfl (fun ls hl => ?_)
            obtain ⟨x4_20, e_x4_20⟩ : ∃ y : Int32, y = x4 + 1 := ⟨_, rfl⟩
            have h := bn e_x4_20 h
            refine lv_iinc (v := x4_20) (lv' := [(4, .int x4_20), (3, .int x3_19), (1, .long 0), (5, .int z_14), (0, .ref (A_t 0))]) hx hb dX7_init_130 hl (k := 4) rfl (by rw [e_x4_20]; rfl) (by decide) rfl (fun ls hl => ?_)
            refine lv_goto (tgt := 68) hx hb dX7_init_133 (by decide) ?_
            exact ih68 t_wordCodes_18 0 x3_19 x4_20 _ _ hP hS ls (lv_sub hl [4, 2, 1, 0] rfl) h
        · have h := ie c_15 h
          refine lv_lload_n hx hb dX7_init_94 rfl (lv_at hl 2 rfl) ?_
          refine lv_ldc2 (v := 32) hx hb hown (ht _ tb_217) dX7_init_95 ?_
          refine lv_lmul hx hb dX7_init_98 ?_
          refine lv_iload hx hb dX7_init_99 (lv_at hl 0 rfl) ?_
          refine lv_bipush (v := 97) hx hb dX7_init_101 (by decide) ?_
          refine lv_isub hx hb dX7_init_103 ?_
          refine lv_iconst (v := 1) hx hb dX7_init_104 (by decide) ?_
          refine lv_iadd hx hb dX7_init_105 ?_
          refine lv_i2l (v := Int32.toInt64 ((z_14 - 97) + 1)) hx hb dX7_init_106 rfl ?_
          refine lv_ladd hx hb dX7_init_107 ?_
          refine lv_topl (fun x1_21 e_x1_21 => ?_)
          have h := bn e_x1_21 h
          refine lv_lstore_n (lv' := [(1, .long x1_21), (5, .int z_14), (0, .ref (A_t 0)), (3, .int x3), (4, .int x4)]) hx hb dX7_init_108 rfl hl (by decide) rfl (fun ls hl => ?_)
          refine lv_goto (tgt := 130) hx hb dX7_init_109 (by decide) ?_
          obtain ⟨x4_22, e_x4_22⟩ : ∃ y : Int32, y = x4 + 1 := ⟨_, rfl⟩
          have h := bn e_x4_22 h
          refine lv_iinc (v := x4_22) (lv' := [(4, .int x4_22), (1, .long x1_21), (5, .int z_14), (0, .ref (A_t 0)), (3, .int x3)]) hx hb dX7_init_130 hl (k := 4) rfl (by rw [e_x4_22]; rfl) (by decide) rfl (fun ls hl => ?_)
          refine lv_goto (tgt := 68) hx hb dX7_init_133 (by decide) ?_
          exact ih68 t_wordCodes x1_21 x3 x4_22 _ _ hP hS ls (lv_sub hl [3, 1, 4, 0] rfl) h
  unfold f_X7_init at h
  refine lv_lconst (v := 0) hx hb dX7_init_61 (by decide) ?_
  refine lv_lstore_n (lv' := [(1, .long 0), (0, .ref (A_t 0))]) hx hb dX7_init_62 rfl hl (by decide) rfl (fun ls hl => ?_)
  refine lv_iconst (v := 0) hx hb dX7_init_63 (by decide) ?_
  refine lv_istore_n (lv' := [(3, .int 0), (1, .long 0), (0, .ref (A_t 0))]) hx hb dX7_init_64 rfl hl (by decide) rfl (fun ls hl => ?_)
  refine lv_iconst (v := 0) hx hb dX7_init_65 (by decide) ?_
  refine lv_istore (lv' := [(4, .int 0), (3, .int 0), (1, .long 0), (0, .ref (A_t 0))]) hx hb dX7_init_66 hl (by decide) rfl (fun ls hl => ?_)
  exact l68 fu t_wordCodes 0 0 0 _ _ hP hS ls (lv_sub hl [3, 2, 1, 0] rfl) h
theorem dX6_init_0 : decode cX6_init 0 = .ok (.aload_n 0, 1) := by decide +kernel
theorem dX6_init_1 : decode cX6_init 1 = .ok (.invokespecial 3, 3) := by decide +kernel
theorem dX6_init_4 : decode cX6_init 4 = .ok (.aload_n 0, 1) := by decide +kernel
theorem dX6_init_5 : decode cX6_init 5 = .ok (.new 9, 3) := by decide +kernel
theorem dX6_init_8 : decode cX6_init 8 = .ok (.dup, 1) := by decide +kernel
theorem dX6_init_9 : decode cX6_init 9 = .ok (.invokespecial 11, 3) := by decide +kernel
theorem dX6_init_12 : decode cX6_init 12 = .ok (.putfield 12, 3) := by decide +kernel
theorem dX6_init_15 : decode cX6_init 15 = .ok (.aload_n 0, 1) := by decide +kernel
theorem dX6_init_16 : decode cX6_init 16 = .ok (.iconst (-1), 1) := by decide +kernel
theorem dX6_init_17 : decode cX6_init 17 = .ok (.putfield 18, 3) := by decide +kernel
theorem dX6_init_20 : decode cX6_init 20 = .ok (.aload_n 0, 1) := by decide +kernel
theorem dX6_init_21 : decode cX6_init 21 = .ok (.iconst (-1), 1) := by decide +kernel
theorem dX6_init_22 : decode cX6_init 22 = .ok (.putfield 22, 3) := by decide +kernel
theorem dX6_init_25 : decode cX6_init 25 = .ok (.return_, 1) := by decide +kernel
theorem mi_X6 : MI yX6_init cX6_init 1 0 := ⟨tb_160, tb_159, tb_4, rfl, by decide +kernel, by decide +kernel, by decide +kernel⟩
abbrev rmn_X6 : Room := { frames := 5, cells := 3, slots := 929, locals := 110 }
set_option maxHeartbeats 8000000 in
set_option maxRecDepth 100000 in
theorem n_X6 (l : Launch) (D : va_G) (cy : Nat → ClassId) (tO : Nat) (aK aV : Nat → Nat) (fu : Nat) (h0 sz : Nat) (wc : Nat → Int64) (hwc : f_X7_init fu (fun _ => 0) = some wc) : Met l yX6_init (WW yX6_init cX6_init 1 none) rmn_X6 (Cd D cy tO aK aV [.ref h0] (h0, .inr (5, [.null, .int 0, .int 0])) sz) (va_Qv (fun (u : (Nat → Nat) × (Nat → Nat)) => u.1 0 = h0) (fun u t => PD D (va_A [(h0, .inr (5, [.null, .int 0, .int 0]))] sz) [bl_X6 cy u.1 (u.2 0) (-1) (-1), bl_X7 cy u.2 ((fun _ => 0)) wc 0 0 0 0 (-1) 0 0 0] t.heap) (va_A [(h0, .inr (5, [.null, .int 0, .int 0]))] sz)) 3 929 (va_A [(h0, .inr (5, [.null, .int 0, .int 0]))] sz) := by
  refine Met.ofW (cc := cX6_init) (maxL := 1) (ret := none) (by decide) rfl ?_
  intro p e s m args below meth c s₁ B hml hv
  obtain ⟨hargs, hP, hC, hsz⟩ := hv
  have hx := B.exec
  have hb := B.bytes
  have hr := B.returns
  have ht : ∀ w ∈ lw_gd, w.before args s = true := fun w hw => atoms_spec (ws := WW yX6_init cX6_init 1 none) B.pre w (List.mem_cons_of_mem _ hw)
  have hown : s.vm.findClass RX6 = some m.cls := findClass_of_methodNamed B.named
  have hlocks := B.notSynchronized
  have hin : meth.name = "<init>" := (name_of_methodNamed B.named B.method).1
  subst hsz
  have hP : PD D (va_A [(h0, .inr (5, [.null, .int 0, .int 0]))] s.heap.size) [[(h0, .inr (5, [.null, .int 0, .int 0]))]] s.heap := ⟨hP, D_one⟩
  generalize hAe : va_A [(h0, .inr (5, [.null, .int 0, .int 0]))] s.heap.size = A at hP hC ⊢
  have hA : ∀ q : Nat, s.heap.size ≤ q → A q := fun q h => by rw [← hAe]; exact Or.inr h
  have hX := hC.1
  have hE := hC.2.1
  have hS : va_S A s.heap s.heap [] := va_S.rf
  obtain ⟨ls, hl, hent⟩ := ent (m := m) (n := 1) hargs (Nat.le_of_ble_eq_true rfl) (lv := [(0, .ref h0)]) rfl
  rw [hent]
  clear hent
  refine lv_aload_n hx hb dX6_init_0 rfl (lv_at hl 0 rfl) ?_
  refine W.objInit hx hb hown (ht _ tb_161) (ht _ tb_28) (ht _ tb_29) rfl (by rw [hml]; exact hl.1) rfl dX6_init_1 (Nat.le_of_ble_eq_true rfl) (Nat.le_of_ble_eq_true rfl) ?_
  refine W.eq (g2 := F0 m 4 ls []) rfl ?_
  refine lv_aload_n hx hb dX6_init_4 rfl (lv_at hl 0 rfl) ?_
  refine xnew (ci := 6) (fs := [.null, .null, .int 0, .int 0, .int 0, .int 0, .int 0, .long 0, .int 0, .int 0]) (T := TX7) tyX7 tyX7_ok hx hb ht tb_iX7 hown tb_162 tb_163 tb_5 hX hP hS hA rfl (fun j hj => by rcases (show j = 0 ∨ j = 1 ∨ j = 2 ∨ j = 3 ∨ j = 4 ∨ j = 5 ∨ j = 6 ∨ j = 7 ∨ j = 8 ∨ j = 9 by omega) with rfl | rfl | rfl | rfl | rfl | rfl | rfl | rfl | rfl | rfl <;> rfl) (Nat.le_of_ble_eq_true rfl) (Nat.le_of_ble_eq_true rfl) dX6_init_5 (fun q1 H hP hS => ?_)
  have hP : PD D A [[(h0, .inr (5, [.null, .int 0, .int 0]))], [(q1, .inr (6, [.null, .null, .int 0, .int 0, .int 0, .int 0, .int 0, .long 0, .int 0, .int 0]))]] H := hP
  refine lv_dup hx hb dX6_init_8 rfl ?_
  refine efI (bs := [[(h0, .inr (5, [.null, .int 0, .int 0]))]]) (rest := [.ref q1, .ref h0]) ⟨hx, hb, hml, hown, ht⟩ (n_X7 l D cy tO aK aV fu q1 H.size wc hwc) (cI ht mi_X7 tb_164 rfl rfl ⟨Nat.le_of_ble_eq_true rfl, Nat.le_of_ble_eq_true rfl⟩) hP hS hA hC rfl hl.1 rfl (Nat.le_of_ble_eq_true rfl) dX6_init_9 ⟨Nat.le_of_ble_eq_true rfl, Nat.le_of_ble_eq_true rfl⟩ (fun u2 H locs hu hPn hSn => ?_)
  have hu : u2 0 = q1 := hu
  subst hu
  have hP := hPn
  have hS := hSn
  clear hPn hSn
  have hP : PD D A [[(h0, .inr (5, [.null, .int 0, .int 0]))], bl_X7 cy u2 ((fun _ => 0)) wc 0 0 0 0 (-1) 0 0 0] H := hP
  refine xputF (i := 0) (j := 0) (k := 0) (T := TX6) tyX6 tyX6_ok nmX6 hx hb ht tb_iX6 hown hX hP hS rfl rfl rfl (by decide) tb_260 rfl hin rfl rfl rfl (Nat.le_of_ble_eq_true rfl) dX6_init_12 (fun H locs hP hS => ?_)
  have hP : PD D A [[(h0, .inr (5, [.ref (u2 0), .int 0, .int 0]))], bl_X7 cy u2 ((fun _ => 0)) wc 0 0 0 0 (-1) 0 0 0] H := hP
  refine lv_aload_n hx hb dX6_init_15 rfl (lv_at hl 0 rfl) ?_
  refine lv_iconst (v := (-1)) hx hb dX6_init_16 (by decide) ?_
  refine xput (i := 0) (j := 0) (k := 1) (T := TX6) tyX6 tyX6_ok nmX6 hx hb ht tb_iX6 hown hX hP hS rfl rfl rfl (by decide) tb_264 rfl rfl rfl (Nat.le_of_ble_eq_true rfl) dX6_init_17 (fun H locs hP hS => ?_)
  have hP : PD D A [[(h0, .inr (5, [.ref (u2 0), .int (-1), .int 0]))], bl_X7 cy u2 ((fun _ => 0)) wc 0 0 0 0 (-1) 0 0 0] H := hP
  refine lv_aload_n hx hb dX6_init_20 rfl (lv_at hl 0 rfl) ?_
  refine lv_iconst (v := (-1)) hx hb dX6_init_21 (by decide) ?_
  refine xput (i := 0) (j := 0) (k := 2) (T := TX6) tyX6 tyX6_ok nmX6 hx hb ht tb_iX6 hown hX hP hS rfl rfl rfl (by decide) tb_266 rfl rfl rfl (Nat.le_of_ble_eq_true rfl) dX6_init_22 (fun H locs hP hS => ?_)
  have hP : PD D A [[(h0, .inr (5, [.ref (u2 0), .int (-1), .int (-1)]))], bl_X7 cy u2 ((fun _ => 0)) wc 0 0 0 0 (-1) 0 0 0] H := hP
  refine W.widen (k := 3) (n := 929) (Nat.le_of_ble_eq_true rfl) (Nat.le_of_ble_eq_true rfl) ?_
  exact W.vret hx hb hr (fun t ht9 _ => ⟨⟨(adf [h0], u2), rfl, rfl, PDt ht9 ⟨hP.1, hP.2⟩⟩, hS.F ht9⟩) hS.2.2 dX6_init_25
theorem dX4_init_0 : decode cX4_init 0 = .ok (.aload_n 0, 1) := by decide +kernel
theorem dX4_init_1 : decode cX4_init 1 = .ok (.invokespecial 3, 3) := by decide +kernel
theorem dX4_init_4 : decode cX4_init 4 = .ok (.aload_n 0, 1) := by decide +kernel
theorem dX4_init_5 : decode cX4_init 5 = .ok (.new 9, 3) := by decide +kernel
theorem dX4_init_8 : decode cX4_init 8 = .ok (.dup, 1) := by decide +kernel
theorem dX4_init_9 : decode cX4_init 9 = .ok (.invokespecial 11, 3) := by decide +kernel
theorem dX4_init_12 : decode cX4_init 12 = .ok (.putfield 12, 3) := by decide +kernel
theorem dX4_init_15 : decode cX4_init 15 = .ok (.aload_n 0, 1) := by decide +kernel
theorem dX4_init_16 : decode cX4_init 16 = .ok (.iconst 4, 1) := by decide +kernel
theorem dX4_init_17 : decode cX4_init 17 = .ok (.newarray .int, 2) := by decide +kernel
theorem dX4_init_19 : decode cX4_init 19 = .ok (.putfield 18, 3) := by decide +kernel
theorem dX4_init_22 : decode cX4_init 22 = .ok (.aload_n 0, 1) := by decide +kernel
theorem dX4_init_23 : decode cX4_init 23 = .ok (.iconst 0, 1) := by decide +kernel
theorem dX4_init_24 : decode cX4_init 24 = .ok (.putfield 22, 3) := by decide +kernel
theorem dX4_init_27 : decode cX4_init 27 = .ok (.return_, 1) := by decide +kernel
theorem mi_X4 : MI yX4_init cX4_init 1 0 := ⟨tb_364, tb_363, tb_13, rfl, by decide +kernel, by decide +kernel, by decide +kernel⟩
abbrev rmn_X4 : Room := { frames := 2, cells := 10, slots := 138, locals := 60 }
set_option maxHeartbeats 8000000 in
set_option maxRecDepth 100000 in
theorem n_X4 (l : Launch) (D : va_G) (cy : Nat → ClassId) (tO : Nat) (aK aV : Nat → Nat) (h0 sz : Nat) : Met l yX4_init (WW yX4_init cX4_init 1 none) rmn_X4 (Cd D cy tO aK aV [.ref h0] (h0, .inr (3, [.null, .null, .int 0])) sz) (va_Qv (fun (u : (Nat → Nat) × (Nat → Nat)) => u.1 0 = h0) (fun u t => PD D (va_A [(h0, .inr (3, [.null, .null, .int 0]))] sz) [bl_X4 cy u.1 (u.2 0) (fun _ => 0) 0, bl_X0 cy u.2 ((fun _ => 0)) ((fun _ => 0)) ((fun _ => 0)) ((fun _ => 0)) ((fun _ => 0)) ((fun _ => 0)) ((fun _ => 0)) ((fun _ => 0)) 0 0 1 50 0 0] t.heap) (va_A [(h0, .inr (3, [.null, .null, .int 0]))] sz)) 10 138 (va_A [(h0, .inr (3, [.null, .null, .int 0]))] sz) := by
  refine Met.ofW (cc := cX4_init) (maxL := 1) (ret := none) (by decide) rfl ?_
  intro p e s m args below meth c s₁ B hml hv
  obtain ⟨hargs, hP, hC, hsz⟩ := hv
  have hx := B.exec
  have hb := B.bytes
  have hr := B.returns
  have ht : ∀ w ∈ lw_gd, w.before args s = true := fun w hw => atoms_spec (ws := WW yX4_init cX4_init 1 none) B.pre w (List.mem_cons_of_mem _ hw)
  have hown : s.vm.findClass RX4 = some m.cls := findClass_of_methodNamed B.named
  have hlocks := B.notSynchronized
  have hin : meth.name = "<init>" := (name_of_methodNamed B.named B.method).1
  subst hsz
  have hP : PD D (va_A [(h0, .inr (3, [.null, .null, .int 0]))] s.heap.size) [[(h0, .inr (3, [.null, .null, .int 0]))]] s.heap := ⟨hP, D_one⟩
  generalize hAe : va_A [(h0, .inr (3, [.null, .null, .int 0]))] s.heap.size = A at hP hC ⊢
  have hA : ∀ q : Nat, s.heap.size ≤ q → A q := fun q h => by rw [← hAe]; exact Or.inr h
  have hX := hC.1
  have hE := hC.2.1
  have hS : va_S A s.heap s.heap [] := va_S.rf
  obtain ⟨ls, hl, hent⟩ := ent (m := m) (n := 1) hargs (Nat.le_of_ble_eq_true rfl) (lv := [(0, .ref h0)]) rfl
  rw [hent]
  clear hent
  refine lv_aload_n hx hb dX4_init_0 rfl (lv_at hl 0 rfl) ?_
  refine W.objInit hx hb hown (ht _ tb_365) (ht _ tb_28) (ht _ tb_29) rfl (by rw [hml]; exact hl.1) rfl dX4_init_1 (Nat.le_of_ble_eq_true rfl) (Nat.le_of_ble_eq_true rfl) ?_
  refine W.eq (g2 := F0 m 4 ls []) rfl ?_
  refine lv_aload_n hx hb dX4_init_4 rfl (lv_at hl 0 rfl) ?_
  refine xnew (ci := 0) (fs := [.null, .null, .null, .null, .null, .null, .null, .null, .int 0, .int 0, .int 0, .int 0, .int 0, .int 0]) (T := TX0) tyX0 tyX0_ok hx hb ht tb_iX0 hown tb_366 tb_33 tb_2 hX hP hS hA rfl (fun j hj => by rcases (show j = 0 ∨ j = 1 ∨ j = 2 ∨ j = 3 ∨ j = 4 ∨ j = 5 ∨ j = 6 ∨ j = 7 ∨ j = 8 ∨ j = 9 ∨ j = 10 ∨ j = 11 ∨ j = 12 ∨ j = 13 by omega) with rfl | rfl | rfl | rfl | rfl | rfl | rfl | rfl | rfl | rfl | rfl | rfl | rfl | rfl <;> rfl) (Nat.le_of_ble_eq_true rfl) (Nat.le_of_ble_eq_true rfl) dX4_init_5 (fun q1 H hP hS => ?_)
  have hP : PD D A [[(h0, .inr (3, [.null, .null, .int 0]))], [(q1, .inr (0, [.null, .null, .null, .null, .null, .null, .null, .null, .int 0, .int 0, .int 0, .int 0, .int 0, .int 0]))]] H := hP
  refine lv_dup hx hb dX4_init_8 rfl ?_
  refine efIN (bs := [[(h0, .inr (3, [.null, .null, .int 0]))]]) (rest := [.ref q1, .ref h0]) ⟨hx, hb, hml, hown, ht⟩ (n_X0 l D cy tO aK aV q1 H.size) (cIN ht hX mi_X0 (List.mem_of_getElem? (i := 4) rfl) rfl rfl ⟨Nat.le_of_ble_eq_true rfl, Nat.le_of_ble_eq_true rfl⟩) hP hS hA hC rfl hl.1 rfl (Nat.le_of_ble_eq_true rfl) dX4_init_9 ⟨Nat.le_of_ble_eq_true rfl, Nat.le_of_ble_eq_true rfl⟩ (fun u2 H locs hu hPn hSn => ?_)
  have hu : u2 0 = q1 := hu
  subst hu
  have hP := hPn
  have hS := hSn
  clear hPn hSn
  have hP : PD D A [[(h0, .inr (3, [.null, .null, .int 0]))], bl_X0 cy u2 ((fun _ => 0)) ((fun _ => 0)) ((fun _ => 0)) ((fun _ => 0)) ((fun _ => 0)) ((fun _ => 0)) ((fun _ => 0)) ((fun _ => 0)) 0 0 1 50 0 0] H := hP
  refine xputF (i := 0) (j := 0) (k := 0) (T := TX4) tyX4 tyX4_ok nmX4 hx hb ht tb_iX4 hown hX hP hS rfl rfl rfl (by decide) tb_368 rfl hin rfl rfl rfl (Nat.le_of_ble_eq_true rfl) dX4_init_12 (fun H locs hP hS => ?_)
  have hP : PD D A [[(h0, .inr (3, [.ref (u2 0), .null, .int 0]))], bl_X0 cy u2 ((fun _ => 0)) ((fun _ => 0)) ((fun _ => 0)) ((fun _ => 0)) ((fun _ => 0)) ((fun _ => 0)) ((fun _ => 0)) ((fun _ => 0)) 0 0 1 50 0 0] H := hP
  refine lv_aload_n hx hb dX4_init_15 rfl (lv_at hl 0 rfl) ?_
  refine lv_iconst (v := 4) hx hb dX4_init_16 (by decide) ?_
  refine xnewI (N := 4) hx hb ht hX hP hS hA (by decide) (by decide) (by decide) (Nat.le_of_ble_eq_true rfl) (Nat.le_of_ble_eq_true rfl) tb_105 dX4_init_17 (fun q3 H hP hS => ?_)
  have hP : PD D A [[(h0, .inr (3, [.ref (u2 0), .null, .int 0]))], bl_X0 cy u2 ((fun _ => 0)) ((fun _ => 0)) ((fun _ => 0)) ((fun _ => 0)) ((fun _ => 0)) ((fun _ => 0)) ((fun _ => 0)) ((fun _ => 0)) 0 0 1 50 0 0, [(q3, .inl (cy 0, 4, .inl ((fun _ => 0))))]] H := hP
  refine xputF (i := 0) (j := 0) (k := 1) (T := TX4) tyX4 tyX4_ok nmX4 hx hb ht tb_iX4 hown hX hP hS rfl rfl rfl (by decide) tb_369 rfl hin rfl rfl rfl (Nat.le_of_ble_eq_true rfl) dX4_init_19 (fun H locs hP hS => ?_)
  have hP : PD D A [[(h0, .inr (3, [.ref (u2 0), .ref q3, .int 0]))], bl_X0 cy u2 ((fun _ => 0)) ((fun _ => 0)) ((fun _ => 0)) ((fun _ => 0)) ((fun _ => 0)) ((fun _ => 0)) ((fun _ => 0)) ((fun _ => 0)) 0 0 1 50 0 0, [(q3, .inl (cy 0, 4, .inl ((fun _ => 0))))]] H := hP
  refine lv_aload_n hx hb dX4_init_22 rfl (lv_at hl 0 rfl) ?_
  refine lv_iconst (v := 0) hx hb dX4_init_23 (by decide) ?_
  refine xput (i := 0) (j := 0) (k := 2) (T := TX4) tyX4 tyX4_ok nmX4 hx hb ht tb_iX4 hown hX hP hS rfl rfl rfl (by decide) tb_370 rfl rfl rfl (Nat.le_of_ble_eq_true rfl) dX4_init_24 (fun H locs hP hS => ?_)
  have hP : PD D A [[(h0, .inr (3, [.ref (u2 0), .ref q3, .int 0]))], bl_X0 cy u2 ((fun _ => 0)) ((fun _ => 0)) ((fun _ => 0)) ((fun _ => 0)) ((fun _ => 0)) ((fun _ => 0)) ((fun _ => 0)) ((fun _ => 0)) 0 0 1 50 0 0, [(q3, .inl (cy 0, 4, .inl ((fun _ => 0))))]] H := hP
  refine W.widen (k := 10) (n := 138) (Nat.le_of_ble_eq_true rfl) (Nat.le_of_ble_eq_true rfl) ?_
  exact W.vret hx hb hr (fun t ht9 _ => ⟨⟨(adf [h0, q3], u2), rfl, rfl, PDt ht9 (PD_perm hP [0, 10, 1, 2, 3, 4, 5, 6, 7, 8, 9] rfl rfl)⟩, hS.F ht9⟩) hS.2.2 dX4_init_27
theorem dX12_init_0 : decode cX12_init 0 = .ok (.aload_n 0, 1) := by decide +kernel
theorem dX12_init_1 : decode cX12_init 1 = .ok (.invokespecial 1, 3) := by decide +kernel
theorem dX12_init_4 : decode cX12_init 4 = .ok (.aload_n 0, 1) := by decide +kernel
theorem dX12_init_5 : decode cX12_init 5 = .ok (.sipush 3648, 3) := by decide +kernel
theorem dX12_init_8 : decode cX12_init 8 = .ok (.newarray .int, 2) := by decide +kernel
theorem dX12_init_10 : decode cX12_init 10 = .ok (.putfield 7, 3) := by decide +kernel
theorem dX12_init_13 : decode cX12_init 13 = .ok (.aload_n 0, 1) := by decide +kernel
theorem dX12_init_14 : decode cX12_init 14 = .ok (.bipush 48, 2) := by decide +kernel
theorem dX12_init_16 : decode cX12_init 16 = .ok (.newarray .long, 2) := by decide +kernel
theorem dX12_init_18 : decode cX12_init 18 = .ok (.putfield 13, 3) := by decide +kernel
theorem dX12_init_21 : decode cX12_init 21 = .ok (.aload_n 0, 1) := by decide +kernel
theorem dX12_init_22 : decode cX12_init 22 = .ok (.lconst 1, 1) := by decide +kernel
theorem dX12_init_23 : decode cX12_init 23 = .ok (.putfield 17, 3) := by decide +kernel
theorem dX12_init_26 : decode cX12_init 26 = .ok (.aload_n 0, 1) := by decide +kernel
theorem dX12_init_27 : decode cX12_init 27 = .ok (.iconst 4, 1) := by decide +kernel
theorem dX12_init_28 : decode cX12_init 28 = .ok (.newarray .int, 2) := by decide +kernel
theorem dX12_init_30 : decode cX12_init 30 = .ok (.putfield 21, 3) := by decide +kernel
theorem dX12_init_33 : decode cX12_init 33 = .ok (.aload_n 0, 1) := by decide +kernel
theorem dX12_init_34 : decode cX12_init 34 = .ok (.iconst 4, 1) := by decide +kernel
theorem dX12_init_35 : decode cX12_init 35 = .ok (.newarray .int, 2) := by decide +kernel
theorem dX12_init_37 : decode cX12_init 37 = .ok (.dup, 1) := by decide +kernel
theorem dX12_init_38 : decode cX12_init 38 = .ok (.iconst 0, 1) := by decide +kernel
theorem dX12_init_39 : decode cX12_init 39 = .ok (.iconst (-1), 1) := by decide +kernel
theorem dX12_init_40 : decode cX12_init 40 = .ok (.iastore, 1) := by decide +kernel
theorem dX12_init_41 : decode cX12_init 41 = .ok (.dup, 1) := by decide +kernel
theorem dX12_init_42 : decode cX12_init 42 = .ok (.iconst 1, 1) := by decide +kernel
theorem dX12_init_43 : decode cX12_init 43 = .ok (.iconst (-1), 1) := by decide +kernel
theorem dX12_init_44 : decode cX12_init 44 = .ok (.iastore, 1) := by decide +kernel
theorem dX12_init_45 : decode cX12_init 45 = .ok (.dup, 1) := by decide +kernel
theorem dX12_init_46 : decode cX12_init 46 = .ok (.iconst 2, 1) := by decide +kernel
theorem dX12_init_47 : decode cX12_init 47 = .ok (.iconst (-1), 1) := by decide +kernel
theorem dX12_init_48 : decode cX12_init 48 = .ok (.iastore, 1) := by decide +kernel
theorem dX12_init_49 : decode cX12_init 49 = .ok (.dup, 1) := by decide +kernel
theorem dX12_init_50 : decode cX12_init 50 = .ok (.iconst 3, 1) := by decide +kernel
theorem dX12_init_51 : decode cX12_init 51 = .ok (.iconst (-1), 1) := by decide +kernel
theorem dX12_init_52 : decode cX12_init 52 = .ok (.iastore, 1) := by decide +kernel
theorem dX12_init_53 : decode cX12_init 53 = .ok (.putfield 24, 3) := by decide +kernel
theorem dX12_init_56 : decode cX12_init 56 = .ok (.aload_n 0, 1) := by decide +kernel
theorem dX12_init_57 : decode cX12_init 57 = .ok (.sipush 240, 3) := by decide +kernel
theorem dX12_init_60 : decode cX12_init 60 = .ok (.newarray .long, 2) := by decide +kernel
theorem dX12_init_62 : decode cX12_init 62 = .ok (.putfield 27, 3) := by decide +kernel
theorem dX12_init_65 : decode cX12_init 65 = .ok (.aload_n 0, 1) := by decide +kernel
theorem dX12_init_66 : decode cX12_init 66 = .ok (.sipush 900, 3) := by decide +kernel
theorem dX12_init_69 : decode cX12_init 69 = .ok (.newarray .byte, 2) := by decide +kernel
theorem dX12_init_71 : decode cX12_init 71 = .ok (.putfield 30, 3) := by decide +kernel
theorem dX12_init_74 : decode cX12_init 74 = .ok (.aload_n 0, 1) := by decide +kernel
theorem dX12_init_75 : decode cX12_init 75 = .ok (.sipush 900, 3) := by decide +kernel
theorem dX12_init_78 : decode cX12_init 78 = .ok (.newarray .byte, 2) := by decide +kernel
theorem dX12_init_80 : decode cX12_init 80 = .ok (.putfield 34, 3) := by decide +kernel
theorem dX12_init_83 : decode cX12_init 83 = .ok (.aload_n 0, 1) := by decide +kernel
theorem dX12_init_84 : decode cX12_init 84 = .ok (.iconst (-1), 1) := by decide +kernel
theorem dX12_init_85 : decode cX12_init 85 = .ok (.putfield 37, 3) := by decide +kernel
theorem dX12_init_88 : decode cX12_init 88 = .ok (.aload_n 0, 1) := by decide +kernel
theorem dX12_init_89 : decode cX12_init 89 = .ok (.iconst (-1), 1) := by decide +kernel
theorem dX12_init_90 : decode cX12_init 90 = .ok (.putfield 41, 3) := by decide +kernel
theorem dX12_init_93 : decode cX12_init 93 = .ok (.aload_n 0, 1) := by decide +kernel
theorem dX12_init_94 : decode cX12_init 94 = .ok (.iconst 3, 1) := by decide +kernel
theorem dX12_init_95 : decode cX12_init 95 = .ok (.newarray .int, 2) := by decide +kernel
theorem dX12_init_97 : decode cX12_init 97 = .ok (.putfield 44, 3) := by decide +kernel
theorem dX12_init_100 : decode cX12_init 100 = .ok (.aload_n 0, 1) := by decide +kernel
theorem dX12_init_101 : decode cX12_init 101 = .ok (.bipush 8, 2) := by decide +kernel
theorem dX12_init_103 : decode cX12_init 103 = .ok (.newarray .int, 2) := by decide +kernel
theorem dX12_init_105 : decode cX12_init 105 = .ok (.putfield 47, 3) := by decide +kernel
theorem dX12_init_108 : decode cX12_init 108 = .ok (.aload_n 0, 1) := by decide +kernel
theorem dX12_init_109 : decode cX12_init 109 = .ok (.bipush 8, 2) := by decide +kernel
theorem dX12_init_111 : decode cX12_init 111 = .ok (.newarray .int, 2) := by decide +kernel
theorem dX12_init_113 : decode cX12_init 113 = .ok (.putfield 50, 3) := by decide +kernel
theorem dX12_init_116 : decode cX12_init 116 = .ok (.aload_n 0, 1) := by decide +kernel
theorem dX12_init_117 : decode cX12_init 117 = .ok (.bipush 8, 2) := by decide +kernel
theorem dX12_init_119 : decode cX12_init 119 = .ok (.newarray .int, 2) := by decide +kernel
theorem dX12_init_121 : decode cX12_init 121 = .ok (.putfield 53, 3) := by decide +kernel
theorem dX12_init_124 : decode cX12_init 124 = .ok (.aload_n 0, 1) := by decide +kernel
theorem dX12_init_125 : decode cX12_init 125 = .ok (.bipush 16, 2) := by decide +kernel
theorem dX12_init_127 : decode cX12_init 127 = .ok (.newarray .int, 2) := by decide +kernel
theorem dX12_init_129 : decode cX12_init 129 = .ok (.putfield 56, 3) := by decide +kernel
theorem dX12_init_132 : decode cX12_init 132 = .ok (.aload_n 0, 1) := by decide +kernel
theorem dX12_init_133 : decode cX12_init 133 = .ok (.bipush 10, 2) := by decide +kernel
theorem dX12_init_135 : decode cX12_init 135 = .ok (.newarray .long, 2) := by decide +kernel
theorem dX12_init_137 : decode cX12_init 137 = .ok (.putfield 59, 3) := by decide +kernel
theorem dX12_init_140 : decode cX12_init 140 = .ok (.aload_n 0, 1) := by decide +kernel
theorem dX12_init_141 : decode cX12_init 141 = .ok (.bipush 80, 2) := by decide +kernel
theorem dX12_init_143 : decode cX12_init 143 = .ok (.newarray .int, 2) := by decide +kernel
theorem dX12_init_145 : decode cX12_init 145 = .ok (.putfield 62, 3) := by decide +kernel
theorem dX12_init_148 : decode cX12_init 148 = .ok (.aload_n 0, 1) := by decide +kernel
theorem dX12_init_149 : decode cX12_init 149 = .ok (.iconst 5, 1) := by decide +kernel
theorem dX12_init_150 : decode cX12_init 150 = .ok (.newarray .int, 2) := by decide +kernel
theorem dX12_init_152 : decode cX12_init 152 = .ok (.putfield 65, 3) := by decide +kernel
theorem dX12_init_155 : decode cX12_init 155 = .ok (.aload_n 0, 1) := by decide +kernel
theorem dX12_init_156 : decode cX12_init 156 = .ok (.iconst 5, 1) := by decide +kernel
theorem dX12_init_157 : decode cX12_init 157 = .ok (.newarray .int, 2) := by decide +kernel
theorem dX12_init_159 : decode cX12_init 159 = .ok (.putfield 68, 3) := by decide +kernel
theorem dX12_init_162 : decode cX12_init 162 = .ok (.aload_n 0, 1) := by decide +kernel
theorem dX12_init_163 : decode cX12_init 163 = .ok (.iconst 0, 1) := by decide +kernel
theorem dX12_init_164 : decode cX12_init 164 = .ok (.invokevirtual 71, 3) := by decide +kernel
theorem dX12_init_167 : decode cX12_init 167 = .ok (.return_, 1) := by decide +kernel
theorem mi_X12 : MI yX12_init cX12_init 1 0 := ⟨tb_1220, tb_1219, tb_16, rfl, by decide +kernel, by decide +kernel, by decide +kernel⟩
abbrev rmn_X12 : Room := { frames := 2, cells := 16, slots := 5887, locals := 80 }
set_option maxHeartbeats 8000000 in
set_option maxRecDepth 100000 in
theorem n_X12 (l : Launch) (D : va_G) (cy : Nat → ClassId) (tO : Nat) (aK aV : Nat → Nat) (fu : Nat) (h0 sz : Nat) (at0 : Nat → Int32) (hpl : f_X12_plain fu (fun _ => 0) 0 = some at0) : Met l yX12_init (WW yX12_init cX12_init 1 none) rmn_X12 (Cd D cy tO aK aV [.ref h0] (h0, .inr (11, [.null, .null, .int 0, .long 0, .long 0, .null, .null, .null, .null, .null, .int 0, .int 0, .int 0, .int 0, .int 0, .int 0, .int 0, .int 0, .int 0, .int 0, .int 0, .null, .int 0, .int 0, .int 0, .null, .null, .null, .int 0, .int 0, .int 0, .null, .int 0, .null, .int 0, .int 0, .null, .null, .null, .int 0, .int 0])) sz) (va_Qv (fun (u : Nat → Nat) => u 0 = h0) (fun u t => PD D (va_A [(h0, .inr (11, [.null, .null, .int 0, .long 0, .long 0, .null, .null, .null, .null, .null, .int 0, .int 0, .int 0, .int 0, .int 0, .int 0, .int 0, .int 0, .int 0, .int 0, .int 0, .null, .int 0, .int 0, .int 0, .null, .null, .null, .int 0, .int 0, .int 0, .null, .int 0, .null, .int 0, .int 0, .null, .null, .null, .int 0, .int 0]))] sz) [bl_X12 cy u at0 ((fun _ => 0)) 0 0 1 ((fun _ => 0)) (upd (upd (upd (upd ((fun _ => 0)) 0 (-1)) 1 (-1)) 2 (-1)) 3 (-1)) ((fun _ => 0)) ((fun _ => 0)) ((fun _ => 0)) 0 0 0 0 0 0 (-1) (-1) 0 0 0 ((fun _ => 0)) 0 0 0 ((fun _ => 0)) ((fun _ => 0)) ((fun _ => 0)) 0 0 0 ((fun _ => 0)) 0 ((fun _ => 0)) 0 0 ((fun _ => 0)) ((fun _ => 0)) ((fun _ => 0)) 0 0] t.heap) (va_A [(h0, .inr (11, [.null, .null, .int 0, .long 0, .long 0, .null, .null, .null, .null, .null, .int 0, .int 0, .int 0, .int 0, .int 0, .int 0, .int 0, .int 0, .int 0, .int 0, .int 0, .null, .int 0, .int 0, .int 0, .null, .null, .null, .int 0, .int 0, .int 0, .null, .int 0, .null, .int 0, .int 0, .null, .null, .null, .int 0, .int 0]))] sz)) 16 5887 (va_A [(h0, .inr (11, [.null, .null, .int 0, .long 0, .long 0, .null, .null, .null, .null, .null, .int 0, .int 0, .int 0, .int 0, .int 0, .int 0, .int 0, .int 0, .int 0, .int 0, .int 0, .null, .int 0, .int 0, .int 0, .null, .null, .null, .int 0, .int 0, .int 0, .null, .int 0, .null, .int 0, .int 0, .null, .null, .null, .int 0, .int 0]))] sz) := by
  refine Met.ofW (cc := cX12_init) (maxL := 1) (ret := none) (by decide) rfl ?_
  intro p e s m args below meth c s₁ B hml hv
  obtain ⟨hargs, hP, hC, hsz⟩ := hv
  have hx := B.exec
  have hb := B.bytes
  have hr := B.returns
  have ht : ∀ w ∈ lw_gd, w.before args s = true := fun w hw => atoms_spec (ws := WW yX12_init cX12_init 1 none) B.pre w (List.mem_cons_of_mem _ hw)
  have hown : s.vm.findClass RX12 = some m.cls := findClass_of_methodNamed B.named
  have hlocks := B.notSynchronized
  have hin : meth.name = "<init>" := (name_of_methodNamed B.named B.method).1
  subst hsz
  have hP : PD D (va_A [(h0, .inr (11, [.null, .null, .int 0, .long 0, .long 0, .null, .null, .null, .null, .null, .int 0, .int 0, .int 0, .int 0, .int 0, .int 0, .int 0, .int 0, .int 0, .int 0, .int 0, .null, .int 0, .int 0, .int 0, .null, .null, .null, .int 0, .int 0, .int 0, .null, .int 0, .null, .int 0, .int 0, .null, .null, .null, .int 0, .int 0]))] s.heap.size) [[(h0, .inr (11, [.null, .null, .int 0, .long 0, .long 0, .null, .null, .null, .null, .null, .int 0, .int 0, .int 0, .int 0, .int 0, .int 0, .int 0, .int 0, .int 0, .int 0, .int 0, .null, .int 0, .int 0, .int 0, .null, .null, .null, .int 0, .int 0, .int 0, .null, .int 0, .null, .int 0, .int 0, .null, .null, .null, .int 0, .int 0]))]] s.heap := ⟨hP, D_one⟩
  generalize hAe : va_A [(h0, .inr (11, [.null, .null, .int 0, .long 0, .long 0, .null, .null, .null, .null, .null, .int 0, .int 0, .int 0, .int 0, .int 0, .int 0, .int 0, .int 0, .int 0, .int 0, .int 0, .null, .int 0, .int 0, .int 0, .null, .null, .null, .int 0, .int 0, .int 0, .null, .int 0, .null, .int 0, .int 0, .null, .null, .null, .int 0, .int 0]))] s.heap.size = A at hP hC ⊢
  have hA : ∀ q : Nat, s.heap.size ≤ q → A q := fun q h => by rw [← hAe]; exact Or.inr h
  have hX := hC.1
  have hE := hC.2.1
  have hS : va_S A s.heap s.heap [] := va_S.rf
  obtain ⟨ls, hl, hent⟩ := ent (m := m) (n := 1) hargs (Nat.le_of_ble_eq_true rfl) (lv := [(0, .ref h0)]) rfl
  rw [hent]
  clear hent
  refine lv_aload_n hx hb dX12_init_0 rfl (lv_at hl 0 rfl) ?_
  refine W.objInit hx hb hown (ht _ tb_1221) (ht _ tb_28) (ht _ tb_29) rfl (by rw [hml]; exact hl.1) rfl dX12_init_1 (Nat.le_of_ble_eq_true rfl) (Nat.le_of_ble_eq_true rfl) ?_
  refine W.eq (g2 := F0 m 4 ls []) rfl ?_
  refine lv_aload_n hx hb dX12_init_4 rfl (lv_at hl 0 rfl) ?_
  refine lv_sipush (v := 3648) hx hb dX12_init_5 (by decide) ?_
  refine xnewI (N := 3648) hx hb ht hX hP hS hA (by decide) (by decide) (by decide) (Nat.le_of_ble_eq_true rfl) (Nat.le_of_ble_eq_true rfl) tb_105 dX12_init_8 (fun q1 H hP hS => ?_)
  have hP : PD D A [[(h0, .inr (11, [.null, .null, .int 0, .long 0, .long 0, .null, .null, .null, .null, .null, .int 0, .int 0, .int 0, .int 0, .int 0, .int 0, .int 0, .int 0, .int 0, .int 0, .int 0, .null, .int 0, .int 0, .int 0, .null, .null, .null, .int 0, .int 0, .int 0, .null, .int 0, .null, .int 0, .int 0, .null, .null, .null, .int 0, .int 0]))], [(q1, .inl (cy 0, 3648, .inl ((fun _ => 0))))]] H := hP
  refine xputF (i := 0) (j := 0) (k := 0) (T := TX12) tyX12 tyX12_ok nmX12 hx hb ht tb_iX12 hown hX hP hS rfl rfl rfl (by decide) tb_1229 rfl hin rfl rfl rfl (Nat.le_of_ble_eq_true rfl) dX12_init_10 (fun H locs hP hS => ?_)
  have hP : PD D A [[(h0, .inr (11, [.ref q1, .null, .int 0, .long 0, .long 0, .null, .null, .null, .null, .null, .int 0, .int 0, .int 0, .int 0, .int 0, .int 0, .int 0, .int 0, .int 0, .int 0, .int 0, .null, .int 0, .int 0, .int 0, .null, .null, .null, .int 0, .int 0, .int 0, .null, .int 0, .null, .int 0, .int 0, .null, .null, .null, .int 0, .int 0]))], [(q1, .inl (cy 0, 3648, .inl ((fun _ => 0))))]] H := hP
  refine lv_aload_n hx hb dX12_init_13 rfl (lv_at hl 0 rfl) ?_
  refine lv_bipush (v := 48) hx hb dX12_init_14 (by decide) ?_
  refine xnewJ (N := 48) hx hb ht hX hP hS hA (by decide) (by decide) (by decide) (Nat.le_of_ble_eq_true rfl) (Nat.le_of_ble_eq_true rfl) tb_104 dX12_init_16 (fun q2 H hP hS => ?_)
  have hP : PD D A [[(h0, .inr (11, [.ref q1, .null, .int 0, .long 0, .long 0, .null, .null, .null, .null, .null, .int 0, .int 0, .int 0, .int 0, .int 0, .int 0, .int 0, .int 0, .int 0, .int 0, .int 0, .null, .int 0, .int 0, .int 0, .null, .null, .null, .int 0, .int 0, .int 0, .null, .int 0, .null, .int 0, .int 0, .null, .null, .null, .int 0, .int 0]))], [(q1, .inl (cy 0, 3648, .inl ((fun _ => 0))))], [(q2, .inl (cy 1, 48, .inr (.inl ((fun _ => 0)))))]] H := hP
  refine xputF (i := 0) (j := 0) (k := 1) (T := TX12) tyX12 tyX12_ok nmX12 hx hb ht tb_iX12 hown hX hP hS rfl rfl rfl (by decide) tb_1230 rfl hin rfl rfl rfl (Nat.le_of_ble_eq_true rfl) dX12_init_18 (fun H locs hP hS => ?_)
  have hP : PD D A [[(h0, .inr (11, [.ref q1, .ref q2, .int 0, .long 0, .long 0, .null, .null, .null, .null, .null, .int 0, .int 0, .int 0, .int 0, .int 0, .int 0, .int 0, .int 0, .int 0, .int 0, .int 0, .null, .int 0, .int 0, .int 0, .null, .null, .null, .int 0, .int 0, .int 0, .null, .int 0, .null, .int 0, .int 0, .null, .null, .null, .int 0, .int 0]))], [(q1, .inl (cy 0, 3648, .inl ((fun _ => 0))))], [(q2, .inl (cy 1, 48, .inr (.inl ((fun _ => 0)))))]] H := hP
  refine lv_aload_n hx hb dX12_init_21 rfl (lv_at hl 0 rfl) ?_
  refine lv_lconst (v := 1) hx hb dX12_init_22 (by decide) ?_
  refine xput (i := 0) (j := 0) (k := 4) (T := TX12) tyX12 tyX12_ok nmX12 hx hb ht tb_iX12 hown hX hP hS rfl rfl rfl (by decide) tb_1233 rfl rfl rfl (Nat.le_of_ble_eq_true rfl) dX12_init_23 (fun H locs hP hS => ?_)
  have hP : PD D A [[(h0, .inr (11, [.ref q1, .ref q2, .int 0, .long 0, .long 1, .null, .null, .null, .null, .null, .int 0, .int 0, .int 0, .int 0, .int 0, .int 0, .int 0, .int 0, .int 0, .int 0, .int 0, .null, .int 0, .int 0, .int 0, .null, .null, .null, .int 0, .int 0, .int 0, .null, .int 0, .null, .int 0, .int 0, .null, .null, .null, .int 0, .int 0]))], [(q1, .inl (cy 0, 3648, .inl ((fun _ => 0))))], [(q2, .inl (cy 1, 48, .inr (.inl ((fun _ => 0)))))]] H := hP
  refine lv_aload_n hx hb dX12_init_26 rfl (lv_at hl 0 rfl) ?_
  refine lv_iconst (v := 4) hx hb dX12_init_27 (by decide) ?_
  refine xnewI (N := 4) hx hb ht hX hP hS hA (by decide) (by decide) (by decide) (Nat.le_of_ble_eq_true rfl) (Nat.le_of_ble_eq_true rfl) tb_105 dX12_init_28 (fun q3 H hP hS => ?_)
  have hP : PD D A [[(h0, .inr (11, [.ref q1, .ref q2, .int 0, .long 0, .long 1, .null, .null, .null, .null, .null, .int 0, .int 0, .int 0, .int 0, .int 0, .int 0, .int 0, .int 0, .int 0, .int 0, .int 0, .null, .int 0, .int 0, .int 0, .null, .null, .null, .int 0, .int 0, .int 0, .null, .int 0, .null, .int 0, .int 0, .null, .null, .null, .int 0, .int 0]))], [(q1, .inl (cy 0, 3648, .inl ((fun _ => 0))))], [(q2, .inl (cy 1, 48, .inr (.inl ((fun _ => 0)))))], [(q3, .inl (cy 0, 4, .inl ((fun _ => 0))))]] H := hP
  refine xputF (i := 0) (j := 0) (k := 5) (T := TX12) tyX12 tyX12_ok nmX12 hx hb ht tb_iX12 hown hX hP hS rfl rfl rfl (by decide) tb_1234 rfl hin rfl rfl rfl (Nat.le_of_ble_eq_true rfl) dX12_init_30 (fun H locs hP hS => ?_)
  have hP : PD D A [[(h0, .inr (11, [.ref q1, .ref q2, .int 0, .long 0, .long 1, .ref q3, .null, .null, .null, .null, .int 0, .int 0, .int 0, .int 0, .int 0, .int 0, .int 0, .int 0, .int 0, .int 0, .int 0, .null, .int 0, .int 0, .int 0, .null, .null, .null, .int 0, .int 0, .int 0, .null, .int 0, .null, .int 0, .int 0, .null, .null, .null, .int 0, .int 0]))], [(q1, .inl (cy 0, 3648, .inl ((fun _ => 0))))], [(q2, .inl (cy 1, 48, .inr (.inl ((fun _ => 0)))))], [(q3, .inl (cy 0, 4, .inl ((fun _ => 0))))]] H := hP
  refine lv_aload_n hx hb dX12_init_33 rfl (lv_at hl 0 rfl) ?_
  refine lv_iconst (v := 4) hx hb dX12_init_34 (by decide) ?_
  refine xnewI (N := 4) hx hb ht hX hP hS hA (by decide) (by decide) (by decide) (Nat.le_of_ble_eq_true rfl) (Nat.le_of_ble_eq_true rfl) tb_105 dX12_init_35 (fun q4 H hP hS => ?_)
  have hP : PD D A [[(h0, .inr (11, [.ref q1, .ref q2, .int 0, .long 0, .long 1, .ref q3, .null, .null, .null, .null, .int 0, .int 0, .int 0, .int 0, .int 0, .int 0, .int 0, .int 0, .int 0, .int 0, .int 0, .null, .int 0, .int 0, .int 0, .null, .null, .null, .int 0, .int 0, .int 0, .null, .int 0, .null, .int 0, .int 0, .null, .null, .null, .int 0, .int 0]))], [(q1, .inl (cy 0, 3648, .inl ((fun _ => 0))))], [(q2, .inl (cy 1, 48, .inr (.inl ((fun _ => 0)))))], [(q3, .inl (cy 0, 4, .inl ((fun _ => 0))))], [(q4, .inl (cy 0, 4, .inl ((fun _ => 0))))]] H := hP
  refine lv_dup hx hb dX12_init_37 rfl ?_
  refine lv_iconst (v := 0) hx hb dX12_init_38 (by decide) ?_
  refine lv_iconst (v := (-1)) hx hb dX12_init_39 (by decide) ?_
  refine xiast (i0 := 4) (j0 := 0) (g := upd ((fun _ => 0)) 0 (-1)) hx hb hX hP hS rfl rfl rfl dX12_init_40 (fun H locs hP hS => ?_)
  have hP : PD D A [[(h0, .inr (11, [.ref q1, .ref q2, .int 0, .long 0, .long 1, .ref q3, .null, .null, .null, .null, .int 0, .int 0, .int 0, .int 0, .int 0, .int 0, .int 0, .int 0, .int 0, .int 0, .int 0, .null, .int 0, .int 0, .int 0, .null, .null, .null, .int 0, .int 0, .int 0, .null, .int 0, .null, .int 0, .int 0, .null, .null, .null, .int 0, .int 0]))], [(q1, .inl (cy 0, 3648, .inl ((fun _ => 0))))], [(q2, .inl (cy 1, 48, .inr (.inl ((fun _ => 0)))))], [(q3, .inl (cy 0, 4, .inl ((fun _ => 0))))], [(q4, .inl (cy 0, 4, .inl (upd ((fun _ => 0)) 0 (-1))))]] H := hP
  refine lv_dup hx hb dX12_init_41 rfl ?_
  refine lv_iconst (v := 1) hx hb dX12_init_42 (by decide) ?_
  refine lv_iconst (v := (-1)) hx hb dX12_init_43 (by decide) ?_
  refine xiast (i0 := 4) (j0 := 0) (g := upd (upd ((fun _ => 0)) 0 (-1)) 1 (-1)) hx hb hX hP hS rfl rfl rfl dX12_init_44 (fun H locs hP hS => ?_)
  have hP : PD D A [[(h0, .inr (11, [.ref q1, .ref q2, .int 0, .long 0, .long 1, .ref q3, .null, .null, .null, .null, .int 0, .int 0, .int 0, .int 0, .int 0, .int 0, .int 0, .int 0, .int 0, .int 0, .int 0, .null, .int 0, .int 0, .int 0, .null, .null, .null, .int 0, .int 0, .int 0, .null, .int 0, .null, .int 0, .int 0, .null, .null, .null, .int 0, .int 0]))], [(q1, .inl (cy 0, 3648, .inl ((fun _ => 0))))], [(q2, .inl (cy 1, 48, .inr (.inl ((fun _ => 0)))))], [(q3, .inl (cy 0, 4, .inl ((fun _ => 0))))], [(q4, .inl (cy 0, 4, .inl (upd (upd ((fun _ => 0)) 0 (-1)) 1 (-1))))]] H := hP
  refine lv_dup hx hb dX12_init_45 rfl ?_
  refine lv_iconst (v := 2) hx hb dX12_init_46 (by decide) ?_
  refine lv_iconst (v := (-1)) hx hb dX12_init_47 (by decide) ?_
  refine xiast (i0 := 4) (j0 := 0) (g := upd (upd (upd ((fun _ => 0)) 0 (-1)) 1 (-1)) 2 (-1)) hx hb hX hP hS rfl rfl rfl dX12_init_48 (fun H locs hP hS => ?_)
  have hP : PD D A [[(h0, .inr (11, [.ref q1, .ref q2, .int 0, .long 0, .long 1, .ref q3, .null, .null, .null, .null, .int 0, .int 0, .int 0, .int 0, .int 0, .int 0, .int 0, .int 0, .int 0, .int 0, .int 0, .null, .int 0, .int 0, .int 0, .null, .null, .null, .int 0, .int 0, .int 0, .null, .int 0, .null, .int 0, .int 0, .null, .null, .null, .int 0, .int 0]))], [(q1, .inl (cy 0, 3648, .inl ((fun _ => 0))))], [(q2, .inl (cy 1, 48, .inr (.inl ((fun _ => 0)))))], [(q3, .inl (cy 0, 4, .inl ((fun _ => 0))))], [(q4, .inl (cy 0, 4, .inl (upd (upd (upd ((fun _ => 0)) 0 (-1)) 1 (-1)) 2 (-1))))]] H := hP
  refine lv_dup hx hb dX12_init_49 rfl ?_
  refine lv_iconst (v := 3) hx hb dX12_init_50 (by decide) ?_
  refine lv_iconst (v := (-1)) hx hb dX12_init_51 (by decide) ?_
  refine xiast (i0 := 4) (j0 := 0) (g := upd (upd (upd (upd ((fun _ => 0)) 0 (-1)) 1 (-1)) 2 (-1)) 3 (-1)) hx hb hX hP hS rfl rfl rfl dX12_init_52 (fun H locs hP hS => ?_)
  have hP : PD D A [[(h0, .inr (11, [.ref q1, .ref q2, .int 0, .long 0, .long 1, .ref q3, .null, .null, .null, .null, .int 0, .int 0, .int 0, .int 0, .int 0, .int 0, .int 0, .int 0, .int 0, .int 0, .int 0, .null, .int 0, .int 0, .int 0, .null, .null, .null, .int 0, .int 0, .int 0, .null, .int 0, .null, .int 0, .int 0, .null, .null, .null, .int 0, .int 0]))], [(q1, .inl (cy 0, 3648, .inl ((fun _ => 0))))], [(q2, .inl (cy 1, 48, .inr (.inl ((fun _ => 0)))))], [(q3, .inl (cy 0, 4, .inl ((fun _ => 0))))], [(q4, .inl (cy 0, 4, .inl (upd (upd (upd (upd ((fun _ => 0)) 0 (-1)) 1 (-1)) 2 (-1)) 3 (-1))))]] H := hP
  refine xputF (i := 0) (j := 0) (k := 6) (T := TX12) tyX12 tyX12_ok nmX12 hx hb ht tb_iX12 hown hX hP hS rfl rfl rfl (by decide) tb_1235 rfl hin rfl rfl rfl (Nat.le_of_ble_eq_true rfl) dX12_init_53 (fun H locs hP hS => ?_)
  have hP : PD D A [[(h0, .inr (11, [.ref q1, .ref q2, .int 0, .long 0, .long 1, .ref q3, .ref q4, .null, .null, .null, .int 0, .int 0, .int 0, .int 0, .int 0, .int 0, .int 0, .int 0, .int 0, .int 0, .int 0, .null, .int 0, .int 0, .int 0, .null, .null, .null, .int 0, .int 0, .int 0, .null, .int 0, .null, .int 0, .int 0, .null, .null, .null, .int 0, .int 0]))], [(q1, .inl (cy 0, 3648, .inl ((fun _ => 0))))], [(q2, .inl (cy 1, 48, .inr (.inl ((fun _ => 0)))))], [(q3, .inl (cy 0, 4, .inl ((fun _ => 0))))], [(q4, .inl (cy 0, 4, .inl (upd (upd (upd (upd ((fun _ => 0)) 0 (-1)) 1 (-1)) 2 (-1)) 3 (-1))))]] H := hP
  refine lv_aload_n hx hb dX12_init_56 rfl (lv_at hl 0 rfl) ?_
  refine lv_sipush (v := 240) hx hb dX12_init_57 (by decide) ?_
  refine xnewJ (N := 240) hx hb ht hX hP hS hA (by decide) (by decide) (by decide) (Nat.le_of_ble_eq_true rfl) (Nat.le_of_ble_eq_true rfl) tb_104 dX12_init_60 (fun q5 H hP hS => ?_)
  have hP : PD D A [[(h0, .inr (11, [.ref q1, .ref q2, .int 0, .long 0, .long 1, .ref q3, .ref q4, .null, .null, .null, .int 0, .int 0, .int 0, .int 0, .int 0, .int 0, .int 0, .int 0, .int 0, .int 0, .int 0, .null, .int 0, .int 0, .int 0, .null, .null, .null, .int 0, .int 0, .int 0, .null, .int 0, .null, .int 0, .int 0, .null, .null, .null, .int 0, .int 0]))], [(q1, .inl (cy 0, 3648, .inl ((fun _ => 0))))], [(q2, .inl (cy 1, 48, .inr (.inl ((fun _ => 0)))))], [(q3, .inl (cy 0, 4, .inl ((fun _ => 0))))], [(q4, .inl (cy 0, 4, .inl (upd (upd (upd (upd ((fun _ => 0)) 0 (-1)) 1 (-1)) 2 (-1)) 3 (-1))))], [(q5, .inl (cy 1, 240, .inr (.inl ((fun _ => 0)))))]] H := hP
  refine xputF (i := 0) (j := 0) (k := 7) (T := TX12) tyX12 tyX12_ok nmX12 hx hb ht tb_iX12 hown hX hP hS rfl rfl rfl (by decide) tb_1236 rfl hin rfl rfl rfl (Nat.le_of_ble_eq_true rfl) dX12_init_62 (fun H locs hP hS => ?_)
  have hP : PD D A [[(h0, .inr (11, [.ref q1, .ref q2, .int 0, .long 0, .long 1, .ref q3, .ref q4, .ref q5, .null, .null, .int 0, .int 0, .int 0, .int 0, .int 0, .int 0, .int 0, .int 0, .int 0, .int 0, .int 0, .null, .int 0, .int 0, .int 0, .null, .null, .null, .int 0, .int 0, .int 0, .null, .int 0, .null, .int 0, .int 0, .null, .null, .null, .int 0, .int 0]))], [(q1, .inl (cy 0, 3648, .inl ((fun _ => 0))))], [(q2, .inl (cy 1, 48, .inr (.inl ((fun _ => 0)))))], [(q3, .inl (cy 0, 4, .inl ((fun _ => 0))))], [(q4, .inl (cy 0, 4, .inl (upd (upd (upd (upd ((fun _ => 0)) 0 (-1)) 1 (-1)) 2 (-1)) 3 (-1))))], [(q5, .inl (cy 1, 240, .inr (.inl ((fun _ => 0)))))]] H := hP
  refine lv_aload_n hx hb dX12_init_65 rfl (lv_at hl 0 rfl) ?_
  refine lv_sipush (v := 900) hx hb dX12_init_66 (by decide) ?_
  refine xnewB (N := 900) hx hb ht hX hP hS hA (by decide) (by decide) (by decide) (Nat.le_of_ble_eq_true rfl) (Nat.le_of_ble_eq_true rfl) tb_259 dX12_init_69 (fun q6 H hP hS => ?_)
  have hP : PD D A [[(h0, .inr (11, [.ref q1, .ref q2, .int 0, .long 0, .long 1, .ref q3, .ref q4, .ref q5, .null, .null, .int 0, .int 0, .int 0, .int 0, .int 0, .int 0, .int 0, .int 0, .int 0, .int 0, .int 0, .null, .int 0, .int 0, .int 0, .null, .null, .null, .int 0, .int 0, .int 0, .null, .int 0, .null, .int 0, .int 0, .null, .null, .null, .int 0, .int 0]))], [(q1, .inl (cy 0, 3648, .inl ((fun _ => 0))))], [(q2, .inl (cy 1, 48, .inr (.inl ((fun _ => 0)))))], [(q3, .inl (cy 0, 4, .inl ((fun _ => 0))))], [(q4, .inl (cy 0, 4, .inl (upd (upd (upd (upd ((fun _ => 0)) 0 (-1)) 1 (-1)) 2 (-1)) 3 (-1))))], [(q5, .inl (cy 1, 240, .inr (.inl ((fun _ => 0)))))], [(q6, .inl (cy 2, 900, .inl ((fun _ => 0))))]] H := hP
  refine xputF (i := 0) (j := 0) (k := 8) (T := TX12) tyX12 tyX12_ok nmX12 hx hb ht tb_iX12 hown hX hP hS rfl rfl rfl (by decide) tb_1237 rfl hin rfl rfl rfl (Nat.le_of_ble_eq_true rfl) dX12_init_71 (fun H locs hP hS => ?_)
  have hP : PD D A [[(h0, .inr (11, [.ref q1, .ref q2, .int 0, .long 0, .long 1, .ref q3, .ref q4, .ref q5, .ref q6, .null, .int 0, .int 0, .int 0, .int 0, .int 0, .int 0, .int 0, .int 0, .int 0, .int 0, .int 0, .null, .int 0, .int 0, .int 0, .null, .null, .null, .int 0, .int 0, .int 0, .null, .int 0, .null, .int 0, .int 0, .null, .null, .null, .int 0, .int 0]))], [(q1, .inl (cy 0, 3648, .inl ((fun _ => 0))))], [(q2, .inl (cy 1, 48, .inr (.inl ((fun _ => 0)))))], [(q3, .inl (cy 0, 4, .inl ((fun _ => 0))))], [(q4, .inl (cy 0, 4, .inl (upd (upd (upd (upd ((fun _ => 0)) 0 (-1)) 1 (-1)) 2 (-1)) 3 (-1))))], [(q5, .inl (cy 1, 240, .inr (.inl ((fun _ => 0)))))], [(q6, .inl (cy 2, 900, .inl ((fun _ => 0))))]] H := hP
  refine lv_aload_n hx hb dX12_init_74 rfl (lv_at hl 0 rfl) ?_
  refine lv_sipush (v := 900) hx hb dX12_init_75 (by decide) ?_
  refine xnewB (N := 900) hx hb ht hX hP hS hA (by decide) (by decide) (by decide) (Nat.le_of_ble_eq_true rfl) (Nat.le_of_ble_eq_true rfl) tb_259 dX12_init_78 (fun q7 H hP hS => ?_)
  have hP : PD D A [[(h0, .inr (11, [.ref q1, .ref q2, .int 0, .long 0, .long 1, .ref q3, .ref q4, .ref q5, .ref q6, .null, .int 0, .int 0, .int 0, .int 0, .int 0, .int 0, .int 0, .int 0, .int 0, .int 0, .int 0, .null, .int 0, .int 0, .int 0, .null, .null, .null, .int 0, .int 0, .int 0, .null, .int 0, .null, .int 0, .int 0, .null, .null, .null, .int 0, .int 0]))], [(q1, .inl (cy 0, 3648, .inl ((fun _ => 0))))], [(q2, .inl (cy 1, 48, .inr (.inl ((fun _ => 0)))))], [(q3, .inl (cy 0, 4, .inl ((fun _ => 0))))], [(q4, .inl (cy 0, 4, .inl (upd (upd (upd (upd ((fun _ => 0)) 0 (-1)) 1 (-1)) 2 (-1)) 3 (-1))))], [(q5, .inl (cy 1, 240, .inr (.inl ((fun _ => 0)))))], [(q6, .inl (cy 2, 900, .inl ((fun _ => 0))))], [(q7, .inl (cy 2, 900, .inl ((fun _ => 0))))]] H := hP
  refine xputF (i := 0) (j := 0) (k := 9) (T := TX12) tyX12 tyX12_ok nmX12 hx hb ht tb_iX12 hown hX hP hS rfl rfl rfl (by decide) tb_1238 rfl hin rfl rfl rfl (Nat.le_of_ble_eq_true rfl) dX12_init_80 (fun H locs hP hS => ?_)
  have hP : PD D A [[(h0, .inr (11, [.ref q1, .ref q2, .int 0, .long 0, .long 1, .ref q3, .ref q4, .ref q5, .ref q6, .ref q7, .int 0, .int 0, .int 0, .int 0, .int 0, .int 0, .int 0, .int 0, .int 0, .int 0, .int 0, .null, .int 0, .int 0, .int 0, .null, .null, .null, .int 0, .int 0, .int 0, .null, .int 0, .null, .int 0, .int 0, .null, .null, .null, .int 0, .int 0]))], [(q1, .inl (cy 0, 3648, .inl ((fun _ => 0))))], [(q2, .inl (cy 1, 48, .inr (.inl ((fun _ => 0)))))], [(q3, .inl (cy 0, 4, .inl ((fun _ => 0))))], [(q4, .inl (cy 0, 4, .inl (upd (upd (upd (upd ((fun _ => 0)) 0 (-1)) 1 (-1)) 2 (-1)) 3 (-1))))], [(q5, .inl (cy 1, 240, .inr (.inl ((fun _ => 0)))))], [(q6, .inl (cy 2, 900, .inl ((fun _ => 0))))], [(q7, .inl (cy 2, 900, .inl ((fun _ => 0))))]] H := hP
  refine lv_aload_n hx hb dX12_init_83 rfl (lv_at hl 0 rfl) ?_
  refine lv_iconst (v := (-1)) hx hb dX12_init_84 (by decide) ?_
  refine xput (i := 0) (j := 0) (k := 16) (T := TX12) tyX12 tyX12_ok nmX12 hx hb ht tb_iX12 hown hX hP hS rfl rfl rfl (by decide) tb_1245 rfl rfl rfl (Nat.le_of_ble_eq_true rfl) dX12_init_85 (fun H locs hP hS => ?_)
  have hP : PD D A [[(h0, .inr (11, [.ref q1, .ref q2, .int 0, .long 0, .long 1, .ref q3, .ref q4, .ref q5, .ref q6, .ref q7, .int 0, .int 0, .int 0, .int 0, .int 0, .int 0, .int (-1), .int 0, .int 0, .int 0, .int 0, .null, .int 0, .int 0, .int 0, .null, .null, .null, .int 0, .int 0, .int 0, .null, .int 0, .null, .int 0, .int 0, .null, .null, .null, .int 0, .int 0]))], [(q1, .inl (cy 0, 3648, .inl ((fun _ => 0))))], [(q2, .inl (cy 1, 48, .inr (.inl ((fun _ => 0)))))], [(q3, .inl (cy 0, 4, .inl ((fun _ => 0))))], [(q4, .inl (cy 0, 4, .inl (upd (upd (upd (upd ((fun _ => 0)) 0 (-1)) 1 (-1)) 2 (-1)) 3 (-1))))], [(q5, .inl (cy 1, 240, .inr (.inl ((fun _ => 0)))))], [(q6, .inl (cy 2, 900, .inl ((fun _ => 0))))], [(q7, .inl (cy 2, 900, .inl ((fun _ => 0))))]] H := hP
  refine lv_aload_n hx hb dX12_init_88 rfl (lv_at hl 0 rfl) ?_
  refine lv_iconst (v := (-1)) hx hb dX12_init_89 (by decide) ?_
  refine xput (i := 0) (j := 0) (k := 17) (T := TX12) tyX12 tyX12_ok nmX12 hx hb ht tb_iX12 hown hX hP hS rfl rfl rfl (by decide) tb_1246 rfl rfl rfl (Nat.le_of_ble_eq_true rfl) dX12_init_90 (fun H locs hP hS => ?_)
  have hP : PD D A [[(h0, .inr (11, [.ref q1, .ref q2, .int 0, .long 0, .long 1, .ref q3, .ref q4, .ref q5, .ref q6, .ref q7, .int 0, .int 0, .int 0, .int 0, .int 0, .int 0, .int (-1), .int (-1), .int 0, .int 0, .int 0, .null, .int 0, .int 0, .int 0, .null, .null, .null, .int 0, .int 0, .int 0, .null, .int 0, .null, .int 0, .int 0, .null, .null, .null, .int 0, .int 0]))], [(q1, .inl (cy 0, 3648, .inl ((fun _ => 0))))], [(q2, .inl (cy 1, 48, .inr (.inl ((fun _ => 0)))))], [(q3, .inl (cy 0, 4, .inl ((fun _ => 0))))], [(q4, .inl (cy 0, 4, .inl (upd (upd (upd (upd ((fun _ => 0)) 0 (-1)) 1 (-1)) 2 (-1)) 3 (-1))))], [(q5, .inl (cy 1, 240, .inr (.inl ((fun _ => 0)))))], [(q6, .inl (cy 2, 900, .inl ((fun _ => 0))))], [(q7, .inl (cy 2, 900, .inl ((fun _ => 0))))]] H := hP
  refine lv_aload_n hx hb dX12_init_93 rfl (lv_at hl 0 rfl) ?_
  refine lv_iconst (v := 3) hx hb dX12_init_94 (by decide) ?_
  refine xnewI (N := 3) hx hb ht hX hP hS hA (by decide) (by decide) (by decide) (Nat.le_of_ble_eq_true rfl) (Nat.le_of_ble_eq_true rfl) tb_105 dX12_init_95 (fun q8 H hP hS => ?_)
  have hP : PD D A [[(h0, .inr (11, [.ref q1, .ref q2, .int 0, .long 0, .long 1, .ref q3, .ref q4, .ref q5, .ref q6, .ref q7, .int 0, .int 0, .int 0, .int 0, .int 0, .int 0, .int (-1), .int (-1), .int 0, .int 0, .int 0, .null, .int 0, .int 0, .int 0, .null, .null, .null, .int 0, .int 0, .int 0, .null, .int 0, .null, .int 0, .int 0, .null, .null, .null, .int 0, .int 0]))], [(q1, .inl (cy 0, 3648, .inl ((fun _ => 0))))], [(q2, .inl (cy 1, 48, .inr (.inl ((fun _ => 0)))))], [(q3, .inl (cy 0, 4, .inl ((fun _ => 0))))], [(q4, .inl (cy 0, 4, .inl (upd (upd (upd (upd ((fun _ => 0)) 0 (-1)) 1 (-1)) 2 (-1)) 3 (-1))))], [(q5, .inl (cy 1, 240, .inr (.inl ((fun _ => 0)))))], [(q6, .inl (cy 2, 900, .inl ((fun _ => 0))))], [(q7, .inl (cy 2, 900, .inl ((fun _ => 0))))], [(q8, .inl (cy 0, 3, .inl ((fun _ => 0))))]] H := hP
  refine xputF (i := 0) (j := 0) (k := 21) (T := TX12) tyX12 tyX12_ok nmX12 hx hb ht tb_iX12 hown hX hP hS rfl rfl rfl (by decide) tb_1250 rfl hin rfl rfl rfl (Nat.le_of_ble_eq_true rfl) dX12_init_97 (fun H locs hP hS => ?_)
  have hP : PD D A [[(h0, .inr (11, [.ref q1, .ref q2, .int 0, .long 0, .long 1, .ref q3, .ref q4, .ref q5, .ref q6, .ref q7, .int 0, .int 0, .int 0, .int 0, .int 0, .int 0, .int (-1), .int (-1), .int 0, .int 0, .int 0, .ref q8, .int 0, .int 0, .int 0, .null, .null, .null, .int 0, .int 0, .int 0, .null, .int 0, .null, .int 0, .int 0, .null, .null, .null, .int 0, .int 0]))], [(q1, .inl (cy 0, 3648, .inl ((fun _ => 0))))], [(q2, .inl (cy 1, 48, .inr (.inl ((fun _ => 0)))))], [(q3, .inl (cy 0, 4, .inl ((fun _ => 0))))], [(q4, .inl (cy 0, 4, .inl (upd (upd (upd (upd ((fun _ => 0)) 0 (-1)) 1 (-1)) 2 (-1)) 3 (-1))))], [(q5, .inl (cy 1, 240, .inr (.inl ((fun _ => 0)))))], [(q6, .inl (cy 2, 900, .inl ((fun _ => 0))))], [(q7, .inl (cy 2, 900, .inl ((fun _ => 0))))], [(q8, .inl (cy 0, 3, .inl ((fun _ => 0))))]] H := hP
  refine lv_aload_n hx hb dX12_init_100 rfl (lv_at hl 0 rfl) ?_
  refine lv_bipush (v := 8) hx hb dX12_init_101 (by decide) ?_
  refine xnewI (N := 8) hx hb ht hX hP hS hA (by decide) (by decide) (by decide) (Nat.le_of_ble_eq_true rfl) (Nat.le_of_ble_eq_true rfl) tb_105 dX12_init_103 (fun q9 H hP hS => ?_)
  have hP : PD D A [[(h0, .inr (11, [.ref q1, .ref q2, .int 0, .long 0, .long 1, .ref q3, .ref q4, .ref q5, .ref q6, .ref q7, .int 0, .int 0, .int 0, .int 0, .int 0, .int 0, .int (-1), .int (-1), .int 0, .int 0, .int 0, .ref q8, .int 0, .int 0, .int 0, .null, .null, .null, .int 0, .int 0, .int 0, .null, .int 0, .null, .int 0, .int 0, .null, .null, .null, .int 0, .int 0]))], [(q1, .inl (cy 0, 3648, .inl ((fun _ => 0))))], [(q2, .inl (cy 1, 48, .inr (.inl ((fun _ => 0)))))], [(q3, .inl (cy 0, 4, .inl ((fun _ => 0))))], [(q4, .inl (cy 0, 4, .inl (upd (upd (upd (upd ((fun _ => 0)) 0 (-1)) 1 (-1)) 2 (-1)) 3 (-1))))], [(q5, .inl (cy 1, 240, .inr (.inl ((fun _ => 0)))))], [(q6, .inl (cy 2, 900, .inl ((fun _ => 0))))], [(q7, .inl (cy 2, 900, .inl ((fun _ => 0))))], [(q8, .inl (cy 0, 3, .inl ((fun _ => 0))))], [(q9, .inl (cy 0, 8, .inl ((fun _ => 0))))]] H := hP
  refine xputF (i := 0) (j := 0) (k := 25) (T := TX12) tyX12 tyX12_ok nmX12 hx hb ht tb_iX12 hown hX hP hS rfl rfl rfl (by decide) tb_1254 rfl hin rfl rfl rfl (Nat.le_of_ble_eq_true rfl) dX12_init_105 (fun H locs hP hS => ?_)
  have hP : PD D A [[(h0, .inr (11, [.ref q1, .ref q2, .int 0, .long 0, .long 1, .ref q3, .ref q4, .ref q5, .ref q6, .ref q7, .int 0, .int 0, .int 0, .int 0, .int 0, .int 0, .int (-1), .int (-1), .int 0, .int 0, .int 0, .ref q8, .int 0, .int 0, .int 0, .ref q9, .null, .null, .int 0, .int 0, .int 0, .null, .int 0, .null, .int 0, .int 0, .null, .null, .null, .int 0, .int 0]))], [(q1, .inl (cy 0, 3648, .inl ((fun _ => 0))))], [(q2, .inl (cy 1, 48, .inr (.inl ((fun _ => 0)))))], [(q3, .inl (cy 0, 4, .inl ((fun _ => 0))))], [(q4, .inl (cy 0, 4, .inl (upd (upd (upd (upd ((fun _ => 0)) 0 (-1)) 1 (-1)) 2 (-1)) 3 (-1))))], [(q5, .inl (cy 1, 240, .inr (.inl ((fun _ => 0)))))], [(q6, .inl (cy 2, 900, .inl ((fun _ => 0))))], [(q7, .inl (cy 2, 900, .inl ((fun _ => 0))))], [(q8, .inl (cy 0, 3, .inl ((fun _ => 0))))], [(q9, .inl (cy 0, 8, .inl ((fun _ => 0))))]] H := hP
  refine lv_aload_n hx hb dX12_init_108 rfl (lv_at hl 0 rfl) ?_
  refine lv_bipush (v := 8) hx hb dX12_init_109 (by decide) ?_
  refine xnewI (N := 8) hx hb ht hX hP hS hA (by decide) (by decide) (by decide) (Nat.le_of_ble_eq_true rfl) (Nat.le_of_ble_eq_true rfl) tb_105 dX12_init_111 (fun q10 H hP hS => ?_)
  have hP : PD D A [[(h0, .inr (11, [.ref q1, .ref q2, .int 0, .long 0, .long 1, .ref q3, .ref q4, .ref q5, .ref q6, .ref q7, .int 0, .int 0, .int 0, .int 0, .int 0, .int 0, .int (-1), .int (-1), .int 0, .int 0, .int 0, .ref q8, .int 0, .int 0, .int 0, .ref q9, .null, .null, .int 0, .int 0, .int 0, .null, .int 0, .null, .int 0, .int 0, .null, .null, .null, .int 0, .int 0]))], [(q1, .inl (cy 0, 3648, .inl ((fun _ => 0))))], [(q2, .inl (cy 1, 48, .inr (.inl ((fun _ => 0)))))], [(q3, .inl (cy 0, 4, .inl ((fun _ => 0))))], [(q4, .inl (cy 0, 4, .inl (upd (upd (upd (upd ((fun _ => 0)) 0 (-1)) 1 (-1)) 2 (-1)) 3 (-1))))], [(q5, .inl (cy 1, 240, .inr (.inl ((fun _ => 0)))))], [(q6, .inl (cy 2, 900, .inl ((fun _ => 0))))], [(q7, .inl (cy 2, 900, .inl ((fun _ => 0))))], [(q8, .inl (cy 0, 3, .inl ((fun _ => 0))))], [(q9, .inl (cy 0, 8, .inl ((fun _ => 0))))], [(q10, .inl (cy 0, 8, .inl ((fun _ => 0))))]] H := hP
  refine xputF (i := 0) (j := 0) (k := 26) (T := TX12) tyX12 tyX12_ok nmX12 hx hb ht tb_iX12 hown hX hP hS rfl rfl rfl (by decide) tb_1255 rfl hin rfl rfl rfl (Nat.le_of_ble_eq_true rfl) dX12_init_113 (fun H locs hP hS => ?_)
  have hP : PD D A [[(h0, .inr (11, [.ref q1, .ref q2, .int 0, .long 0, .long 1, .ref q3, .ref q4, .ref q5, .ref q6, .ref q7, .int 0, .int 0, .int 0, .int 0, .int 0, .int 0, .int (-1), .int (-1), .int 0, .int 0, .int 0, .ref q8, .int 0, .int 0, .int 0, .ref q9, .ref q10, .null, .int 0, .int 0, .int 0, .null, .int 0, .null, .int 0, .int 0, .null, .null, .null, .int 0, .int 0]))], [(q1, .inl (cy 0, 3648, .inl ((fun _ => 0))))], [(q2, .inl (cy 1, 48, .inr (.inl ((fun _ => 0)))))], [(q3, .inl (cy 0, 4, .inl ((fun _ => 0))))], [(q4, .inl (cy 0, 4, .inl (upd (upd (upd (upd ((fun _ => 0)) 0 (-1)) 1 (-1)) 2 (-1)) 3 (-1))))], [(q5, .inl (cy 1, 240, .inr (.inl ((fun _ => 0)))))], [(q6, .inl (cy 2, 900, .inl ((fun _ => 0))))], [(q7, .inl (cy 2, 900, .inl ((fun _ => 0))))], [(q8, .inl (cy 0, 3, .inl ((fun _ => 0))))], [(q9, .inl (cy 0, 8, .inl ((fun _ => 0))))], [(q10, .inl (cy 0, 8, .inl ((fun _ => 0))))]] H := hP
  refine lv_aload_n hx hb dX12_init_116 rfl (lv_at hl 0 rfl) ?_
  refine lv_bipush (v := 8) hx hb dX12_init_117 (by decide) ?_
  refine xnewI (N := 8) hx hb ht hX hP hS hA (by decide) (by decide) (by decide) (Nat.le_of_ble_eq_true rfl) (Nat.le_of_ble_eq_true rfl) tb_105 dX12_init_119 (fun q11 H hP hS => ?_)
  have hP : PD D A [[(h0, .inr (11, [.ref q1, .ref q2, .int 0, .long 0, .long 1, .ref q3, .ref q4, .ref q5, .ref q6, .ref q7, .int 0, .int 0, .int 0, .int 0, .int 0, .int 0, .int (-1), .int (-1), .int 0, .int 0, .int 0, .ref q8, .int 0, .int 0, .int 0, .ref q9, .ref q10, .null, .int 0, .int 0, .int 0, .null, .int 0, .null, .int 0, .int 0, .null, .null, .null, .int 0, .int 0]))], [(q1, .inl (cy 0, 3648, .inl ((fun _ => 0))))], [(q2, .inl (cy 1, 48, .inr (.inl ((fun _ => 0)))))], [(q3, .inl (cy 0, 4, .inl ((fun _ => 0))))], [(q4, .inl (cy 0, 4, .inl (upd (upd (upd (upd ((fun _ => 0)) 0 (-1)) 1 (-1)) 2 (-1)) 3 (-1))))], [(q5, .inl (cy 1, 240, .inr (.inl ((fun _ => 0)))))], [(q6, .inl (cy 2, 900, .inl ((fun _ => 0))))], [(q7, .inl (cy 2, 900, .inl ((fun _ => 0))))], [(q8, .inl (cy 0, 3, .inl ((fun _ => 0))))], [(q9, .inl (cy 0, 8, .inl ((fun _ => 0))))], [(q10, .inl (cy 0, 8, .inl ((fun _ => 0))))], [(q11, .inl (cy 0, 8, .inl ((fun _ => 0))))]] H := hP
  refine xputF (i := 0) (j := 0) (k := 27) (T := TX12) tyX12 tyX12_ok nmX12 hx hb ht tb_iX12 hown hX hP hS rfl rfl rfl (by decide) tb_1256 rfl hin rfl rfl rfl (Nat.le_of_ble_eq_true rfl) dX12_init_121 (fun H locs hP hS => ?_)
  have hP : PD D A [[(h0, .inr (11, [.ref q1, .ref q2, .int 0, .long 0, .long 1, .ref q3, .ref q4, .ref q5, .ref q6, .ref q7, .int 0, .int 0, .int 0, .int 0, .int 0, .int 0, .int (-1), .int (-1), .int 0, .int 0, .int 0, .ref q8, .int 0, .int 0, .int 0, .ref q9, .ref q10, .ref q11, .int 0, .int 0, .int 0, .null, .int 0, .null, .int 0, .int 0, .null, .null, .null, .int 0, .int 0]))], [(q1, .inl (cy 0, 3648, .inl ((fun _ => 0))))], [(q2, .inl (cy 1, 48, .inr (.inl ((fun _ => 0)))))], [(q3, .inl (cy 0, 4, .inl ((fun _ => 0))))], [(q4, .inl (cy 0, 4, .inl (upd (upd (upd (upd ((fun _ => 0)) 0 (-1)) 1 (-1)) 2 (-1)) 3 (-1))))], [(q5, .inl (cy 1, 240, .inr (.inl ((fun _ => 0)))))], [(q6, .inl (cy 2, 900, .inl ((fun _ => 0))))], [(q7, .inl (cy 2, 900, .inl ((fun _ => 0))))], [(q8, .inl (cy 0, 3, .inl ((fun _ => 0))))], [(q9, .inl (cy 0, 8, .inl ((fun _ => 0))))], [(q10, .inl (cy 0, 8, .inl ((fun _ => 0))))], [(q11, .inl (cy 0, 8, .inl ((fun _ => 0))))]] H := hP
  refine lv_aload_n hx hb dX12_init_124 rfl (lv_at hl 0 rfl) ?_
  refine lv_bipush (v := 16) hx hb dX12_init_125 (by decide) ?_
  refine xnewI (N := 16) hx hb ht hX hP hS hA (by decide) (by decide) (by decide) (Nat.le_of_ble_eq_true rfl) (Nat.le_of_ble_eq_true rfl) tb_105 dX12_init_127 (fun q12 H hP hS => ?_)
  have hP : PD D A [[(h0, .inr (11, [.ref q1, .ref q2, .int 0, .long 0, .long 1, .ref q3, .ref q4, .ref q5, .ref q6, .ref q7, .int 0, .int 0, .int 0, .int 0, .int 0, .int 0, .int (-1), .int (-1), .int 0, .int 0, .int 0, .ref q8, .int 0, .int 0, .int 0, .ref q9, .ref q10, .ref q11, .int 0, .int 0, .int 0, .null, .int 0, .null, .int 0, .int 0, .null, .null, .null, .int 0, .int 0]))], [(q1, .inl (cy 0, 3648, .inl ((fun _ => 0))))], [(q2, .inl (cy 1, 48, .inr (.inl ((fun _ => 0)))))], [(q3, .inl (cy 0, 4, .inl ((fun _ => 0))))], [(q4, .inl (cy 0, 4, .inl (upd (upd (upd (upd ((fun _ => 0)) 0 (-1)) 1 (-1)) 2 (-1)) 3 (-1))))], [(q5, .inl (cy 1, 240, .inr (.inl ((fun _ => 0)))))], [(q6, .inl (cy 2, 900, .inl ((fun _ => 0))))], [(q7, .inl (cy 2, 900, .inl ((fun _ => 0))))], [(q8, .inl (cy 0, 3, .inl ((fun _ => 0))))], [(q9, .inl (cy 0, 8, .inl ((fun _ => 0))))], [(q10, .inl (cy 0, 8, .inl ((fun _ => 0))))], [(q11, .inl (cy 0, 8, .inl ((fun _ => 0))))], [(q12, .inl (cy 0, 16, .inl ((fun _ => 0))))]] H := hP
  refine xputF (i := 0) (j := 0) (k := 31) (T := TX12) tyX12 tyX12_ok nmX12 hx hb ht tb_iX12 hown hX hP hS rfl rfl rfl (by decide) tb_1260 rfl hin rfl rfl rfl (Nat.le_of_ble_eq_true rfl) dX12_init_129 (fun H locs hP hS => ?_)
  have hP : PD D A [[(h0, .inr (11, [.ref q1, .ref q2, .int 0, .long 0, .long 1, .ref q3, .ref q4, .ref q5, .ref q6, .ref q7, .int 0, .int 0, .int 0, .int 0, .int 0, .int 0, .int (-1), .int (-1), .int 0, .int 0, .int 0, .ref q8, .int 0, .int 0, .int 0, .ref q9, .ref q10, .ref q11, .int 0, .int 0, .int 0, .ref q12, .int 0, .null, .int 0, .int 0, .null, .null, .null, .int 0, .int 0]))], [(q1, .inl (cy 0, 3648, .inl ((fun _ => 0))))], [(q2, .inl (cy 1, 48, .inr (.inl ((fun _ => 0)))))], [(q3, .inl (cy 0, 4, .inl ((fun _ => 0))))], [(q4, .inl (cy 0, 4, .inl (upd (upd (upd (upd ((fun _ => 0)) 0 (-1)) 1 (-1)) 2 (-1)) 3 (-1))))], [(q5, .inl (cy 1, 240, .inr (.inl ((fun _ => 0)))))], [(q6, .inl (cy 2, 900, .inl ((fun _ => 0))))], [(q7, .inl (cy 2, 900, .inl ((fun _ => 0))))], [(q8, .inl (cy 0, 3, .inl ((fun _ => 0))))], [(q9, .inl (cy 0, 8, .inl ((fun _ => 0))))], [(q10, .inl (cy 0, 8, .inl ((fun _ => 0))))], [(q11, .inl (cy 0, 8, .inl ((fun _ => 0))))], [(q12, .inl (cy 0, 16, .inl ((fun _ => 0))))]] H := hP
  refine lv_aload_n hx hb dX12_init_132 rfl (lv_at hl 0 rfl) ?_
  refine lv_bipush (v := 10) hx hb dX12_init_133 (by decide) ?_
  refine xnewJ (N := 10) hx hb ht hX hP hS hA (by decide) (by decide) (by decide) (Nat.le_of_ble_eq_true rfl) (Nat.le_of_ble_eq_true rfl) tb_104 dX12_init_135 (fun q13 H hP hS => ?_)
  have hP : PD D A [[(h0, .inr (11, [.ref q1, .ref q2, .int 0, .long 0, .long 1, .ref q3, .ref q4, .ref q5, .ref q6, .ref q7, .int 0, .int 0, .int 0, .int 0, .int 0, .int 0, .int (-1), .int (-1), .int 0, .int 0, .int 0, .ref q8, .int 0, .int 0, .int 0, .ref q9, .ref q10, .ref q11, .int 0, .int 0, .int 0, .ref q12, .int 0, .null, .int 0, .int 0, .null, .null, .null, .int 0, .int 0]))], [(q1, .inl (cy 0, 3648, .inl ((fun _ => 0))))], [(q2, .inl (cy 1, 48, .inr (.inl ((fun _ => 0)))))], [(q3, .inl (cy 0, 4, .inl ((fun _ => 0))))], [(q4, .inl (cy 0, 4, .inl (upd (upd (upd (upd ((fun _ => 0)) 0 (-1)) 1 (-1)) 2 (-1)) 3 (-1))))], [(q5, .inl (cy 1, 240, .inr (.inl ((fun _ => 0)))))], [(q6, .inl (cy 2, 900, .inl ((fun _ => 0))))], [(q7, .inl (cy 2, 900, .inl ((fun _ => 0))))], [(q8, .inl (cy 0, 3, .inl ((fun _ => 0))))], [(q9, .inl (cy 0, 8, .inl ((fun _ => 0))))], [(q10, .inl (cy 0, 8, .inl ((fun _ => 0))))], [(q11, .inl (cy 0, 8, .inl ((fun _ => 0))))], [(q12, .inl (cy 0, 16, .inl ((fun _ => 0))))], [(q13, .inl (cy 1, 10, .inr (.inl ((fun _ => 0)))))]] H := hP
  refine xputF (i := 0) (j := 0) (k := 33) (T := TX12) tyX12 tyX12_ok nmX12 hx hb ht tb_iX12 hown hX hP hS rfl rfl rfl (by decide) tb_1262 rfl hin rfl rfl rfl (Nat.le_of_ble_eq_true rfl) dX12_init_137 (fun H locs hP hS => ?_)
  have hP : PD D A [[(h0, .inr (11, [.ref q1, .ref q2, .int 0, .long 0, .long 1, .ref q3, .ref q4, .ref q5, .ref q6, .ref q7, .int 0, .int 0, .int 0, .int 0, .int 0, .int 0, .int (-1), .int (-1), .int 0, .int 0, .int 0, .ref q8, .int 0, .int 0, .int 0, .ref q9, .ref q10, .ref q11, .int 0, .int 0, .int 0, .ref q12, .int 0, .ref q13, .int 0, .int 0, .null, .null, .null, .int 0, .int 0]))], [(q1, .inl (cy 0, 3648, .inl ((fun _ => 0))))], [(q2, .inl (cy 1, 48, .inr (.inl ((fun _ => 0)))))], [(q3, .inl (cy 0, 4, .inl ((fun _ => 0))))], [(q4, .inl (cy 0, 4, .inl (upd (upd (upd (upd ((fun _ => 0)) 0 (-1)) 1 (-1)) 2 (-1)) 3 (-1))))], [(q5, .inl (cy 1, 240, .inr (.inl ((fun _ => 0)))))], [(q6, .inl (cy 2, 900, .inl ((fun _ => 0))))], [(q7, .inl (cy 2, 900, .inl ((fun _ => 0))))], [(q8, .inl (cy 0, 3, .inl ((fun _ => 0))))], [(q9, .inl (cy 0, 8, .inl ((fun _ => 0))))], [(q10, .inl (cy 0, 8, .inl ((fun _ => 0))))], [(q11, .inl (cy 0, 8, .inl ((fun _ => 0))))], [(q12, .inl (cy 0, 16, .inl ((fun _ => 0))))], [(q13, .inl (cy 1, 10, .inr (.inl ((fun _ => 0)))))]] H := hP
  refine lv_aload_n hx hb dX12_init_140 rfl (lv_at hl 0 rfl) ?_
  refine lv_bipush (v := 80) hx hb dX12_init_141 (by decide) ?_
  refine xnewI (N := 80) hx hb ht hX hP hS hA (by decide) (by decide) (by decide) (Nat.le_of_ble_eq_true rfl) (Nat.le_of_ble_eq_true rfl) tb_105 dX12_init_143 (fun q14 H hP hS => ?_)
  have hP : PD D A [[(h0, .inr (11, [.ref q1, .ref q2, .int 0, .long 0, .long 1, .ref q3, .ref q4, .ref q5, .ref q6, .ref q7, .int 0, .int 0, .int 0, .int 0, .int 0, .int 0, .int (-1), .int (-1), .int 0, .int 0, .int 0, .ref q8, .int 0, .int 0, .int 0, .ref q9, .ref q10, .ref q11, .int 0, .int 0, .int 0, .ref q12, .int 0, .ref q13, .int 0, .int 0, .null, .null, .null, .int 0, .int 0]))], [(q1, .inl (cy 0, 3648, .inl ((fun _ => 0))))], [(q2, .inl (cy 1, 48, .inr (.inl ((fun _ => 0)))))], [(q3, .inl (cy 0, 4, .inl ((fun _ => 0))))], [(q4, .inl (cy 0, 4, .inl (upd (upd (upd (upd ((fun _ => 0)) 0 (-1)) 1 (-1)) 2 (-1)) 3 (-1))))], [(q5, .inl (cy 1, 240, .inr (.inl ((fun _ => 0)))))], [(q6, .inl (cy 2, 900, .inl ((fun _ => 0))))], [(q7, .inl (cy 2, 900, .inl ((fun _ => 0))))], [(q8, .inl (cy 0, 3, .inl ((fun _ => 0))))], [(q9, .inl (cy 0, 8, .inl ((fun _ => 0))))], [(q10, .inl (cy 0, 8, .inl ((fun _ => 0))))], [(q11, .inl (cy 0, 8, .inl ((fun _ => 0))))], [(q12, .inl (cy 0, 16, .inl ((fun _ => 0))))], [(q13, .inl (cy 1, 10, .inr (.inl ((fun _ => 0)))))], [(q14, .inl (cy 0, 80, .inl ((fun _ => 0))))]] H := hP
  refine xputF (i := 0) (j := 0) (k := 36) (T := TX12) tyX12 tyX12_ok nmX12 hx hb ht tb_iX12 hown hX hP hS rfl rfl rfl (by decide) tb_1265 rfl hin rfl rfl rfl (Nat.le_of_ble_eq_true rfl) dX12_init_145 (fun H locs hP hS => ?_)
  have hP : PD D A [[(h0, .inr (11, [.ref q1, .ref q2, .int 0, .long 0, .long 1, .ref q3, .ref q4, .ref q5, .ref q6, .ref q7, .int 0, .int 0, .int 0, .int 0, .int 0, .int 0, .int (-1), .int (-1), .int 0, .int 0, .int 0, .ref q8, .int 0, .int 0, .int 0, .ref q9, .ref q10, .ref q11, .int 0, .int 0, .int 0, .ref q12, .int 0, .ref q13, .int 0, .int 0, .ref q14, .null, .null, .int 0, .int 0]))], [(q1, .inl (cy 0, 3648, .inl ((fun _ => 0))))], [(q2, .inl (cy 1, 48, .inr (.inl ((fun _ => 0)))))], [(q3, .inl (cy 0, 4, .inl ((fun _ => 0))))], [(q4, .inl (cy 0, 4, .inl (upd (upd (upd (upd ((fun _ => 0)) 0 (-1)) 1 (-1)) 2 (-1)) 3 (-1))))], [(q5, .inl (cy 1, 240, .inr (.inl ((fun _ => 0)))))], [(q6, .inl (cy 2, 900, .inl ((fun _ => 0))))], [(q7, .inl (cy 2, 900, .inl ((fun _ => 0))))], [(q8, .inl (cy 0, 3, .inl ((fun _ => 0))))], [(q9, .inl (cy 0, 8, .inl ((fun _ => 0))))], [(q10, .inl (cy 0, 8, .inl ((fun _ => 0))))], [(q11, .inl (cy 0, 8, .inl ((fun _ => 0))))], [(q12, .inl (cy 0, 16, .inl ((fun _ => 0))))], [(q13, .inl (cy 1, 10, .inr (.inl ((fun _ => 0)))))], [(q14, .inl (cy 0, 80, .inl ((fun _ => 0))))]] H := hP
  refine lv_aload_n hx hb dX12_init_148 rfl (lv_at hl 0 rfl) ?_
  refine lv_iconst (v := 5) hx hb dX12_init_149 (by decide) ?_
  refine xnewI (N := 5) hx hb ht hX hP hS hA (by decide) (by decide) (by decide) (Nat.le_of_ble_eq_true rfl) (Nat.le_of_ble_eq_true rfl) tb_105 dX12_init_150 (fun q15 H hP hS => ?_)
  have hP : PD D A [[(h0, .inr (11, [.ref q1, .ref q2, .int 0, .long 0, .long 1, .ref q3, .ref q4, .ref q5, .ref q6, .ref q7, .int 0, .int 0, .int 0, .int 0, .int 0, .int 0, .int (-1), .int (-1), .int 0, .int 0, .int 0, .ref q8, .int 0, .int 0, .int 0, .ref q9, .ref q10, .ref q11, .int 0, .int 0, .int 0, .ref q12, .int 0, .ref q13, .int 0, .int 0, .ref q14, .null, .null, .int 0, .int 0]))], [(q1, .inl (cy 0, 3648, .inl ((fun _ => 0))))], [(q2, .inl (cy 1, 48, .inr (.inl ((fun _ => 0)))))], [(q3, .inl (cy 0, 4, .inl ((fun _ => 0))))], [(q4, .inl (cy 0, 4, .inl (upd (upd (upd (upd ((fun _ => 0)) 0 (-1)) 1 (-1)) 2 (-1)) 3 (-1))))], [(q5, .inl (cy 1, 240, .inr (.inl ((fun _ => 0)))))], [(q6, .inl (cy 2, 900, .inl ((fun _ => 0))))], [(q7, .inl (cy 2, 900, .inl ((fun _ => 0))))], [(q8, .inl (cy 0, 3, .inl ((fun _ => 0))))], [(q9, .inl (cy 0, 8, .inl ((fun _ => 0))))], [(q10, .inl (cy 0, 8, .inl ((fun _ => 0))))], [(q11, .inl (cy 0, 8, .inl ((fun _ => 0))))], [(q12, .inl (cy 0, 16, .inl ((fun _ => 0))))], [(q13, .inl (cy 1, 10, .inr (.inl ((fun _ => 0)))))], [(q14, .inl (cy 0, 80, .inl ((fun _ => 0))))], [(q15, .inl (cy 0, 5, .inl ((fun _ => 0))))]] H := hP
  refine xputF (i := 0) (j := 0) (k := 37) (T := TX12) tyX12 tyX12_ok nmX12 hx hb ht tb_iX12 hown hX hP hS rfl rfl rfl (by decide) tb_1266 rfl hin rfl rfl rfl (Nat.le_of_ble_eq_true rfl) dX12_init_152 (fun H locs hP hS => ?_)
  have hP : PD D A [[(h0, .inr (11, [.ref q1, .ref q2, .int 0, .long 0, .long 1, .ref q3, .ref q4, .ref q5, .ref q6, .ref q7, .int 0, .int 0, .int 0, .int 0, .int 0, .int 0, .int (-1), .int (-1), .int 0, .int 0, .int 0, .ref q8, .int 0, .int 0, .int 0, .ref q9, .ref q10, .ref q11, .int 0, .int 0, .int 0, .ref q12, .int 0, .ref q13, .int 0, .int 0, .ref q14, .ref q15, .null, .int 0, .int 0]))], [(q1, .inl (cy 0, 3648, .inl ((fun _ => 0))))], [(q2, .inl (cy 1, 48, .inr (.inl ((fun _ => 0)))))], [(q3, .inl (cy 0, 4, .inl ((fun _ => 0))))], [(q4, .inl (cy 0, 4, .inl (upd (upd (upd (upd ((fun _ => 0)) 0 (-1)) 1 (-1)) 2 (-1)) 3 (-1))))], [(q5, .inl (cy 1, 240, .inr (.inl ((fun _ => 0)))))], [(q6, .inl (cy 2, 900, .inl ((fun _ => 0))))], [(q7, .inl (cy 2, 900, .inl ((fun _ => 0))))], [(q8, .inl (cy 0, 3, .inl ((fun _ => 0))))], [(q9, .inl (cy 0, 8, .inl ((fun _ => 0))))], [(q10, .inl (cy 0, 8, .inl ((fun _ => 0))))], [(q11, .inl (cy 0, 8, .inl ((fun _ => 0))))], [(q12, .inl (cy 0, 16, .inl ((fun _ => 0))))], [(q13, .inl (cy 1, 10, .inr (.inl ((fun _ => 0)))))], [(q14, .inl (cy 0, 80, .inl ((fun _ => 0))))], [(q15, .inl (cy 0, 5, .inl ((fun _ => 0))))]] H := hP
  refine lv_aload_n hx hb dX12_init_155 rfl (lv_at hl 0 rfl) ?_
  refine lv_iconst (v := 5) hx hb dX12_init_156 (by decide) ?_
  refine xnewI (N := 5) hx hb ht hX hP hS hA (by decide) (by decide) (by decide) (Nat.le_of_ble_eq_true rfl) (Nat.le_of_ble_eq_true rfl) tb_105 dX12_init_157 (fun q16 H hP hS => ?_)
  have hP : PD D A [[(h0, .inr (11, [.ref q1, .ref q2, .int 0, .long 0, .long 1, .ref q3, .ref q4, .ref q5, .ref q6, .ref q7, .int 0, .int 0, .int 0, .int 0, .int 0, .int 0, .int (-1), .int (-1), .int 0, .int 0, .int 0, .ref q8, .int 0, .int 0, .int 0, .ref q9, .ref q10, .ref q11, .int 0, .int 0, .int 0, .ref q12, .int 0, .ref q13, .int 0, .int 0, .ref q14, .ref q15, .null, .int 0, .int 0]))], [(q1, .inl (cy 0, 3648, .inl ((fun _ => 0))))], [(q2, .inl (cy 1, 48, .inr (.inl ((fun _ => 0)))))], [(q3, .inl (cy 0, 4, .inl ((fun _ => 0))))], [(q4, .inl (cy 0, 4, .inl (upd (upd (upd (upd ((fun _ => 0)) 0 (-1)) 1 (-1)) 2 (-1)) 3 (-1))))], [(q5, .inl (cy 1, 240, .inr (.inl ((fun _ => 0)))))], [(q6, .inl (cy 2, 900, .inl ((fun _ => 0))))], [(q7, .inl (cy 2, 900, .inl ((fun _ => 0))))], [(q8, .inl (cy 0, 3, .inl ((fun _ => 0))))], [(q9, .inl (cy 0, 8, .inl ((fun _ => 0))))], [(q10, .inl (cy 0, 8, .inl ((fun _ => 0))))], [(q11, .inl (cy 0, 8, .inl ((fun _ => 0))))], [(q12, .inl (cy 0, 16, .inl ((fun _ => 0))))], [(q13, .inl (cy 1, 10, .inr (.inl ((fun _ => 0)))))], [(q14, .inl (cy 0, 80, .inl ((fun _ => 0))))], [(q15, .inl (cy 0, 5, .inl ((fun _ => 0))))], [(q16, .inl (cy 0, 5, .inl ((fun _ => 0))))]] H := hP
  refine xputF (i := 0) (j := 0) (k := 38) (T := TX12) tyX12 tyX12_ok nmX12 hx hb ht tb_iX12 hown hX hP hS rfl rfl rfl (by decide) tb_1267 rfl hin rfl rfl rfl (Nat.le_of_ble_eq_true rfl) dX12_init_159 (fun H locs hP hS => ?_)
  have hP : PD D A [[(h0, .inr (11, [.ref q1, .ref q2, .int 0, .long 0, .long 1, .ref q3, .ref q4, .ref q5, .ref q6, .ref q7, .int 0, .int 0, .int 0, .int 0, .int 0, .int 0, .int (-1), .int (-1), .int 0, .int 0, .int 0, .ref q8, .int 0, .int 0, .int 0, .ref q9, .ref q10, .ref q11, .int 0, .int 0, .int 0, .ref q12, .int 0, .ref q13, .int 0, .int 0, .ref q14, .ref q15, .ref q16, .int 0, .int 0]))], [(q1, .inl (cy 0, 3648, .inl ((fun _ => 0))))], [(q2, .inl (cy 1, 48, .inr (.inl ((fun _ => 0)))))], [(q3, .inl (cy 0, 4, .inl ((fun _ => 0))))], [(q4, .inl (cy 0, 4, .inl (upd (upd (upd (upd ((fun _ => 0)) 0 (-1)) 1 (-1)) 2 (-1)) 3 (-1))))], [(q5, .inl (cy 1, 240, .inr (.inl ((fun _ => 0)))))], [(q6, .inl (cy 2, 900, .inl ((fun _ => 0))))], [(q7, .inl (cy 2, 900, .inl ((fun _ => 0))))], [(q8, .inl (cy 0, 3, .inl ((fun _ => 0))))], [(q9, .inl (cy 0, 8, .inl ((fun _ => 0))))], [(q10, .inl (cy 0, 8, .inl ((fun _ => 0))))], [(q11, .inl (cy 0, 8, .inl ((fun _ => 0))))], [(q12, .inl (cy 0, 16, .inl ((fun _ => 0))))], [(q13, .inl (cy 1, 10, .inr (.inl ((fun _ => 0)))))], [(q14, .inl (cy 0, 80, .inl ((fun _ => 0))))], [(q15, .inl (cy 0, 5, .inl ((fun _ => 0))))], [(q16, .inl (cy 0, 5, .inl ((fun _ => 0))))]] H := hP
  refine lv_aload_n hx hb dX12_init_162 rfl (lv_at hl 0 rfl) ?_
  refine lv_iconst (v := 0) hx hb dX12_init_163 (by decide) ?_
  have hP : PD D A [bl_X12 cy (adf [h0, q1, q2, q3, q4, q5, q6, q7, q8, q9, q10, q11, q12, q13, q14, q15, q16]) ((fun _ => 0)) ((fun _ => 0)) 0 0 1 ((fun _ => 0)) (upd (upd (upd (upd ((fun _ => 0)) 0 (-1)) 1 (-1)) 2 (-1)) 3 (-1)) ((fun _ => 0)) ((fun _ => 0)) ((fun _ => 0)) 0 0 0 0 0 0 (-1) (-1) 0 0 0 ((fun _ => 0)) 0 0 0 ((fun _ => 0)) ((fun _ => 0)) ((fun _ => 0)) 0 0 0 ((fun _ => 0)) 0 ((fun _ => 0)) 0 0 ((fun _ => 0)) ((fun _ => 0)) ((fun _ => 0)) 0 0] H := ⟨hP.1, hP.2⟩
  refine efVv (b := h0) (rest := []) ⟨hx, hb, hml, hown, ht⟩ (c_X12_plain l D cy fu (adf [h0, q1, q2, q3, q4, q5, q6, q7, q8, q9, q10, q11, q12, q13, q14, q15, q16]) ((fun _ => 0)) ((fun _ => 0)) 0 0 1 ((fun _ => 0)) (upd (upd (upd (upd ((fun _ => 0)) 0 (-1)) 1 (-1)) 2 (-1)) 3 (-1)) ((fun _ => 0)) ((fun _ => 0)) ((fun _ => 0)) 0 0 0 0 0 0 (-1) (-1) 0 0 0 ((fun _ => 0)) 0 0 0 ((fun _ => 0)) ((fun _ => 0)) ((fun _ => 0)) 0 0 0 ((fun _ => 0)) 0 ((fun _ => 0)) 0 0 ((fun _ => 0)) ((fun _ => 0)) ((fun _ => 0)) 0 0 0 at0 hpl _ rfl _ rfl) (cV ht mv_X12_plain tb_1222 rfl rfl ⟨Nat.le_of_ble_eq_true rfl, Nat.le_of_ble_eq_true rfl⟩) hP hS hX [0] rfl rfl rfl rfl rfl rfl hl.1 rfl (Nat.le_of_ble_eq_true rfl) dX12_init_164 ⟨Nat.le_of_ble_eq_true rfl, Nat.le_of_ble_eq_true rfl⟩ (fun H locs hP hS => ?_)
  have hP : PD D A [bl_X12 cy (adf [h0, q1, q2, q3, q4, q5, q6, q7, q8, q9, q10, q11, q12, q13, q14, q15, q16]) at0 ((fun _ => 0)) 0 0 1 ((fun _ => 0)) (upd (upd (upd (upd ((fun _ => 0)) 0 (-1)) 1 (-1)) 2 (-1)) 3 (-1)) ((fun _ => 0)) ((fun _ => 0)) ((fun _ => 0)) 0 0 0 0 0 0 (-1) (-1) 0 0 0 ((fun _ => 0)) 0 0 0 ((fun _ => 0)) ((fun _ => 0)) ((fun _ => 0)) 0 0 0 ((fun _ => 0)) 0 ((fun _ => 0)) 0 0 ((fun _ => 0)) ((fun _ => 0)) ((fun _ => 0)) 0 0] H := hP
  refine W.widen (k := 16) (n := 5887) (Nat.le_of_ble_eq_true rfl) (Nat.le_of_ble_eq_true rfl) ?_
  exact W.vret hx hb hr (fun t ht9 _ => ⟨⟨(adf [h0, q1, q2, q3, q4, q5, q6, q7, q8, q9, q10, q11, q12, q13, q14, q15, q16]), rfl, rfl, PDt ht9 ⟨hP.1, hP.2⟩⟩, hS.F ht9⟩) hS.2.2 dX12_init_167

theorem tw_1 {i : Nat} {w : Cond} (h : tables_1_1[i]? = some w) : w ∈ lw_tbl := List.mem_append_right _ (List.mem_append_left _ (List.mem_of_getElem? h))
theorem tw_2 {i : Nat} {w : Cond} (h : tables_1_2[i]? = some w) : w ∈ lw_tbl := List.mem_append_right _ (List.mem_append_right _ (List.mem_append_left _ (List.mem_of_getElem? h)))
theorem tw_3 {i : Nat} {w : Cond} (h : tables_1_3[i]? = some w) : w ∈ lw_tbl := List.mem_append_right _ (List.mem_append_right _ (List.mem_append_right _ (List.mem_append_left _ (List.mem_of_getElem? h))))
theorem tw_4 {i : Nat} {w : Cond} (h : tables_1_4[i]? = some w) : w ∈ lw_tbl := List.mem_append_right _ (List.mem_append_right _ (List.mem_append_right _ (List.mem_append_right _ (List.mem_append_left _ (List.mem_of_getElem? h)))))
theorem tw_5 {i : Nat} {w : Cond} (h : tables_1_5[i]? = some w) : w ∈ lw_tbl := List.mem_append_right _ (List.mem_append_right _ (List.mem_append_right _ (List.mem_append_right _ (List.mem_append_right _ (List.mem_append_left _ (List.mem_of_getElem? h))))))
theorem tw_6 {i : Nat} {w : Cond} (h : tables_1_6[i]? = some w) : w ∈ lw_tbl := List.mem_append_right _ (List.mem_append_right _ (List.mem_append_right _ (List.mem_append_right _ (List.mem_append_right _ (List.mem_append_right _ (List.mem_append_left _ (List.mem_of_getElem? h)))))))
theorem tw_7 {i : Nat} {w : Cond} (h : tables_1_7[i]? = some w) : w ∈ lw_tbl := List.mem_append_right _ (List.mem_append_right _ (List.mem_append_right _ (List.mem_append_right _ (List.mem_append_right _ (List.mem_append_right _ (List.mem_append_right _ (List.mem_append_left _ (List.mem_of_getElem? h))))))))
theorem nm_tbl : ∀ q ∈ lw_nm, Cond.methodLinkNest q.1 q.2.1 q.2.2.1 q.2.2.2 ∈ lw_tbl := by
  intro q hq
  simp only [lw_nm, List.mem_cons, List.not_mem_nil, or_false] at hq
  rcases hq with rfl | rfl | rfl | rfl | rfl | rfl | rfl | rfl | rfl | rfl | rfl | rfl | rfl
  · exact tw_1 (i := 34) rfl
  · exact tw_1 (i := 108) rfl
  · exact tw_1 (i := 158) rfl
  · exact tw_2 (i := 122) rfl
  · exact tw_2 (i := 127) rfl
  · exact tw_2 (i := 169) rfl
  · exact tw_3 (i := 156) rfl
  · exact tw_3 (i := 189) rfl
  · exact tw_3 (i := 235) rfl
  · exact tw_4 (i := 3) rfl
  · exact tw_4 (i := 233) rfl
  · exact tw_5 (i := 71) rfl
  · exact tw_5 (i := 203) rfl
abbrev FL : List Cond := flatC (Jvm.Cond.and given_1 narrow_1)
theorem fl_ord : ∀ j, j < 9 → FL[12 + j]? = some (Cond.eq (.elem (.static "MedalBoard" "ORDERS" "[I") (.int (Int32.ofNat j))) (.int (ordF j))) := by decide +kernel
def tmS (i : Nat) : Term := if i = 0 then .string "MedalBoard$Tape" 45 else .string "MedalBoardModel" 177
theorem fl_t0 : ∀ j, j < 103 → FL[61 + j]? = some (Cond.eq (.elem (.field (.string "MedalBoard$Tape" 45) "java/lang/String" "value" "[B") (.int (Int32.ofNat j))) (.int ((bytS.getD 0 []).getD j 0))) := by decide +kernel
theorem fl_t1 : ∀ j, j < 104 → FL[168 + j]? = some (Cond.eq (.elem (.field (.string "MedalBoardModel" 177) "java/lang/String" "value" "[B") (.int (Int32.ofNat j))) (.int ((bytS.getD 1 []).getD j 0))) := by decide +kernel
section
variable {s : State} {args : Array Value}
/-- the classes, the kinds of array -/
theorem whole_CX (hts : ∀ w ∈ lw_tbl, w.before args s = true) : ∃ D cy, CX D cy s := by
  have ht : ∀ w ∈ lw_gd, w.before args s = true := fun w hw => hts w (List.mem_filter.mp hw).1
  obtain ⟨c0, i0, K0⟩ := u_known (C := RX0) (T := TX0) (N := 14) (n := 14) ht tb_iX0 (ht _ tb_33)
  obtain ⟨c1, i1, K1⟩ := u_known (C := RX1) (T := TX1) (N := 4) (n := 4) ht tb_iX1 (ht _ tb_276)
  obtain ⟨c2, i2, K2⟩ := u_known (C := RX2) (T := TX2) (N := 11) (n := 11) ht tb_iX2 (ht _ tb_319)
  obtain ⟨c3, i3, K3⟩ := u_known (C := RX4) (T := TX4) (N := 3) (n := 3) ht tb_iX4 (ht _ tb_361)
  obtain ⟨c4, i4, K4⟩ := u_known (C := RX5) (T := TX5) (N := 7) (n := 7) ht tb_iX5 (ht _ tb_379)
  obtain ⟨c5, i5, K5⟩ := u_known (C := RX6) (T := TX6) (N := 3) (n := 3) ht tb_iX6 (ht _ tb_157)
  obtain ⟨c6, i6, K6⟩ := u_known (C := RX7) (T := TX7) (N := 10) (n := 10) ht tb_iX7 (ht _ tb_163)
  obtain ⟨c7, i7, K7⟩ := u_known (C := RX8) (T := TX8) (N := 4) (n := 4) ht tb_iX8 (ht _ tb_408)
  obtain ⟨c8, i8, K8⟩ := u_known (C := RX9) (T := TX9) (N := 9) (n := 9) ht tb_iX9 (ht _ tb_107)
  obtain ⟨c9, i9, K9⟩ := u_known (C := RX10) (T := TX10) (N := 5) (n := 5) ht tb_iX10 (ht _ tb_295)
  obtain ⟨c10, i10, K10⟩ := u_known (C := RX11) (T := TX11) (N := 18) (n := 18) ht tb_iX11 (ht _ tb_23)
  obtain ⟨c11, i11, K11⟩ := u_known (C := RX12) (T := TX12) (N := 41) (n := 41) ht tb_iX12 (ht _ tb_1217)
  obtain ⟨a0, k0, m0, x01, x02, x03⟩ := Cond.arrayClass_spec (type := .int) (ht _ tb_105)
  obtain ⟨a1, k1, m1, x11, x12, x13⟩ := Cond.arrayClass_spec (type := .long) (ht _ tb_104)
  obtain ⟨a2, k2, m2, x21, x22, x23⟩ := Cond.arrayClass_spec (type := .byte) (ht _ tb_259)
  obtain ⟨m3, a3, k3, x31, -, x32, x33, x34⟩ := Cond.arrayOver_spec (n := "MedalBoard$Army") (hts _ (tw_2 (i := 76) rfl))
  obtain ⟨m4, a4, k4, x41, -, x42, x43, x44⟩ := Cond.arrayOver_spec (n := "MedalBoard$Tray") (hts _ (tw_1 (i := 31) rfl))
  obtain ⟨m5, a5, k5, x51, -, x52, x53, x54⟩ := Cond.arrayOver_spec (n := "MedalBoard$War") (hts _ (tw_2 (i := 77) rfl))
  refine ⟨(fun k => [c0, c1, c2, c3, c4, c5, c6, c7, c8, c9, c10, c11].getD k c0, fun k => [i0, i1, i2, i3, i4, i5, i6, i7, i8, i9, i10, i11].getD k i0), fun k => [a0, a1, a2, a3, a4, a5].getD k a0, ⟨?_, ?_⟩, fun q hq => va_Nw.of rfl (hts _ (nm_tbl q hq))⟩
  · intro k q hq
    match k, hq with
    | 0, hq => cases hq; exact K0
    | 1, hq => cases hq; exact K1
    | 2, hq => cases hq; exact K2
    | 3, hq => cases hq; exact K3
    | 4, hq => cases hq; exact K4
    | 5, hq => cases hq; exact K5
    | 6, hq => cases hq; exact K6
    | 7, hq => cases hq; exact K7
    | 8, hq => cases hq; exact K8
    | 9, hq => cases hq; exact K9
    | 10, hq => cases hq; exact K10
    | 11, hq => cases hq; exact K11
    | k + 12, hq => simp at hq
  · intro k q hq
    match k, hq with
    | 0, hq => cases hq; exact ⟨fun n z => ⟨fun k h => (by cases h), k0, x02, m0, x03⟩, x01⟩
    | 1, hq => cases hq; exact ⟨fun n z => ⟨fun k h => (by cases h), k1, x12, m1, x13⟩, x11⟩
    | 2, hq => cases hq; exact ⟨fun n z => ⟨fun k h => (by cases h), k2, x22, m2, x23⟩, x21⟩
    | 3, hq => cases hq; exact ⟨fun n z => ⟨fun k h => (by cases h), k3, x32, m3, x33⟩, k3, m3, x32, x33, x31, x34⟩
    | 4, hq => cases hq; exact ⟨fun n z => ⟨fun k h => (by cases h), k4, x42, m4, x43⟩, k4, m4, x42, x43, x41, x44⟩
    | 5, hq => cases hq; exact ⟨fun n z => ⟨fun k h => (by cases h), k5, x52, m5, x53⟩, k5, m5, x52, x53, x51, x54⟩
    | k + 6, hq => simp at hq
/-- the static row, the texts -/
theorem whole_EX (hts : ∀ w ∈ lw_tbl, w.before args s = true) (hgv : (Jvm.Cond.and given_1 narrow_1).before args s = true) {A : Nat → Prop} (hA : ∀ a : Nat, a < s.heap.size → ¬ A a) : ∃ tO aK aV, EX tO aK aV A s s.heap := by
  have ht : ∀ w ∈ lw_gd, w.before args s = true := fun w hw => hts w (List.mem_filter.mp hw).1
  have hs : ∀ w ∈ FL, w.before args s = true := flat_of_before _ hgv
  obtain ⟨tO, hO1, hO2⟩ := va_Tof (tm := .static "MedalBoard" "ORDERS" "[I") (ty := .int) (N := 9) (f := fun j => .int (ordF j)) (by decide) (hs _ (List.mem_of_getElem? (i := 10) rfl)) (va_eqt (hs _ (List.mem_of_getElem? (i := 11) rfl))) (fun j hj => va_eqt (hs _ (List.mem_of_getElem? (fl_ord j hj)))) hA
  have h2 : ∀ i, i < 2 → i = 0 ∨ i = 1 := fun i hi => by omega
  obtain ⟨aK, aV, hS1, hS2⟩ := vk_Sof (N := 2) (tm := tmS) (len := lenS) (byt := bytS) (A := A) (args := args) (s := s)
    (fun i hi => by rcases h2 i hi with rfl | rfl <;> decide)
    (fun i hi => by
      rcases h2 i hi with rfl | rfl
      · exact hs _ (List.mem_of_getElem? (i := 57) rfl)
      · exact hs _ (List.mem_of_getElem? (i := 164) rfl))
    (fun i hi => by
      rcases h2 i hi with rfl | rfl
      · exact hs _ (List.mem_of_getElem? (i := 58) rfl)
      · exact hs _ (List.mem_of_getElem? (i := 165) rfl))
    (fun i hi => by
      rcases h2 i hi with rfl | rfl
      · exact hs _ (List.mem_of_getElem? (i := 59) rfl)
      · exact hs _ (List.mem_of_getElem? (i := 166) rfl))
    (fun i hi => by
      rcases h2 i hi with rfl | rfl
      · exact hs _ (List.mem_of_getElem? (i := 60) rfl)
      · exact hs _ (List.mem_of_getElem? (i := 167) rfl))
    (fun i hi j hj => by
      rcases h2 i hi with rfl | rfl
      · exact hs _ (List.mem_of_getElem? (fl_t0 j hj))
      · exact hs _ (List.mem_of_getElem? (fl_t1 j hj)))
    (fun i j hi hj hij => by
      rcases h2 i hi with rfl | rfl
      · rcases h2 j hj with rfl | rfl
        · exact absurd rfl hij
        · exact Or.inl (hs _ (List.mem_of_getElem? (i := 272) rfl))
      · rcases h2 j hj with rfl | rfl
        · exact Or.inr (hs _ (List.mem_of_getElem? (i := 272) rfl))
        · exact absurd rfl hij) hA
  exact ⟨tO, aK, aV, va_Zref (hts _ (tw_4 (i := 235) rfl)) (ht _ tb_1) hO1 hA, hO2, va_Nw.of rfl (hts _ (tw_4 (i := 234) rfl)), hS1, va_Zof (hts _ (tw_1 (i := 178) rfl)) (ht _ tb_6) (va_eqt (hs _ (List.mem_of_getElem? (i := 4) rfl))) hA, va_Zqof (hts _ (tw_1 (i := 194) rfl)) (ht _ tb_8) (hs _ (List.mem_of_getElem? (i := 5) rfl)) hA, vk_R.of (hts _ (tw_1 (i := 168) rfl)) (hS2 0 (by omega)), vk_R.of (hts _ (tw_7 (i := 0) rfl)) (hS2 1 (by omega))⟩
end
set_option maxHeartbeats 16000000 in
set_option maxRecDepth 100000 in
/-- THE LAW, from its entry -/
theorem whole_start {p : Program} {e : Env} {s : State} {m : MethodId} {below : List Frame} {meth : Method} {c : Code} (l : Launch) {b L : Nat} {xs : Nat → Int32} (hL : L ≤ 3072) (C0 : lw_At p s m meth c b L xs) : W p l e room_1 s m #[Value.ref b] below meth c s.heap [] 0 0 (lw_Z below #[Value.ref b] s) (entryFrame m ([Value.ref b] : List Value).toArray 4) := by
  obtain ⟨hx, hb, hr, hml, hown, hts, hX0, hbl, hlocks, hgv⟩ := id C0
  have ht : ∀ w ∈ lw_gd, w.before #[Value.ref b] s = true := fun w hw => hts w (List.mem_filter.mp hw).1
  obtain ⟨A, hAe⟩ : ∃ A : Nat → Prop, A = fun q : Nat => s.heap.size ≤ q := ⟨_, rfl⟩
  have hA : ∀ q : Nat, s.heap.size ≤ q → A q := fun q h => by rw [hAe]; exact h
  have hA' : ∀ q : Nat, A q → s.heap.size ≤ q := fun q h => by rw [hAe] at h; exact h
  have hAn : ∀ a : Nat, a < s.heap.size → ¬ A a := fun a h1 h2 => absurd (hA' a h2) (Nat.not_le.mpr h1)
  obtain ⟨D, cy, hX⟩ := whole_CX hts
  obtain ⟨tO, aK, aV, hE⟩ := whole_EX hts hgv hAn
  have hC : CC D cy tO aK aV A s s.heap := ⟨hX, hE, va_AO.of (hts _ (tw_2 (i := 76) rfl)), va_AO.of (hts _ (tw_1 (i := 31) rfl)), va_AO.of (hts _ (tw_2 (i := 77) rfl))⟩
  have hwc := h_wc (fu := 1000000000) (by omega)
  obtain ⟨at0, hpl, hRR⟩ := h_pl (fu := 1000000000) (by omega)
  have hQ := all_Q (fu := 1000000000) (by omega)
  generalize (1000000000 : Nat) = fu at hwc hpl hQ
  generalize (csq 103).1 = wc at hwc hRR
  have hS : va_S A s.heap s.heap [] := va_S.rf
  have hP : PD D A [] s.heap := ⟨fun k q h => by simp at h, fun i j p q h => by simp at h, fun k q h => by simp at h⟩
  obtain ⟨ls, hl, hent⟩ := ent (m := m) (args := ([Value.ref b] : List Value).toArray) (n := 4) (vs := [.ref b]) rfl (Nat.le_of_ble_eq_true rfl) (lv := [(0, .ref b)]) rfl
  rw [hent]
  clear hent
  refine xnew (ci := 10) (fs := [.int 0, .long 0, .long 0, .null, .null, .null, .null, .null, .null, .null, .null, .null, .null, .int 0, .null, .null, .null, .null]) (T := TX11) tyX11 tyX11_ok hx hb ht tb_iX11 hown tb_22 tb_23 tb_1 hX hP hS hA rfl (fun j hj => by rcases (show j = 0 ∨ j = 1 ∨ j = 2 ∨ j = 3 ∨ j = 4 ∨ j = 5 ∨ j = 6 ∨ j = 7 ∨ j = 8 ∨ j = 9 ∨ j = 10 ∨ j = 11 ∨ j = 12 ∨ j = 13 ∨ j = 14 ∨ j = 15 ∨ j = 16 ∨ j = 17 by omega) with rfl | rfl | rfl | rfl | rfl | rfl | rfl | rfl | rfl | rfl | rfl | rfl | rfl | rfl | rfl | rfl | rfl | rfl <;> rfl) (Nat.le_of_ble_eq_true rfl) (Nat.le_of_ble_eq_true rfl) dL_law_0 (fun q1 H hP hS => ?_)
  refine lv_dup hx hb dL_law_3 rfl ?_
  refine efI (bs := []) (rest := [.ref q1]) ⟨hx, hb, hml, hown, ht⟩ (n_X11 l D cy tO aK aV fu q1 H.size wc hwc) (cI ht mi_X11 tb_24 rfl rfl ⟨Nat.le_of_ble_eq_true rfl, Nat.le_of_ble_eq_true rfl⟩) hP hS hA hC rfl hl.1 rfl (Nat.le_of_ble_eq_true rfl) dL_law_4 ⟨Nat.le_of_ble_eq_true rfl, Nat.le_of_ble_eq_true rfl⟩ (fun u H locs hu hPn hSn => ?_)
  have hu : u 0 0 = q1 := hu
  subst hu
  have hP : PD D A (wX cy u (S0 wc)) H := hPn
  have hS := hSn
  clear hPn hSn
  refine lv_astore_n (lv' := [(1, .ref (u 0 0)), (0, .ref b)]) hx hb dL_law_7 rfl hl (by decide) rfl (fun ls hl => ?_)
  refine xnew (ci := 11) (fs := [.null, .null, .int 0, .long 0, .long 0, .null, .null, .null, .null, .null, .int 0, .int 0, .int 0, .int 0, .int 0, .int 0, .int 0, .int 0, .int 0, .int 0, .int 0, .null, .int 0, .int 0, .int 0, .null, .null, .null, .int 0, .int 0, .int 0, .null, .int 0, .null, .int 0, .int 0, .null, .null, .null, .int 0, .int 0]) (T := TX12) tyX12 tyX12_ok hx hb ht tb_iX12 hown tb_1216 tb_1217 tb_16 hX hP hS hA rfl (fun j hj => by rcases (show j = 0 ∨ j = 1 ∨ j = 2 ∨ j = 3 ∨ j = 4 ∨ j = 5 ∨ j = 6 ∨ j = 7 ∨ j = 8 ∨ j = 9 ∨ j = 10 ∨ j = 11 ∨ j = 12 ∨ j = 13 ∨ j = 14 ∨ j = 15 ∨ j = 16 ∨ j = 17 ∨ j = 18 ∨ j = 19 ∨ j = 20 ∨ j = 21 ∨ j = 22 ∨ j = 23 ∨ j = 24 ∨ j = 25 ∨ j = 26 ∨ j = 27 ∨ j = 28 ∨ j = 29 ∨ j = 30 ∨ j = 31 ∨ j = 32 ∨ j = 33 ∨ j = 34 ∨ j = 35 ∨ j = 36 ∨ j = 37 ∨ j = 38 ∨ j = 39 ∨ j = 40 by omega) with rfl | rfl | rfl | rfl | rfl | rfl | rfl | rfl | rfl | rfl | rfl | rfl | rfl | rfl | rfl | rfl | rfl | rfl | rfl | rfl | rfl | rfl | rfl | rfl | rfl | rfl | rfl | rfl | rfl | rfl | rfl | rfl | rfl | rfl | rfl | rfl | rfl | rfl | rfl | rfl | rfl <;> rfl) (Nat.le_of_ble_eq_true rfl) (Nat.le_of_ble_eq_true rfl) dL_law_8 (fun q2 H hP hS => ?_)
  refine lv_dup hx hb dL_law_11 rfl ?_
  refine efI (bs := wX cy u (S0 wc)) (rest := [.ref q2]) ⟨hx, hb, hml, hown, ht⟩ (n_X12 l D cy tO aK aV fu q2 H.size at0 hpl) (cI ht mi_X12 tb_1218 rfl rfl ⟨Nat.le_of_ble_eq_true rfl, Nat.le_of_ble_eq_true rfl⟩) hP hS hA hC rfl hl.1 rfl (Nat.le_of_ble_eq_true rfl) dL_law_12 ⟨Nat.le_of_ble_eq_true rfl, Nat.le_of_ble_eq_true rfl⟩ (fun v H locs hv hPn hSn => ?_)
  have hv : v 0 = q2 := hv
  subst hv
  have hP : PD D A (wL cy u v (S0 wc) (M0 at0)) H := hPn
  have hS := hSn
  clear hPn hSn
  refine lv_astore_n (lv' := [(2, .ref (v 0)), (1, .ref (u 0 0)), (0, .ref b)]) hx hb dL_law_15 rfl hl (by decide) rfl (fun ls hl => ?_)
  refine lv_iconst (v := 0) hx hb dL_law_16 (by decide) ?_
  refine lv_istore_n (lv' := [(3, .int 0), (2, .ref (v 0)), (1, .ref (u 0 0)), (0, .ref b)]) hx hb dL_law_17 rfl hl (by decide) rfl (fun ls hl => ?_)
  exact law_loop (AD := u) (AM := v) (fu := fu) (R := RR) hQ ⟨⟨hx, hb, hml, hown, ht⟩, hr, hlocks, hL, trivial, hX0, hbl, hAn b hbl⟩ hX hE hA' (L + 12) 0 (S0 wc) (M0 at0) hRR (by omega) (by omega) H locs hP hS ls (lv_sub hl [3, 2, 1, 0] rfl)

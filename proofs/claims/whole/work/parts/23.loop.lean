/-! THE CLAIM OUT OF ONE WALK OF THE LAW'S BODY. Your part is whole_start (and what it stands on); all else here is the same for every law, but numbers. -/
def R_law : String := "MedalBoardLaw"
def lw_P (b : Addr) (xs : List Int32) (args : Array Value) (s : State) : Prop := args = #[.ref b] ∧ s.IntsAt b xs ∧ xs.length ≤ 3072 ∧ (Jvm.Cond.and given_1 narrow_1).before args s = true
def lw_Q (_ : Array Value) (s : State) (o : Outcome) (t : State) : Prop := o = .returned (some (.int 1)) ∧ Framed s o t [] 600000 7302250
def lw_Z (below : List Frame) (a : Array Value) (s : State) : State → Prop := fun t => ∃ o, t.status = .running ∧ Ended t below o ∧ lw_Q a s o t
/-- the law's own end, with 1 on the stack, nothing written that was there before, its room as the claim has it -/
theorem lw_ret {p : Program} {l : Launch} {e : Env} {s : State} {m : MethodId} {below : List Frame} {meth : Method} {c : Code} {b : Nat} (hx : p.tables.exec = Jvm.exec) (hb : c.code = code) (hr : meth.sig.returnType = ret) (hlocks : meth.locks = false) {pc : Nat} {H : Heap} {ls : Array Slot} (hdg : decode code pc = .ok (.ireturn, 1)) : W p l e room_1 s m #[Value.ref b] below meth c H [] 600000 7302250 (lw_Z below #[Value.ref b] s) (F0 m pc ls [.int 1]) := by
  intro T hT X
  obtain ⟨fs, hret, hrun, hended, hW, hframe⟩ := X.leave (v := some (.int 1)) (hlocks := hlocks) (fun h => by rw [hr] at h; cases h)
  have hmeth' : T.vm.method? m = some meth := X.method'
  refine ⟨T.setFrames fs, ?_, .returned (some (.int 1)), hrun, hended, rfl, ⟨_, rfl⟩, hW, hframe⟩
  jvm_step X.here [X.here.top, hx, hb, hdg, hmeth', hr, ret, narrow_b1]
  (try refine ⟨rfl, ?_⟩); (try refine ⟨rfl, ?_⟩)
  first | (intro acts; rw [hret _ acts rfl rfl rfl]) | rw [hret _ _ rfl rfl rfl]
  exact Steps.refl _
/-- what holds at the law's entry: the machine, the code, the tables' words (any of lw_tbl by 'hts w (by decide +kernel)'), the script of L ints xs at the cell b, what the Statement gives of the start (any of its parts by flat_of_before) -/
def lw_At (p : Program) (s : State) (m : MethodId) (meth : Method) (c : Code) (b L : Nat) (xs : Nat → Int32) : Prop :=
  p.tables.exec = Jvm.exec ∧ c.code = code ∧ meth.sig.returnType = ret ∧ c.maxLocals = 4 ∧ s.vm.findClass R_law = some m.cls ∧ (∀ w ∈ lw_tbl, w.before #[Value.ref b] s = true) ∧ va_X b L xs s s.heap ∧ b < s.heap.size ∧ meth.locks = false ∧ (Jvm.Cond.and given_1 narrow_1).before #[Value.ref b] s = true
def AllQ (fu : Nat) (R : SX → tX12 → Prop) : Prop := Q_status fu R ∧ Q_top fu R ∧ Q_bottom fu R ∧ Q_tray fu R ∧ Q_write fu R ∧ Q_read fu R ∧ Q_pour fu R ∧ Q_feed fu R ∧ Q_army fu R ∧ Q_war fu R ∧ Q_fault fu R ∧ Q_told fu R ∧ Q_man fu R ∧ Q_likes fu R ∧ Q_face fu R ∧ Q_give fu R ∧ Q_lose fu R ∧ Q_fall fu R ∧ Q_enlist fu R ∧ Q_train fu R ∧ Q_weigh fu R ∧ Q_charm fu R ∧ Q_rule fu R ∧ Q_brave fu R ∧ Q_limit fu R ∧ Q_candidates fu R ∧ Q_voteOf fu R ∧ Q_votes fu R ∧ Q_goesTo fu R ∧ Q_carries fu R ∧ Q_fewest fu R ∧ Q_fewestSet fu R ∧ Q_power fu R ∧ Q_mightiest fu R ∧ Q_veto fu R ∧ Q_most fu R ∧ Q_facesAt fu R ∧ Q_seen fu R ∧ Q_seenAt fu R ∧ Q_ask fu R ∧ Q_couples fu R ∧ Q_fondness fu R ∧ Q_partner fu R ∧ Q_game fu R ∧ Q_moveOf fu R ∧ Q_chance fu R ∧ Q_luck fu R ∧ Q_hopeful fu R ∧ Q_copyMedals fu R ∧ Q_live fu R ∧ Q_lived fu R ∧ Q_mean fu R ∧ Q_mark fu R ∧ Q_undo fu R
theorem law_cmp {L i : Nat} (hL : L ≤ 3072) (hi : i ≤ 4000) : (nI L - 6 < nI i) ↔ L < i + 6 := by
  have e : (nI L - nI 6).toInt = (L : Int) - (6 : Nat) := pk_sub_toInt (by omega) (by omega)
  have e2 : (nI i).toInt = (i : Int) := nI_toInt (by omega)
  have e3 : nI L - 6 = nI L - nI 6 := rfl
  rw [e3, Int32.lt_iff_toInt_lt, e, e2]
  omega
section LAWLOOP
variable {p : Program} {l : Launch} {e : Env} {s : State} {m : MethodId} {below : List Frame} {meth : Method} {c : Code} {D : va_G} {cy : Nat → ClassId} {AD : Nat → Nat → Nat} {AM : Nat → Nat} {tO : Nat} {aK aV : Nat → Nat} {A : Nat → Prop} {fu : Nat} {b L : Nat} {xs : Nat → Int32} {R : SX → tX12 → Prop}
set_option maxHeartbeats 16000000 in
set_option maxRecDepth 100000 in
theorem law_loop (hQ : AllQ fu R) (C0 : Lc p l m meth c s #[Value.ref b] b L xs A) (hX : CX D cy s) (hE : EX tO aK aV A s s.heap) (hA : ∀ q, A q → s.heap.size ≤ q) : ∀ (n i : Nat) (S : SX) (M : tX12), R S M → i ≤ L + 6 → L + 12 ≤ n + i → ∀ (H : Heap) (locs : List Loc), PD D A (wL cy AD AM S M) H → va_S A s.heap H locs → ∀ ls : Array Slot, lv_has ls 4 [(0, .ref b), (1, .ref (AD 0 0)), (2, .ref (AM 0)), (3, .int (nI i))] → W p l e room_1 s m #[Value.ref b] below meth c H locs 135 9985 (lw_Z below #[Value.ref b] s) (F0 m 18 ls []) := by
  intro n
  induction n with
  | zero => intro i S M hR hi hn; exact absurd hn (by omega)
  | succ n ih =>
    intro i S M hR hi hn H locs hP hS ls hl
    have hx := C0.1.1
    have hb := C0.1.2.1
    have hr := C0.2.1
    have hlocks := C0.2.2.1
    have hL := C0.2.2.2.1
    have hXX := C0.2.2.2.2.2
    have hf : 135 + 0 ≤ room_1.cells ∧ 9985 + 0 ≤ room_1.slots := ⟨Nat.le_of_ble_eq_true rfl, Nat.le_of_ble_eq_true rfl⟩
    refine lv_iload_n hx hb dL_law_18 rfl (lv_at hl 3 rfl) ?_
    refine lv_aload_n hx hb dL_law_19 rfl (lv_at hl 0 rfl) ?_
    refine va_slen hx hb hXX.1 hXX.2.1 hXX.2.2 hS dL_law_20 ?_
    refine lv_bipush (v := 6) hx hb dL_law_21 (by decide) ?_
    refine lv_isub hx hb dL_law_23 ?_
    refine lv_icmp_gt (tgt := 1985) hx hb dL_law_24 (by decide) (fun hc => ?_) (fun hc => ?_)
    · refine lv_iconst (v := 1) hx hb dL_law_1985 (by decide) ?_
      refine va_forget (fun q hq => hA _ (hS.2.2 q hq)) ?_
      refine W.widen (k := 600000) (n := 7302250) (Nat.le_of_ble_eq_true rfl) (Nat.le_of_ble_eq_true rfl) ?_
      exact lw_ret hx hb hr hlocks dL_law_1986
    · have hi6 : i + 6 ≤ L := by
        have h9 : ¬ L < i + 6 := fun q => hc ((law_cmp hL (by omega)).mpr q)
        omega
      refine lv_aload_n hx hb dL_law_27 rfl (lv_at hl 0 rfl) ?_
      refine lv_iload_n hx hb dL_law_28 rfl (lv_at hl 3 rfl) ?_
      refine xsld hx hb hXX hS (k := i) rfl ⟨by omega, hL⟩ dL_law_29 ?_
      refine lv_bipush (v := 63) hx hb dL_law_30 (by decide) ?_
      refine lv_iand hx hb dL_law_32 ?_
      refine lv_topi (fun w ew => ?_)
      have kk : ∀ (S1 : SX) (M1 : tX12), R S1 M1 → ∀ (H1 : Heap) (locs1 : List Loc), PD D A (wL cy AD AM S1 M1) H1 → va_S A s.heap H1 locs1 → ∀ ls1 : Array Slot, lv_has ls1 4 [(0, .ref b), (1, .ref (AD 0 0)), (2, .ref (AM 0)), (3, .int (nI i))] → W p l e room_1 s m #[Value.ref b] below meth c H1 locs1 135 9985 (lw_Z below #[Value.ref b] s) (F0 m 1979 ls1 []) := by
        intro S1 M1 hR1 H1 l1 hP1 hS1 ls1 hl1
        refine lv_iinc (v := nI (i + 6)) (lv' := [(3, .int (nI (i + 6))), (0, .ref b), (1, .ref (AD 0 0)), (2, .ref (AM 0))]) hx hb dL_law_1979 hl1 (k := 3) rfl (nI_add i 6) (by decide) rfl (fun ls2 hl2 => ?_)
        refine lv_goto (tgt := 18) hx hb dL_law_1982 (by decide) ?_
        exact ih (i + 6) S1 M1 hR1 (by omega) (by omega) H1 l1 hP1 hS1 ls2 (lv_sub hl2 [1, 2, 3, 0] rfl)
      by_cases c0 : w = 0
      · refine lv_tableIn (tgt := 264) hx hb dL_law_33 (by rw [c0]; decide) (by rw [c0]; decide) (by rw [c0]; rfl) (by decide) ?_
        exact law_status hQ.1 C0 hX hE hi6 hR hP hS hl hf kk
      by_cases c1 : w = 1
      · refine lv_tableIn (tgt := 277) hx hb dL_law_33 (by rw [c1]; decide) (by rw [c1]; decide) (by rw [c1]; rfl) (by decide) ?_
        exact law_top hQ.2.1 C0 hX hE hi6 hR hP hS hl hf kk
      by_cases c2 : w = 2
      · refine lv_tableIn (tgt := 291) hx hb dL_law_33 (by rw [c2]; decide) (by rw [c2]; decide) (by rw [c2]; rfl) (by decide) ?_
        exact law_bottom hQ.2.2.1 C0 hX hE hi6 hR hP hS hl hf kk
      by_cases c3 : w = 3
      · refine lv_tableIn (tgt := 305) hx hb dL_law_33 (by rw [c3]; decide) (by rw [c3]; decide) (by rw [c3]; rfl) (by decide) ?_
        exact law_tray hQ.2.2.2.1 C0 hX hE hi6 hR hP hS hl hf kk
      by_cases c4 : w = 4
      · refine lv_tableIn (tgt := 348) hx hb dL_law_33 (by rw [c4]; decide) (by rw [c4]; decide) (by rw [c4]; rfl) (by decide) ?_
        exact law_write hQ.2.2.2.2.1 C0 hX hE hi6 hR hP hS hl hf kk
      by_cases c5 : w = 5
      · refine lv_tableIn (tgt := 421) hx hb dL_law_33 (by rw [c5]; decide) (by rw [c5]; decide) (by rw [c5]; rfl) (by decide) ?_
        exact law_read hQ.2.2.2.2.2.1 C0 hX hE hi6 hR hP hS hl hf kk
      by_cases c6 : w = 6
      · refine lv_tableIn (tgt := 455) hx hb dL_law_33 (by rw [c6]; decide) (by rw [c6]; decide) (by rw [c6]; rfl) (by decide) ?_
        exact law_pour hQ.2.2.2.2.2.2.1 C0 hX hE hi6 hR hP hS hl hf kk
      by_cases c7 : w = 7
      · refine lv_tableIn (tgt := 518) hx hb dL_law_33 (by rw [c7]; decide) (by rw [c7]; decide) (by rw [c7]; rfl) (by decide) ?_
        exact law_feed hQ.2.2.2.2.2.2.2.1 C0 hX hE hi6 hR hP hS hl hf kk
      by_cases c8 : w = 8
      · refine lv_tableIn (tgt := 581) hx hb dL_law_33 (by rw [c8]; decide) (by rw [c8]; decide) (by rw [c8]; rfl) (by decide) ?_
        exact law_army hQ.2.2.2.2.2.2.2.2.1 C0 hX hE hi6 hR hP hS hl hf kk
      by_cases c9 : w = 9
      · refine lv_tableIn (tgt := 604) hx hb dL_law_33 (by rw [c9]; decide) (by rw [c9]; decide) (by rw [c9]; rfl) (by decide) ?_
        exact law_war hQ.2.2.2.2.2.2.2.2.2.1 C0 hX hE hi6 hR hP hS hl hf kk
      by_cases c10 : w = 10
      · refine lv_tableIn (tgt := 627) hx hb dL_law_33 (by rw [c10]; decide) (by rw [c10]; decide) (by rw [c10]; rfl) (by decide) ?_
        exact law_fault hQ.2.2.2.2.2.2.2.2.2.2.1 C0 hX hE hi6 hR hP hS hl hf kk
      by_cases c11 : w = 11
      · refine lv_tableIn (tgt := 650) hx hb dL_law_33 (by rw [c11]; decide) (by rw [c11]; decide) (by rw [c11]; rfl) (by decide) ?_
        exact law_told hQ.2.2.2.2.2.2.2.2.2.2.2.1 C0 hX hE hi6 hR hP hS hl hf kk
      by_cases c12 : w = 12
      · refine lv_tableIn (tgt := 673) hx hb dL_law_33 (by rw [c12]; decide) (by rw [c12]; decide) (by rw [c12]; rfl) (by decide) ?_
        exact law_man hQ.2.2.2.2.2.2.2.2.2.2.2.2.1 C0 hX hE hi6 hR hP hS hl hf kk
      by_cases c13 : w = 13
      · refine lv_tableIn (tgt := 706) hx hb dL_law_33 (by rw [c13]; decide) (by rw [c13]; decide) (by rw [c13]; rfl) (by decide) ?_
        exact law_likes hQ.2.2.2.2.2.2.2.2.2.2.2.2.2.1 C0 hX hE hi6 hR hP hS hl hf kk
      by_cases c14 : w = 14
      · refine lv_tableIn (tgt := 739) hx hb dL_law_33 (by rw [c14]; decide) (by rw [c14]; decide) (by rw [c14]; rfl) (by decide) ?_
        exact law_face hQ.2.2.2.2.2.2.2.2.2.2.2.2.2.2.1 C0 hX hE hi6 hR hP hS hl hf kk
      by_cases c15 : w = 15
      · refine lv_tableIn (tgt := 772) hx hb dL_law_33 (by rw [c15]; decide) (by rw [c15]; decide) (by rw [c15]; rfl) (by decide) ?_
        exact law_give hQ.2.2.2.2.2.2.2.2.2.2.2.2.2.2.2.1 C0 hX hE hi6 hR hP hS hl hf kk
      by_cases c16 : w = 16
      · refine lv_tableIn (tgt := 805) hx hb dL_law_33 (by rw [c16]; decide) (by rw [c16]; decide) (by rw [c16]; rfl) (by decide) ?_
        exact law_lose hQ.2.2.2.2.2.2.2.2.2.2.2.2.2.2.2.2.1 C0 hX hE hi6 hR hP hS hl hf kk
      by_cases c17 : w = 17
      · refine lv_tableIn (tgt := 828) hx hb dL_law_33 (by rw [c17]; decide) (by rw [c17]; decide) (by rw [c17]; rfl) (by decide) ?_
        exact law_fall hQ.2.2.2.2.2.2.2.2.2.2.2.2.2.2.2.2.2.1 C0 hX hE hi6 hR hP hS hl hf kk
      by_cases c18 : w = 18
      · refine lv_tableIn (tgt := 851) hx hb dL_law_33 (by rw [c18]; decide) (by rw [c18]; decide) (by rw [c18]; rfl) (by decide) ?_
        exact law_enlist hQ.2.2.2.2.2.2.2.2.2.2.2.2.2.2.2.2.2.2.1 C0 hX hE hi6 hR hP hS hl hf kk
      by_cases c19 : w = 19
      · refine lv_tableIn (tgt := 884) hx hb dL_law_33 (by rw [c19]; decide) (by rw [c19]; decide) (by rw [c19]; rfl) (by decide) ?_
        exact law_train hQ.2.2.2.2.2.2.2.2.2.2.2.2.2.2.2.2.2.2.2.1 C0 hX hE hi6 hR hP hS hl hf kk
      by_cases c20 : w = 20
      · refine lv_tableIn (tgt := 917) hx hb dL_law_33 (by rw [c20]; decide) (by rw [c20]; decide) (by rw [c20]; rfl) (by decide) ?_
        exact law_weigh hQ.2.2.2.2.2.2.2.2.2.2.2.2.2.2.2.2.2.2.2.2.1 C0 hX hE hi6 hR hP hS hl hf kk
      by_cases c21 : w = 21
      · refine lv_tableIn (tgt := 950) hx hb dL_law_33 (by rw [c21]; decide) (by rw [c21]; decide) (by rw [c21]; rfl) (by decide) ?_
        exact law_charm hQ.2.2.2.2.2.2.2.2.2.2.2.2.2.2.2.2.2.2.2.2.2.1 C0 hX hE hi6 hR hP hS hl hf kk
      by_cases c22 : w = 22
      · refine lv_tableIn (tgt := 993) hx hb dL_law_33 (by rw [c22]; decide) (by rw [c22]; decide) (by rw [c22]; rfl) (by decide) ?_
        exact law_rule hQ.2.2.2.2.2.2.2.2.2.2.2.2.2.2.2.2.2.2.2.2.2.2.1 C0 hX hE hi6 hR hP hS hl hf kk
      by_cases c23 : w = 23
      · refine lv_tableIn (tgt := 1026) hx hb dL_law_33 (by rw [c23]; decide) (by rw [c23]; decide) (by rw [c23]; rfl) (by decide) ?_
        exact law_brave hQ.2.2.2.2.2.2.2.2.2.2.2.2.2.2.2.2.2.2.2.2.2.2.2.1 C0 hX hE hi6 hR hP hS hl hf kk
      by_cases c24 : w = 24
      · refine lv_tableIn (tgt := 1049) hx hb dL_law_33 (by rw [c24]; decide) (by rw [c24]; decide) (by rw [c24]; rfl) (by decide) ?_
        exact law_limit hQ.2.2.2.2.2.2.2.2.2.2.2.2.2.2.2.2.2.2.2.2.2.2.2.2.1 C0 hX hE hi6 hR hP hS hl hf kk
      by_cases c25 : w = 25
      · refine lv_tableIn (tgt := 1072) hx hb dL_law_33 (by rw [c25]; decide) (by rw [c25]; decide) (by rw [c25]; rfl) (by decide) ?_
        exact law_candidates hQ.2.2.2.2.2.2.2.2.2.2.2.2.2.2.2.2.2.2.2.2.2.2.2.2.2.1 C0 hX hE hi6 hR hP hS hl hf kk
      by_cases c26 : w = 26
      · refine lv_tableIn (tgt := 1105) hx hb dL_law_33 (by rw [c26]; decide) (by rw [c26]; decide) (by rw [c26]; rfl) (by decide) ?_
        exact law_voteOf hQ.2.2.2.2.2.2.2.2.2.2.2.2.2.2.2.2.2.2.2.2.2.2.2.2.2.2.1 C0 hX hE hi6 hR hP hS hl hf kk
      by_cases c27 : w = 27
      · refine lv_tableIn (tgt := 1148) hx hb dL_law_33 (by rw [c27]; decide) (by rw [c27]; decide) (by rw [c27]; rfl) (by decide) ?_
        exact law_votes hQ.2.2.2.2.2.2.2.2.2.2.2.2.2.2.2.2.2.2.2.2.2.2.2.2.2.2.2.1 C0 hX hE hi6 hR hP hS hl hf kk
      by_cases c28 : w = 28
      · refine lv_tableIn (tgt := 1191) hx hb dL_law_33 (by rw [c28]; decide) (by rw [c28]; decide) (by rw [c28]; rfl) (by decide) ?_
        exact law_goesTo hQ.2.2.2.2.2.2.2.2.2.2.2.2.2.2.2.2.2.2.2.2.2.2.2.2.2.2.2.2.1 C0 hX hE hi6 hR hP hS hl hf kk
      by_cases c29 : w = 29
      · refine lv_tableIn (tgt := 1224) hx hb dL_law_33 (by rw [c29]; decide) (by rw [c29]; decide) (by rw [c29]; rfl) (by decide) ?_
        exact law_carries hQ.2.2.2.2.2.2.2.2.2.2.2.2.2.2.2.2.2.2.2.2.2.2.2.2.2.2.2.2.2.1 C0 hX hE hi6 hR hP hS hl hf kk
      by_cases c30 : w = 30
      · refine lv_tableIn (tgt := 1247) hx hb dL_law_33 (by rw [c30]; decide) (by rw [c30]; decide) (by rw [c30]; rfl) (by decide) ?_
        exact law_fewest hQ.2.2.2.2.2.2.2.2.2.2.2.2.2.2.2.2.2.2.2.2.2.2.2.2.2.2.2.2.2.2.1 C0 hX hE hi6 hR hP hS hl hf kk
      by_cases c31 : w = 31
      · refine lv_tableIn (tgt := 1260) hx hb dL_law_33 (by rw [c31]; decide) (by rw [c31]; decide) (by rw [c31]; rfl) (by decide) ?_
        exact law_fewestSet hQ.2.2.2.2.2.2.2.2.2.2.2.2.2.2.2.2.2.2.2.2.2.2.2.2.2.2.2.2.2.2.2.1 C0 hX hE hi6 hR hP hS hl hf kk
      by_cases c32 : w = 32
      · refine lv_tableIn (tgt := 1273) hx hb dL_law_33 (by rw [c32]; decide) (by rw [c32]; decide) (by rw [c32]; rfl) (by decide) ?_
        exact law_power hQ.2.2.2.2.2.2.2.2.2.2.2.2.2.2.2.2.2.2.2.2.2.2.2.2.2.2.2.2.2.2.2.2.1 C0 hX hE hi6 hR hP hS hl hf kk
      by_cases c33 : w = 33
      · refine lv_tableIn (tgt := 1296) hx hb dL_law_33 (by rw [c33]; decide) (by rw [c33]; decide) (by rw [c33]; rfl) (by decide) ?_
        exact law_mightiest hQ.2.2.2.2.2.2.2.2.2.2.2.2.2.2.2.2.2.2.2.2.2.2.2.2.2.2.2.2.2.2.2.2.2.1 C0 hX hE hi6 hR hP hS hl hf kk
      by_cases c34 : w = 34
      · refine lv_tableIn (tgt := 1309) hx hb dL_law_33 (by rw [c34]; decide) (by rw [c34]; decide) (by rw [c34]; rfl) (by decide) ?_
        exact law_veto hQ.2.2.2.2.2.2.2.2.2.2.2.2.2.2.2.2.2.2.2.2.2.2.2.2.2.2.2.2.2.2.2.2.2.2.1 C0 hX hE hi6 hR hP hS hl hf kk
      by_cases c35 : w = 35
      · refine lv_tableIn (tgt := 1332) hx hb dL_law_33 (by rw [c35]; decide) (by rw [c35]; decide) (by rw [c35]; rfl) (by decide) ?_
        exact law_most hQ.2.2.2.2.2.2.2.2.2.2.2.2.2.2.2.2.2.2.2.2.2.2.2.2.2.2.2.2.2.2.2.2.2.2.2.1 C0 hX hE hi6 hR hP hS hl hf kk
      by_cases c36 : w = 36
      · refine lv_tableIn (tgt := 1375) hx hb dL_law_33 (by rw [c36]; decide) (by rw [c36]; decide) (by rw [c36]; rfl) (by decide) ?_
        exact law_facesAt hQ.2.2.2.2.2.2.2.2.2.2.2.2.2.2.2.2.2.2.2.2.2.2.2.2.2.2.2.2.2.2.2.2.2.2.2.2.1 C0 hX hE hi6 hR hP hS hl hf kk
      by_cases c37 : w = 37
      · refine lv_tableIn (tgt := 1428) hx hb dL_law_33 (by rw [c37]; decide) (by rw [c37]; decide) (by rw [c37]; rfl) (by decide) ?_
        exact law_seen hQ.2.2.2.2.2.2.2.2.2.2.2.2.2.2.2.2.2.2.2.2.2.2.2.2.2.2.2.2.2.2.2.2.2.2.2.2.2.1 C0 hX hE hi6 hR hP hS hl hf kk
      by_cases c38 : w = 38
      · refine lv_tableIn (tgt := 1471) hx hb dL_law_33 (by rw [c38]; decide) (by rw [c38]; decide) (by rw [c38]; rfl) (by decide) ?_
        exact law_seenAt hQ.2.2.2.2.2.2.2.2.2.2.2.2.2.2.2.2.2.2.2.2.2.2.2.2.2.2.2.2.2.2.2.2.2.2.2.2.2.2.1 C0 hX hE hi6 hR hP hS hl hf kk
      by_cases c39 : w = 39
      · refine lv_tableIn (tgt := 1524) hx hb dL_law_33 (by rw [c39]; decide) (by rw [c39]; decide) (by rw [c39]; rfl) (by decide) ?_
        exact law_ask hQ.2.2.2.2.2.2.2.2.2.2.2.2.2.2.2.2.2.2.2.2.2.2.2.2.2.2.2.2.2.2.2.2.2.2.2.2.2.2.2.1 C0 hX hE hi6 hR hP hS hl hf kk
      by_cases c40 : w = 40
      · refine lv_tableIn (tgt := 1567) hx hb dL_law_33 (by rw [c40]; decide) (by rw [c40]; decide) (by rw [c40]; rfl) (by decide) ?_
        exact law_couples hQ.2.2.2.2.2.2.2.2.2.2.2.2.2.2.2.2.2.2.2.2.2.2.2.2.2.2.2.2.2.2.2.2.2.2.2.2.2.2.2.2.1 C0 hX hE hi6 hR hP hS hl hf kk
      by_cases c41 : w = 41
      · refine lv_tableIn (tgt := 1590) hx hb dL_law_33 (by rw [c41]; decide) (by rw [c41]; decide) (by rw [c41]; rfl) (by decide) ?_
        exact law_fondness hQ.2.2.2.2.2.2.2.2.2.2.2.2.2.2.2.2.2.2.2.2.2.2.2.2.2.2.2.2.2.2.2.2.2.2.2.2.2.2.2.2.2.1 C0 hX hE hi6 hR hP hS hl hf kk
      by_cases c42 : w = 42
      · refine lv_tableIn (tgt := 1613) hx hb dL_law_33 (by rw [c42]; decide) (by rw [c42]; decide) (by rw [c42]; rfl) (by decide) ?_
        exact law_partner hQ.2.2.2.2.2.2.2.2.2.2.2.2.2.2.2.2.2.2.2.2.2.2.2.2.2.2.2.2.2.2.2.2.2.2.2.2.2.2.2.2.2.2.1 C0 hX hE hi6 hR hP hS hl hf kk
      by_cases c43 : w = 43
      · refine lv_tableIn (tgt := 1646) hx hb dL_law_33 (by rw [c43]; decide) (by rw [c43]; decide) (by rw [c43]; rfl) (by decide) ?_
        exact law_game hQ.2.2.2.2.2.2.2.2.2.2.2.2.2.2.2.2.2.2.2.2.2.2.2.2.2.2.2.2.2.2.2.2.2.2.2.2.2.2.2.2.2.2.2.1 C0 hX hE hi6 hR hP hS hl hf kk
      by_cases c44 : w = 44
      · refine lv_tableIn (tgt := 1699) hx hb dL_law_33 (by rw [c44]; decide) (by rw [c44]; decide) (by rw [c44]; rfl) (by decide) ?_
        exact law_moveOf hQ.2.2.2.2.2.2.2.2.2.2.2.2.2.2.2.2.2.2.2.2.2.2.2.2.2.2.2.2.2.2.2.2.2.2.2.2.2.2.2.2.2.2.2.2.1 C0 hX hE hi6 hR hP hS hl hf kk
      by_cases c45 : w = 45
      · refine lv_tableIn (tgt := 1752) hx hb dL_law_33 (by rw [c45]; decide) (by rw [c45]; decide) (by rw [c45]; rfl) (by decide) ?_
        exact law_chance hQ.2.2.2.2.2.2.2.2.2.2.2.2.2.2.2.2.2.2.2.2.2.2.2.2.2.2.2.2.2.2.2.2.2.2.2.2.2.2.2.2.2.2.2.2.2.1 C0 hX hE hi6 hR hP hS hl hf kk
      by_cases c46 : w = 46
      · refine lv_tableIn (tgt := 1795) hx hb dL_law_33 (by rw [c46]; decide) (by rw [c46]; decide) (by rw [c46]; rfl) (by decide) ?_
        exact law_luck hQ.2.2.2.2.2.2.2.2.2.2.2.2.2.2.2.2.2.2.2.2.2.2.2.2.2.2.2.2.2.2.2.2.2.2.2.2.2.2.2.2.2.2.2.2.2.2.1 C0 hX hE hi6 hR hP hS hl hf kk
      by_cases c47 : w = 47
      · refine lv_tableIn (tgt := 1828) hx hb dL_law_33 (by rw [c47]; decide) (by rw [c47]; decide) (by rw [c47]; rfl) (by decide) ?_
        exact law_hopeful hQ.2.2.2.2.2.2.2.2.2.2.2.2.2.2.2.2.2.2.2.2.2.2.2.2.2.2.2.2.2.2.2.2.2.2.2.2.2.2.2.2.2.2.2.2.2.2.2.1 C0 hX hE hi6 hR hP hS hl hf kk
      by_cases c48 : w = 48
      · refine lv_tableIn (tgt := 1841) hx hb dL_law_33 (by rw [c48]; decide) (by rw [c48]; decide) (by rw [c48]; rfl) (by decide) ?_
        exact law_copyMedals hQ.2.2.2.2.2.2.2.2.2.2.2.2.2.2.2.2.2.2.2.2.2.2.2.2.2.2.2.2.2.2.2.2.2.2.2.2.2.2.2.2.2.2.2.2.2.2.2.2.1 C0 hX hE hi6 hR hP hS hl hf kk
      by_cases c49 : w = 49
      · refine lv_tableIn (tgt := 1864) hx hb dL_law_33 (by rw [c49]; decide) (by rw [c49]; decide) (by rw [c49]; rfl) (by decide) ?_
        exact law_live hQ.2.2.2.2.2.2.2.2.2.2.2.2.2.2.2.2.2.2.2.2.2.2.2.2.2.2.2.2.2.2.2.2.2.2.2.2.2.2.2.2.2.2.2.2.2.2.2.2.2.1 C0 hX hE hi6 hR hP hS hl hf kk
      by_cases c50 : w = 50
      · refine lv_tableIn (tgt := 1887) hx hb dL_law_33 (by rw [c50]; decide) (by rw [c50]; decide) (by rw [c50]; rfl) (by decide) ?_
        exact law_lived hQ.2.2.2.2.2.2.2.2.2.2.2.2.2.2.2.2.2.2.2.2.2.2.2.2.2.2.2.2.2.2.2.2.2.2.2.2.2.2.2.2.2.2.2.2.2.2.2.2.2.2.1 C0 hX hE hi6 hR hP hS hl hf kk
      by_cases c51 : w = 51
      · refine lv_tableIn (tgt := 1910) hx hb dL_law_33 (by rw [c51]; decide) (by rw [c51]; decide) (by rw [c51]; rfl) (by decide) ?_
        exact law_mean hQ.2.2.2.2.2.2.2.2.2.2.2.2.2.2.2.2.2.2.2.2.2.2.2.2.2.2.2.2.2.2.2.2.2.2.2.2.2.2.2.2.2.2.2.2.2.2.2.2.2.2.2.1 C0 hX hE hi6 hR hP hS hl hf kk
      by_cases c52 : w = 52
      · refine lv_tableIn (tgt := 1953) hx hb dL_law_33 (by rw [c52]; decide) (by rw [c52]; decide) (by rw [c52]; rfl) (by decide) ?_
        exact law_mark hQ.2.2.2.2.2.2.2.2.2.2.2.2.2.2.2.2.2.2.2.2.2.2.2.2.2.2.2.2.2.2.2.2.2.2.2.2.2.2.2.2.2.2.2.2.2.2.2.2.2.2.2.2.1 C0 hX hE hi6 hR hP hS hl hf kk
      by_cases c53 : w = 53
      · refine lv_tableIn (tgt := 1966) hx hb dL_law_33 (by rw [c53]; decide) (by rw [c53]; decide) (by rw [c53]; rfl) (by decide) ?_
        exact law_undo hQ.2.2.2.2.2.2.2.2.2.2.2.2.2.2.2.2.2.2.2.2.2.2.2.2.2.2.2.2.2.2.2.2.2.2.2.2.2.2.2.2.2.2.2.2.2.2.2.2.2.2.2.2.2 C0 hX hE hi6 hR hP hS hl hf kk
      refine lv_tableOut (tgt := 1979) hx hb dL_law_33 (by have n0 := lv_neT (a := 0) c0 rfl; have n1 := lv_neT (a := 1) c1 rfl; have n2 := lv_neT (a := 2) c2 rfl; have n3 := lv_neT (a := 3) c3 rfl; have n4 := lv_neT (a := 4) c4 rfl; have n5 := lv_neT (a := 5) c5 rfl; have n6 := lv_neT (a := 6) c6 rfl; have n7 := lv_neT (a := 7) c7 rfl; have n8 := lv_neT (a := 8) c8 rfl; have n9 := lv_neT (a := 9) c9 rfl; have n10 := lv_neT (a := 10) c10 rfl; have n11 := lv_neT (a := 11) c11 rfl; have n12 := lv_neT (a := 12) c12 rfl; have n13 := lv_neT (a := 13) c13 rfl; have n14 := lv_neT (a := 14) c14 rfl; have n15 := lv_neT (a := 15) c15 rfl; have n16 := lv_neT (a := 16) c16 rfl; have n17 := lv_neT (a := 17) c17 rfl; have n18 := lv_neT (a := 18) c18 rfl; have n19 := lv_neT (a := 19) c19 rfl; have n20 := lv_neT (a := 20) c20 rfl; have n21 := lv_neT (a := 21) c21 rfl; have n22 := lv_neT (a := 22) c22 rfl; have n23 := lv_neT (a := 23) c23 rfl; have n24 := lv_neT (a := 24) c24 rfl; have n25 := lv_neT (a := 25) c25 rfl; have n26 := lv_neT (a := 26) c26 rfl; have n27 := lv_neT (a := 27) c27 rfl; have n28 := lv_neT (a := 28) c28 rfl; have n29 := lv_neT (a := 29) c29 rfl; have n30 := lv_neT (a := 30) c30 rfl; have n31 := lv_neT (a := 31) c31 rfl; have n32 := lv_neT (a := 32) c32 rfl; have n33 := lv_neT (a := 33) c33 rfl; have n34 := lv_neT (a := 34) c34 rfl; have n35 := lv_neT (a := 35) c35 rfl; have n36 := lv_neT (a := 36) c36 rfl; have n37 := lv_neT (a := 37) c37 rfl; have n38 := lv_neT (a := 38) c38 rfl; have n39 := lv_neT (a := 39) c39 rfl; have n40 := lv_neT (a := 40) c40 rfl; have n41 := lv_neT (a := 41) c41 rfl; have n42 := lv_neT (a := 42) c42 rfl; have n43 := lv_neT (a := 43) c43 rfl; have n44 := lv_neT (a := 44) c44 rfl; have n45 := lv_neT (a := 45) c45 rfl; have n46 := lv_neT (a := 46) c46 rfl; have n47 := lv_neT (a := 47) c47 rfl; have n48 := lv_neT (a := 48) c48 rfl; have n49 := lv_neT (a := 49) c49 rfl; have n50 := lv_neT (a := 50) c50 rfl; have n51 := lv_neT (a := 51) c51 rfl; have n52 := lv_neT (a := 52) c52 rfl; have n53 := lv_neT (a := 53) c53 rfl; omega) (by decide) ?_
      exact kk S M hR H locs hP hS ls hl
end LAWLOOP

def lw_nm : List (String × Nat × MethodName × String) := [("MedalBoard", 28, ⟨"MedalBoard$Army", "<init>", "()V"⟩, "MedalBoard"), ("MedalBoard", 35, ⟨"MedalBoard$War", "<init>", "()V"⟩, "MedalBoard"), ("MedalBoard", 48, ⟨"MedalBoard$Reader", "<init>", "()V"⟩, "MedalBoard"), ("MedalBoard", 96, ⟨"MedalBoard$Foresight", "<init>", "()V"⟩, "MedalBoard"), ("MedalBoard$Foresight", 11, ⟨"MedalBoard$Army", "<init>", "()V"⟩, "MedalBoard"), ("MedalBoard", 110, ⟨"MedalBoard$Tray", "<init>", "()V"⟩, "MedalBoard"), ("MedalBoard$Reader", 51, ⟨"MedalBoard", "within", "(III)Z"⟩, "MedalBoard"), ("MedalBoard$Army", 71, ⟨"MedalBoard", "within", "(III)Z"⟩, "MedalBoard"), ("MedalBoard$WarReader", 71, ⟨"MedalBoard", "within", "(III)Z"⟩, "MedalBoard"), ("MedalBoard$War", 47, ⟨"MedalBoard", "within", "(III)Z"⟩, "MedalBoard"), ("MedalBoard$Council", 25, ⟨"MedalBoard", "within", "(III)Z"⟩, "MedalBoard"), ("MedalBoard$Foresight", 72, ⟨"MedalBoard", "firstOf", "(I)I"⟩, "MedalBoard"), ("MedalBoard$Campaign", 59, ⟨"MedalBoard", "within", "(III)Z"⟩, "MedalBoard")]
/-! what every method's walk rests on: words, context, contracts, calls -/
def WW (y : MethodName) (b : ByteArray) (n : Nat) (r : Option FieldType) : List Cond := .code y b n r :: lw_gd
theorem gdIn {y : MethodName} {b : ByteArray} {n : Nat} {r : Option FieldType} (h : Cond.code y b n r ∈ lw_gd) : GoodIn lw_gd (WW y b n r) := by
  intro w hw
  have hg : w ∈ lw_gd := (List.mem_cons.mp hw).elim (fun e => e ▸ h) id
  exact ⟨hg, good_of_word (List.mem_filter.mp hg).2⟩
abbrev tyz (cy : Nat → ClassId) : List (ClassId × FieldType) := [(cy 0, .int), (cy 1, .long), (cy 2, .byte), (cy 3, .object "MedalBoard$Army"), (cy 4, .object "MedalBoard$Tray"), (cy 5, .object "MedalBoard$War")]
def NS (U : State) : Prop := ∀ q ∈ lw_nm, va_Nw (.methodLinkNest q.1 q.2.1 q.2.2.1 q.2.2.2) U
def CX (D : va_G) (cy : Nat → ClassId) (U : State) : Prop := va_K D vwCl (tyz cy) U ∧ NS U
theorem CX.warm {D : va_G} {cy : Nat → ClassId} {s U : State} (h : CX D cy s) (hW : s.WarmedH U.vm) : CX D cy U := ⟨va_K.moved hW.alike h.1, fun q hq => va_Nw.warmM hW (h.2 q hq)⟩
theorem CX.blind {D : va_G} {cy : Nat → ClassId} {U : State} {g : JFrame} {mk : MethodId} {a : Array Value} (h : CX D cy U) : CX D cy (U.calling g mk a) := ⟨va_K.moved (u := U) (Vm.Alike.refl U.vm) h.1, fun q hq => va_Nw.same (u := U) rfl rfl (h.2 q hq)⟩
/-- a world by blocks: its cells; and that they are apart -/
abbrev PB (D : va_G) (bs : List va_W) (H : Heap) : Prop := va_P D vwCl bs.flatten H
def PD (D : va_G) (A : Nat → Prop) (bs : List va_W) (H : Heap) : Prop := va_P D vwCl bs.flatten H ∧ va_D A bs.flatten
/-- the start of a method that writes nothing; of one that writes -/
abbrev Rd (D : va_G) (cy : Nat → ClassId) (av : List Value) (wc : List va_W) : Array Value → State → Prop := va_Pc av (fun U => PB D wc U.heap ∧ CX D cy U)
abbrev Ed (D : va_G) (cy : Nat → ClassId) (av : List Value) (wc : List va_W) : Array Value → State → Prop := va_Pc av (fun U => PB D wc U.heap ∧ CX D cy U ∧ va_D (fun _ => True) wc.flatten)
theorem Rd.blind {D : va_G} {cy : Nat → ClassId} {av : List Value} {wc : List va_W} : FrameBlind (Rd D cy av wc) := fun _ _ _ _ q => ⟨q.1, q.2.1, q.2.2.blind⟩
theorem Ed.blind {D : va_G} {cy : Nat → ClassId} {av : List Value} {wc : List va_W} : FrameBlind (Ed D cy av wc) := fun _ _ _ _ q => ⟨q.1, q.2.1, q.2.2.1.blind, q.2.2.2⟩
def adr (wc : List va_W) : Nat → Prop := fun q => ∃ (k : Nat) (e : va_E), wc.flatten[k]? = some (q, e)
theorem va_D.own {A : Nat → Prop} {wc : List va_W} (h : va_D A wc.flatten) : va_D (adr wc) wc.flatten := ⟨h.1, fun k q hk => ⟨k, q.2, hk⟩⟩
theorem va_D.re {A : Nat → Prop} {ws ws' : va_W} (h : va_D A ws) (e : ws.map (fun q => q.1) = ws'.map (fun q => q.1)) : va_D A ws' := by
  have key : ∀ (k : Nat) (q : Nat × va_E), ws'[k]? = some q → ∃ q0, ws[k]? = some q0 ∧ q0.1 = q.1 := by
    intro k q hk
    have h1 : (ws.map (fun q => q.1))[k]? = some q.1 := by rw [e, List.getElem?_map, hk]; rfl
    rw [List.getElem?_map] at h1
    cases h2 : ws[k]? with
    | none => rw [h2] at h1; cases h1
    | some q0 => rw [h2] at h1; exact ⟨q0, rfl, Option.some.inj h1⟩
  refine ⟨fun i j x y hi hj hxy => ?_, fun k q hk => ?_⟩
  · obtain ⟨x0, a1, b1⟩ := key i x hi
    obtain ⟨y0, a2, b2⟩ := key j y hj
    exact h.1 i j x0 y0 a1 a2 (b1.trans (hxy.trans b2.symm))
  · obtain ⟨q0, a1, b1⟩ := key k q hk
    rw [← b1]; exact h.2 k q0 a1
/-- a cell of a block has a place among all -/
theorem fl_get : ∀ {bs : List va_W} {i j : Nat} {b : va_W} {x : Nat × va_E}, bs[i]? = some b → b[j]? = some x → ∃ q, bs.flatten[q]? = some x ∧ ∀ y, bs.flatten.set q y = (bs.set i (b.set j y)).flatten
  | [], i, j, b, x, h, _ => by simp at h
  | b0 :: bs, 0, j, b, x, h, h2 => by
    have e : b0 = b := by simpa using h
    subst e
    have hl : j < b0.length := (List.getElem?_eq_some_iff.mp h2).1
    refine ⟨j, ?_, fun y => ?_⟩
    · rw [List.flatten_cons, List.getElem?_append_left hl]; exact h2
    · rw [List.flatten_cons, List.set_append_left _ _ hl]; simp
  | b0 :: bs, i + 1, j, b, x, h, h2 => by
    obtain ⟨q, h3, h4⟩ := fl_get (bs := bs) (i := i) (by simpa using h) h2
    refine ⟨b0.length + q, ?_, fun y => ?_⟩
    · rw [List.flatten_cons, List.getElem?_append_right (Nat.le_add_right _ _), Nat.add_sub_cancel_left]; exact h3
    · rw [List.flatten_cons, List.set_append_right _ _ (Nat.le_add_right _ _), Nat.add_sub_cancel_left, h4 y]; simp
theorem fl_at : ∀ {bs : List va_W} {i j : Nat} {b : va_W} {x : Nat × va_E}, bs[i]? = some b → b[j]? = some x → bs.flatten[(bs.take i).flatten.length + j]? = some x
  | [], i, j, b, x, h, _ => by simp at h
  | b0 :: bs, 0, j, b, x, h, h2 => by
    have e : b0 = b := by simpa using h
    subst e
    have hl : j < b0.length := (List.getElem?_eq_some_iff.mp h2).1
    simp only [List.take_zero, List.flatten_nil, List.length_nil, Nat.zero_add]
    rw [List.flatten_cons, List.getElem?_append_left hl]; exact h2
  | b0 :: bs, i + 1, j, b, x, h, h2 => by
    have h3 := fl_at (bs := bs) (i := i) (by simpa using h) h2
    simp only [List.take_succ_cons, List.flatten_cons, List.length_append]
    rw [List.getElem?_append_right (by omega)]
    rw [show b0.length + (bs.take i).flatten.length + j - b0.length = (bs.take i).flatten.length + j by omega]
    exact h3
theorem fl_lt : ∀ {bs : List va_W} {i k : Nat} {b : va_W}, bs[i]? = some b → i < k → (bs.take i).flatten.length + b.length ≤ (bs.take k).flatten.length
  | [], i, k, b, h, _ => by simp at h
  | b0 :: bs, 0, k + 1, b, h, _ => by
    have e : b0 = b := by simpa using h
    subst e
    simp
  | b0 :: bs, i + 1, k + 1, b, h, hk => by
    have h3 := fl_lt (bs := bs) (i := i) (k := k) (by simpa using h) (by omega)
    simp only [List.take_succ_cons, List.flatten_cons, List.length_append]
    omega
theorem fl_mem {bs : List va_W} {k : Nat} {x : Nat × va_E} (h : bs.flatten[k]? = some x) : ∃ (i j : Nat) (b : va_W), bs[i]? = some b ∧ b[j]? = some x := by
  obtain ⟨b, hb, hx⟩ := List.mem_flatten.mp (List.mem_of_getElem? h)
  obtain ⟨i, hi⟩ := List.getElem?_of_mem hb
  obtain ⟨j, hj⟩ := List.getElem?_of_mem hx
  exact ⟨i, j, b, hi, hj⟩
/-- the callee's blocks come back into their places -/
def patch {α : Type} : List α → List Nat → List α → List α
  | ws, i :: is, x :: xs => patch (ws.set i x) is xs
  | ws, _, _ => ws
theorem patch_get {α : Type} : ∀ (is : List Nat) (xs ws : List α) (k : Nat) (q : α), (patch ws is xs)[k]? = some q → q ∈ xs ∨ (k ∉ is ∧ ws[k]? = some q) ∨ (ws[k]? = some q ∧ xs.length < is.length)
  | [], xs, ws, k, q, h => Or.inr (Or.inl ⟨List.not_mem_nil, by cases xs <;> exact h⟩)
  | i :: is, [], ws, k, q, h => Or.inr (Or.inr ⟨h, Nat.succ_pos _⟩)
  | i :: is, x :: xs, ws, k, q, h => by
    rcases patch_get is xs (ws.set i x) k q h with h | ⟨h1, h2⟩ | ⟨h2, h3⟩
    · exact Or.inl (List.mem_cons_of_mem _ h)
    · by_cases e : k = i
      · subst e
        by_cases hl : k < ws.length
        · rw [List.getElem?_set_self hl] at h2
          exact Or.inl (by cases h2; exact List.mem_cons_self)
        · rw [List.set_eq_of_length_le (Nat.not_lt.mp hl)] at h2
          exact absurd (List.getElem?_eq_some_iff.mp h2).1 hl
      · rw [List.getElem?_set_ne (Ne.symm e)] at h2
        exact Or.inr (Or.inl ⟨fun hm => (List.mem_cons.mp hm).elim e h1, h2⟩)
    · by_cases e : k = i
      · subst e
        by_cases hl : k < ws.length
        · rw [List.getElem?_set_self hl] at h2
          exact Or.inl (by cases h2; exact List.mem_cons_self)
        · rw [List.set_eq_of_length_le (Nat.not_lt.mp hl)] at h2
          exact absurd (List.getElem?_eq_some_iff.mp h2).1 hl
      · rw [List.getElem?_set_ne (Ne.symm e)] at h2
        exact Or.inr (Or.inr ⟨h2, Nat.succ_lt_succ h3⟩)
theorem patch_map {α β : Type} (f : α → β) : ∀ (is : List Nat) (xs ws : List α), is.map (fun i => (ws.map f)[i]?) = xs.map (fun x => some (f x)) → (patch ws is xs).map f = ws.map f
  | [], xs, ws, _ => by cases xs <;> rfl
  | i :: is, [], ws, _ => rfl
  | i :: is, x :: xs, ws, h => by
    simp only [List.map_cons, List.cons.injEq] at h
    have e : (ws.set i x).map f = ws.map f := by
      rw [List.map_set]
      apply List.ext_getElem?
      intro k
      by_cases hk : k = i
      · subst hk
        have hl := (List.getElem?_eq_some_iff.mp h.1).1
        rw [List.getElem?_set_self hl, h.1]
      · rw [List.getElem?_set_ne (Ne.symm hk)]
    show (patch (ws.set i x) is xs).map f = ws.map f
    rw [patch_map f is xs (ws.set i x) (by rw [e]; exact h.2), e]
theorem patch_PD {A0 : Nat → Prop} {D : va_G} {bs wc w1 : List va_W} {H H1 : Heap} (hP : PD D A0 bs H) (isC : List Nat) (hC : isC.map (fun i => bs[i]?) = wc.map some) (ha : w1.map (fun b => b.map (fun q => q.1)) = wc.map (fun b => b.map (fun q => q.1)))
    (hk : ∀ q : Nat, q < H.size → ¬ adr wc q → H1[q]? = H[q]?) (hP1 : PB D w1 H1) : PD D A0 (patch bs isC w1) H1 := by
  obtain ⟨hP, hD⟩ := hP
  have hl : w1.length = isC.length := by
    have e1 := congrArg List.length ha
    have e2 := congrArg List.length hC
    simp at e1 e2
    omega
  constructor
  · intro k q hq
    obtain ⟨i, j, b, hi, hj⟩ := fl_mem hq
    rcases patch_get isC w1 bs i b hi with h | ⟨h1, h2⟩ | ⟨-, h3⟩
    · obtain ⟨i2, h2⟩ := List.getElem?_of_mem h
      exact hP1 _ q (fl_at h2 hj)
    · have h4 := hP _ q (fl_at h2 hj)
      refine h4.kept (hk q.1 h4.lt ?_)
      rintro ⟨k2, e, he⟩
      obtain ⟨i2, j2, b2, hi2, hj2⟩ := fl_mem he
      have h5 : (isC.map (fun i => bs[i]?))[i2]? = some (some b2) := by rw [hC, List.getElem?_map, hi2]; rfl
      rw [List.getElem?_map] at h5
      cases h6 : isC[i2]? with
      | none => rw [h6] at h5; cases h5
      | some i3 =>
        rw [h6] at h5
        have h7 : bs[i3]? = some b2 := Option.some.inj h5
        have h8 := hD.1 _ _ q (q.1, e) (fl_at h2 hj) (fl_at h7 hj2) rfl
        have hne : i ≠ i3 := fun z => h1 (by rw [z]; exact List.mem_of_getElem? h6)
        have l1 := (List.getElem?_eq_some_iff.mp hj).1
        have l2 := (List.getElem?_eq_some_iff.mp hj2).1
        rcases Nat.lt_or_gt_of_ne hne with z | z
        · have := fl_lt h2 z; omega
        · have := fl_lt h7 z; omega
    · omega
  · refine hD.re ?_
    rw [List.map_flatten, List.map_flatten, patch_map (fun b => b.map (fun q => q.1)) isC w1 bs]
    have e1 : isC.map (fun i => (bs.map (fun b => b.map (fun q => q.1)))[i]?) = (isC.map (fun i => bs[i]?)).map (fun o => o.map (fun b => b.map (fun q => q.1))) := by
      rw [List.map_map]
      apply List.map_congr_left
      intro i _
      simp
    rw [e1, hC, List.map_map]
    have e2 : w1.map (fun x => some (x.map (fun q => q.1))) = (w1.map (fun b => b.map (fun q => q.1))).map some := by rw [List.map_map]; rfl
    rw [e2, ha, List.map_map]
    rfl
theorem set_PD {A0 : Nat → Prop} {D : va_G} {bs : List va_W} {H1 : Heap} {q0 i j : Nat} {b : va_W} {y : Nat × va_E} (he : ∀ y, bs.flatten.set q0 y = (bs.set i (b.set j y)).flatten) (h1 : va_P D vwCl (bs.flatten.set q0 y) H1) (h2 : va_D A0 (bs.flatten.set q0 y)) : PD D A0 (bs.set i (b.set j y)) H1 := by
  rw [he y] at h1 h2
  exact ⟨h1, h2⟩
/-! parts of the functions -/
def rdI (f : Nat → Int32) (N : Nat) (i : Int32) : Option Int32 := if i < 0 ∨ N ≤ i.toNatClampNeg then none else some (f i.toNatClampNeg)
def rdJ (f : Nat → Int64) (N : Nat) (i : Int32) : Option Int64 := if i < 0 ∨ N ≤ i.toNatClampNeg then none else some (f i.toNatClampNeg)
def wrI (f : Nat → Int32) (N : Nat) (i x : Int32) : Option (Nat → Int32) := if i < 0 ∨ N ≤ i.toNatClampNeg then none else some (upd f i.toNatClampNeg x)
def wrJ (f : Nat → Int64) (N : Nat) (i : Int32) (x : Int64) : Option (Nat → Int64) := if i < 0 ∨ N ≤ i.toNatClampNeg then none else some (vp_updL f i.toNatClampNeg x)
def rdQ (f : Nat → Option Nat) (N : Nat) (i : Int32) : Option (Option Nat) := if i < 0 ∨ N ≤ i.toNatClampNeg then none else some (f i.toNatClampNeg)
theorem rdQ_ok {f : Nat → Option Nat} {N : Nat} {i : Int32} {v : Option Nat} (h : rdQ f N i = some v) : vp_in i N ∧ f i.toNatClampNeg = v := by
  unfold rdQ at h
  by_cases c : i < 0 ∨ N ≤ i.toNatClampNeg
  · rw [if_pos c] at h; cases h
  · rw [if_neg c] at h; exact ⟨c, Option.some.inj h⟩
def trf4 (a0 a1 a2 a3 : Nat) : Nat → Option Nat := va_up (va_up (va_up (va_up (fun _ => none) 0 (some a0)) 1 (some a1)) 2 (some a2)) 3 (some a3)
def trf3 (a0 a1 a2 : Nat) : Nat → Option Nat := va_up (va_up (va_up (fun _ => none) 0 (some a0)) 1 (some a1)) 2 (some a2)
theorem xrf_or {r : Option Nat} : va_rf r = .null ∨ ∃ a, va_rf r = .ref a := by
  cases r with
  | none => exact Or.inl rfl
  | some a => exact Or.inr ⟨a, rfl⟩
def bz (x : Int32) : Option Int32 := if x = 0 ∨ x = 1 then some x else none
def nzI (x : Int32) : Option Int32 := if x = 0 then none else some x
def nzJ (x : Int64) : Option Int64 := if x = 0 then none else some x
def bnd {α β : Type} (x : α) (f : α → β) : β := f x
theorem rdI_ok {f : Nat → Int32} {N : Nat} {i v : Int32} (h : rdI f N i = some v) : vp_in i N ∧ f i.toNatClampNeg = v := by
  unfold rdI at h
  by_cases c : i < 0 ∨ N ≤ i.toNatClampNeg
  · rw [if_pos c] at h; cases h
  · rw [if_neg c] at h; exact ⟨c, Option.some.inj h⟩
theorem rdJ_ok {f : Nat → Int64} {N : Nat} {i : Int32} {v : Int64} (h : rdJ f N i = some v) : vp_in i N ∧ f i.toNatClampNeg = v := by
  unfold rdJ at h
  by_cases c : i < 0 ∨ N ≤ i.toNatClampNeg
  · rw [if_pos c] at h; cases h
  · rw [if_neg c] at h; exact ⟨c, Option.some.inj h⟩
theorem wrI_ok {f g : Nat → Int32} {N : Nat} {i x : Int32} (h : wrI f N i x = some g) : vp_in i N ∧ upd f i.toNatClampNeg x = g := by
  unfold wrI at h
  by_cases c : i < 0 ∨ N ≤ i.toNatClampNeg
  · rw [if_pos c] at h; cases h
  · rw [if_neg c] at h; exact ⟨c, Option.some.inj h⟩
theorem wrJ_ok {f g : Nat → Int64} {N : Nat} {i : Int32} {x : Int64} (h : wrJ f N i x = some g) : vp_in i N ∧ vp_updL f i.toNatClampNeg x = g := by
  unfold wrJ at h
  by_cases c : i < 0 ∨ N ≤ i.toNatClampNeg
  · rw [if_pos c] at h; cases h
  · rw [if_neg c] at h; exact ⟨c, Option.some.inj h⟩
theorem bz_ok {x v : Int32} (h : bz x = some v) : v = x ∧ narrow .boolean (.int x) = .int x ∧ fits .boolean (.int x) = true := by
  unfold bz at h
  by_cases c : x = 0 ∨ x = 1
  · rw [if_pos c] at h
    rcases c with rfl | rfl
    · exact ⟨(Option.some.inj h).symm, rfl, rfl⟩
    · exact ⟨(Option.some.inj h).symm, rfl, rfl⟩
  · rw [if_neg c] at h; cases h
theorem nzI_ok {x v : Int32} (h : nzI x = some v) : ¬ x = 0 ∧ x = v := by
  unfold nzI at h
  by_cases c : x = 0
  · rw [if_pos c] at h; cases h
  · rw [if_neg c] at h; exact ⟨c, Option.some.inj h⟩
theorem nzJ_ok {x v : Int64} (h : nzJ x = some v) : ¬ x = 0 ∧ x = v := by
  unfold nzJ at h
  by_cases c : x = 0
  · rw [if_pos c] at h; cases h
  · rw [if_neg c] at h; exact ⟨c, Option.some.inj h⟩
theorem bi {α β : Type} {x : Option α} {f : α → Option β} {r : β} (h : x.bind f = some r) : ∃ a, x = some a ∧ f a = some r := by
  cases x with
  | none => cases h
  | some a => exact ⟨a, rfl, h⟩
theorem it {α : Type} {c : Prop} [Decidable c] {a b : α} {r : α} (hc : c) (h : (if c then a else b) = r) : a = r := by rw [if_pos hc] at h; exact h
theorem ie {α : Type} {c : Prop} [Decidable c] {a b : α} {r : α} (hc : ¬ c) (h : (if c then a else b) = r) : b = r := by rw [if_neg hc] at h; exact h
theorem bn {α β : Type} {x y : α} {f : α → β} {r : β} (e : y = x) (h : bnd x f = r) : f y = r := by subst e; exact h
def cpI (f : Nat → Int32) (N : Nat) (g : Nat → Int32) (M : Nat) (sp dp n : Int32) : Option (Nat → Int32) := if sp < 0 ∨ dp < 0 ∨ n < 0 ∨ N < sp.toNatClampNeg + n.toNatClampNeg ∨ M < dp.toNatClampNeg + n.toNatClampNeg then none else some (va_cpy f g sp.toNatClampNeg dp.toNatClampNeg n.toNatClampNeg)
def cpJ (f : Nat → Int64) (N : Nat) (g : Nat → Int64) (M : Nat) (sp dp n : Int32) : Option (Nat → Int64) := if sp < 0 ∨ dp < 0 ∨ n < 0 ∨ N < sp.toNatClampNeg + n.toNatClampNeg ∨ M < dp.toNatClampNeg + n.toNatClampNeg then none else some (va_cpy f g sp.toNatClampNeg dp.toNatClampNeg n.toNatClampNeg)
theorem cpI_ok {f g r : Nat → Int32} {N M : Nat} {sp dp n : Int32} (h : cpI f N g M sp dp n = some r) : (¬ sp < 0 ∧ ¬ dp < 0 ∧ ¬ n < 0 ∧ sp.toNatClampNeg + n.toNatClampNeg ≤ N ∧ dp.toNatClampNeg + n.toNatClampNeg ≤ M) ∧ va_cpy f g sp.toNatClampNeg dp.toNatClampNeg n.toNatClampNeg = r := by
  unfold cpI at h
  split at h
  · cases h
  · rename_i c
    simp only [not_or, Nat.not_lt] at c
    exact ⟨⟨c.1, c.2.1, c.2.2.1, c.2.2.2.1, c.2.2.2.2⟩, Option.some.inj h⟩
theorem cpJ_ok {f g r : Nat → Int64} {N M : Nat} {sp dp n : Int32} (h : cpJ f N g M sp dp n = some r) : (¬ sp < 0 ∧ ¬ dp < 0 ∧ ¬ n < 0 ∧ sp.toNatClampNeg + n.toNatClampNeg ≤ N ∧ dp.toNatClampNeg + n.toNatClampNeg ≤ M) ∧ va_cpy f g sp.toNatClampNeg dp.toNatClampNeg n.toNatClampNeg = r := by
  unfold cpJ at h
  split at h
  · cases h
  · rename_i c
    simp only [not_or, Nat.not_lt] at c
    exact ⟨⟨c.1, c.2.1, c.2.2.1, c.2.2.2.1, c.2.2.2.2⟩, Option.some.inj h⟩
/-! loops -/
def lpN {α β : Type} (body : (α → Option β) → α → Option β) : Nat → α → Option β
  | 0, _ => none
  | n + 1, a => body (lpN body n) a
/-! calls -/
def MV (y : MethodName) (C : String) (bytes : ByteArray) (maxL : Nat) (ret : Option FieldType) (n : Nat) : Prop := Cond.code y bytes maxL ret ∈ lw_gd ∧ Cond.instanceMethod y ∈ lw_gd ∧ Cond.selects C y y ∈ lw_gd ∧ Cond.initialized y.cls ∈ lw_gd ∧ y.cls ≠ "java/lang/invoke/MethodHandle" ∧ y.cls ≠ "java/lang/invoke/VarHandle" ∧ (parseMethodDescriptor y.desc).map (fun d => d.parameters.length) = some n
def MS (y : MethodName) (bytes : ByteArray) (maxL : Nat) (ret : Option FieldType) (n : Nat) : Prop := Cond.code y bytes maxL ret ∈ lw_gd ∧ Cond.static y ∈ lw_gd ∧ Cond.initialized y.cls ∈ lw_gd ∧ y.cls ≠ "java/lang/invoke/MethodHandle" ∧ y.cls ≠ "java/lang/invoke/VarHandle" ∧ (parseMethodDescriptor y.desc).map (fun d => d.parameters.length) = some n
section CALLS
variable {p : Program} {l : Launch} {e : Env} {R : Room} {s : State} {m : MethodId} {args : Array Value} {below : List Frame} {meth : Method} {c : Code} {H H0 : Heap} {locs : List Loc} {cells slots : Nat} {Q : State → Prop}
variable {y : MethodName} {bytes cc : ByteArray} {maxL nL n index pc : Nat} {ret : Option FieldType} {rm : Room} {own C host : String} {b : Addr} {As rest st0 : List Value} {ls : Array Slot} {D : va_G} {cy : Nat → ClassId} {A0 : Nat → Prop} {ws wc w1 : List va_W} {bk : va_W}
theorem cV (ht : ∀ w ∈ lw_gd, w.before args s = true) (hM : MV y C bytes maxL ret n) (hl : Cond.methodLink own index y ∈ lw_gd) (h0 : rm.cells = 0) (h1 : rm.slots = 0) (hR : rm.frames + 1 ≤ R.frames ∧ 8 + (maxL + 11) + rm.locals ≤ R.locals) : CallW R s args own C index y bytes maxL ret (WW y bytes maxL ret) rm 0 0 n :=
  ⟨callB_of n ht (gdIn hM.1) rfl h0 h1 (ht _ hM.2.2.2.1) (ht _ hl) hM.2.2.2.2 hR, ht _ hM.2.1, ht _ hM.2.2.1⟩
theorem cS (ht : ∀ w ∈ lw_gd, w.before args s = true) (hM : MS y bytes maxL ret n) (hl : Cond.methodLink own index y ∈ lw_gd) (h0 : rm.cells = 0) (h1 : rm.slots = 0) (hR : rm.frames + 1 ≤ R.frames ∧ 8 + (maxL + 11) + rm.locals ≤ R.locals) : CallB R s args own index y bytes maxL ret (WW y bytes maxL ret) rm 0 0 n ∧ (Cond.static y).before args s = true :=
  ⟨callB_of n ht (gdIn hM.1) rfl h0 h1 (ht _ hM.2.2.1) (ht _ hl) hM.2.2.2 hR, ht _ hM.2.1⟩
theorem cN (ht : ∀ w ∈ lw_gd, w.before args s = true) (hX : CX D cy s) (hM : MS y bytes maxL ret n) (hl : (own, index, y, host) ∈ lw_nm) (h0 : rm.cells = 0) (h1 : rm.slots = 0) (hR : rm.frames + 1 ≤ R.frames ∧ 8 + (maxL + 11) + rm.locals ≤ R.locals) : va_CN R s args own index y host bytes maxL ret (WW y bytes maxL ret) rm 0 0 n ∧ (Cond.static y).before args s = true ∧ True :=
  ⟨va_cnB n ht (gdIn hM.1) rfl h0 h1 (hX.2 _ hl) (ht _ hM.2.2.1) hM.2.2.2 hR, ht _ hM.2.1, trivial⟩
theorem preV (hP : PB D wc H) (hX : CX D cy s) {ci N : Nat} {T : u_T} {fs : List Value} {r : List (Nat × va_E)} {rs : List va_W} (hc : vwCl[ci]? = some (C, T, N)) (he : wc = ((b, .inr (ci, fs)) :: r) :: rs) : PreV s H C b (Rd D cy (.ref b :: As) wc) As :=
  ⟨Rd.blind, va_recv hX.1 hP hc (q0 := 0) (by rw [he]; rfl), fun _ hU hW => ⟨rfl, by rw [hU]; exact hP, hX.warm hW⟩⟩
theorem preVe (hP : PB D wc H) (hD : va_D (fun _ => True) wc.flatten) (hX : CX D cy s) {ci N : Nat} {T : u_T} {fs : List Value} {r : List (Nat × va_E)} {rs : List va_W} (hc : vwCl[ci]? = some (C, T, N)) (he : wc = ((b, .inr (ci, fs)) :: r) :: rs) : PreV s H C b (Ed D cy (.ref b :: As) wc) As :=
  ⟨Ed.blind, va_recv hX.1 hP hc (q0 := 0) (by rw [he]; rfl), fun _ hU hW => ⟨rfl, by rw [hU]; exact hP, hX.warm hW, hD⟩⟩
theorem preS (hP : PB D wc H) (hX : CX D cy s) : PreS s H (Rd D cy As wc) As := ⟨Rd.blind, fun _ hU hW => ⟨rfl, by rw [hU]; exact hP, hX.warm hW⟩⟩
theorem preSe (hP : PB D wc H) (hD : va_D (fun _ => True) wc.flatten) (hX : CX D cy s) : PreS s H (Ed D cy As wc) As := ⟨Ed.blind, fun _ hU hW => ⟨rfl, by rw [hU]; exact hP, hX.warm hW, hD⟩⟩
theorem at_C {isC : List Nat} (hC : isC.map (fun i => ws[i]?) = wc.map some) {k : Nat} {x : va_W} (hk : wc[k]? = some x) : ∃ i, isC[k]? = some i ∧ ws[i]? = some x := by
  have h3 : (isC.map (fun i => ws[i]?))[k]? = some (some x) := by rw [hC, List.getElem?_map, hk]; rfl
  rw [List.getElem?_map] at h3
  cases hi : isC[k]? with
  | none => rw [hi] at h3; cases h3
  | some i => rw [hi] at h3; exact ⟨i, rfl, Option.some.inj h3⟩
theorem adr_free (hD : va_D A0 ws.flatten) (isC : List Nat) (hC : isC.map (fun i => ws[i]?) = wc.map some) : ∀ q, adr wc q → A0 q := by
  rintro q ⟨k, e, he⟩
  obtain ⟨i, j, b, hi, hj⟩ := fl_mem he
  obtain ⟨i2, -, h2⟩ := at_C hC hi
  exact hD.2 _ (q, e) (fl_at h2 hj)
theorem P_sub (hP : PB D ws H) (isC : List Nat) (hC : isC.map (fun i => ws[i]?) = wc.map some) : PB D wc H := by
  intro k q hk
  obtain ⟨i, j, b, hi, hj⟩ := fl_mem hk
  obtain ⟨i2, -, h2⟩ := at_C hC hi
  exact hP _ q (fl_at h2 hj)
theorem P_one {i j : Nat} {x : Nat × va_E} (hP : PB D ws H) (h1 : ws[i]? = some bk) (h2 : bk[j]? = some x) : PB D [[x]] H := by
  intro k q hk
  cases k with
  | zero => cases hk; exact hP _ _ (fl_at h1 h2)
  | succ k => simp at hk
theorem D_sub (hD : va_D A0 ws.flatten) (isC : List Nat) (hn : va_nd isC = true) (hC : isC.map (fun i => ws[i]?) = wc.map some) : va_D (fun _ => True) wc.flatten := by
  have key : ∀ (k : Nat) (q : Nat × va_E), wc.flatten[k]? = some q → ∃ (i j : Nat) (b : va_W) (i2 : Nat), wc[i]? = some b ∧ b[j]? = some q ∧ isC[i]? = some i2 ∧ ws[i2]? = some b ∧ k = (wc.take i).flatten.length + j := by
    intro k
    induction wc generalizing isC k with
    | nil => intro q h; simp at h
    | cons b0 wc ih =>
      intro q h
      cases isC with
      | nil => simp at hC
      | cons c0 isC =>
        simp only [List.map_cons, List.cons.injEq] at hC
        simp only [va_nd, Bool.and_eq_true, decide_eq_true_eq] at hn
        rw [List.flatten_cons] at h
        by_cases hk : k < b0.length
        · rw [List.getElem?_append_left hk] at h
          exact ⟨0, k, b0, c0, rfl, h, rfl, hC.1, by simp⟩
        · rw [List.getElem?_append_right (by omega)] at h
          obtain ⟨i, j, b, i2, e1, e2, e3, e4, e5⟩ := ih isC hn.2 hC.2 _ _ h
          refine ⟨i + 1, j, b, i2, by simpa using e1, e2, by simpa using e3, e4, ?_⟩
          simp only [List.take_succ_cons, List.flatten_cons, List.length_append]
          omega
  refine ⟨fun i j x y hx hy hxy => ?_, fun _ _ _ => trivial⟩
  obtain ⟨i1, j1, b1, i2, e1, e2, e3, e4, e5⟩ := key i x hx
  obtain ⟨k1, l1, b2, k2, f1, f2, f3, f4, f5⟩ := key j y hy
  have h8 := hD.1 _ _ x y (fl_at e4 e2) (fl_at f4 f2) hxy
  have m1 := (List.getElem?_eq_some_iff.mp e2).1
  have m2 := (List.getElem?_eq_some_iff.mp f2).1
  have h9 : i2 = k2 := by
    rcases Nat.lt_trichotomy i2 k2 with z | z | z
    · have := fl_lt e4 z; omega
    · exact z
    · have := fl_lt f4 z; omega
  subst h9
  have h10 : i1 = k1 := va_nd_inj isC hn _ _ _ e3 f3
  subst h10
  omega
theorem roVi {res : Int32} (S : CallFix p m c cc nL s args lw_gd own) (hM : Met l y (WW y bytes maxL ret) rm (Rd D cy (.ref b :: As) wc) (vp_Si (fun v => v = res)) 0 0 (fun _ => False)) (cw : CallW R s args own C index y bytes maxL ret (WW y bytes maxL ret) rm 0 0 n) (hP : PB D wc H) (hX : CX D cy s) {ci N : Nat} {T : u_T} {fs : List Value} {r : List (Nat × va_E)} {rs : List va_W} (hc : vwCl[ci]? = some (C, T, N)) (he : wc = ((b, .inr (ci, fs)) :: r) :: rs) (hn : As.length = n) (hsize : ls.size = nL) (hst : st0 = As.reverse ++ .ref b :: rest) (hr : (rest.map fun v => v.category).sum ≤ 8) (hdg : decode cc pc = .ok (.invokevirtual index, 3)) (hf : cells + 0 ≤ R.cells ∧ slots + 0 ≤ R.slots)
    (kk : W p l e R s m args below meth c H locs cells slots Q (F0 m (pc + 3) ls (.int res :: rest))) : W p l e R s m args below meth c H locs cells slots Q (F0 m pc ls st0) :=
  vp_callSi (W.runV S hM cw (preV hP hX hc he) rfl hn hsize hst (lv_room hr) hdg hf) (fun _ h => h ▸ kk)
theorem roVl {res : Int64} (S : CallFix p m c cc nL s args lw_gd own) (hM : Met l y (WW y bytes maxL ret) rm (Rd D cy (.ref b :: As) wc) (vp_Sl (fun v => v = res)) 0 0 (fun _ => False)) (cw : CallW R s args own C index y bytes maxL ret (WW y bytes maxL ret) rm 0 0 n) (hP : PB D wc H) (hX : CX D cy s) {ci N : Nat} {T : u_T} {fs : List Value} {r : List (Nat × va_E)} {rs : List va_W} (hc : vwCl[ci]? = some (C, T, N)) (he : wc = ((b, .inr (ci, fs)) :: r) :: rs) (hn : As.length = n) (hsize : ls.size = nL) (hst : st0 = As.reverse ++ .ref b :: rest) (hr : (rest.map fun v => v.category).sum ≤ 8) (hdg : decode cc pc = .ok (.invokevirtual index, 3)) (hf : cells + 0 ≤ R.cells ∧ slots + 0 ≤ R.slots)
    (kk : W p l e R s m args below meth c H locs cells slots Q (F0 m (pc + 3) ls (.long res :: rest))) : W p l e R s m args below meth c H locs cells slots Q (F0 m pc ls st0) :=
  vp_callSl (W.runV S hM cw (preV hP hX hc he) rfl hn hsize hst (lv_room hr) hdg hf) (fun _ h => h ▸ kk)
theorem roSi {res : Int32} (S : CallFix p m c cc nL s args lw_gd own) (hM : Met l y (WW y bytes maxL ret) rm (Rd D cy As wc) (vp_Si (fun v => v = res)) 0 0 (fun _ => False)) (cw : CallB R s args own index y bytes maxL ret (WW y bytes maxL ret) rm 0 0 n ∧ (Cond.static y).before args s = true) (hP : PB D wc H) (hX : CX D cy s) (hn : As.length = n) (hsize : ls.size = nL) (hst : st0 = As.reverse ++ rest) (hr : (rest.map fun v => v.category).sum ≤ 8) (hdg : decode cc pc = .ok (.invokestatic index, 3)) (hf : cells + 0 ≤ R.cells ∧ slots + 0 ≤ R.slots)
    (kk : W p l e R s m args below meth c H locs cells slots Q (F0 m (pc + 3) ls (.int res :: rest))) : W p l e R s m args below meth c H locs cells slots Q (F0 m pc ls st0) :=
  vp_callSi (W.runS S hM cw (preS hP hX) rfl hn hsize hst (lv_room hr) hdg hf) (fun _ h => h ▸ kk)
theorem roSl {res : Int64} (S : CallFix p m c cc nL s args lw_gd own) (hM : Met l y (WW y bytes maxL ret) rm (Rd D cy As wc) (vp_Sl (fun v => v = res)) 0 0 (fun _ => False)) (cw : CallB R s args own index y bytes maxL ret (WW y bytes maxL ret) rm 0 0 n ∧ (Cond.static y).before args s = true) (hP : PB D wc H) (hX : CX D cy s) (hn : As.length = n) (hsize : ls.size = nL) (hst : st0 = As.reverse ++ rest) (hr : (rest.map fun v => v.category).sum ≤ 8) (hdg : decode cc pc = .ok (.invokestatic index, 3)) (hf : cells + 0 ≤ R.cells ∧ slots + 0 ≤ R.slots)
    (kk : W p l e R s m args below meth c H locs cells slots Q (F0 m (pc + 3) ls (.long res :: rest))) : W p l e R s m args below meth c H locs cells slots Q (F0 m pc ls st0) :=
  vp_callSl (W.runS S hM cw (preS hP hX) rfl hn hsize hst (lv_room hr) hdg hf) (fun _ h => h ▸ kk)
theorem roNi {res : Int32} (S : CallFix p m c cc nL s args lw_gd own) (hM : Met l y (WW y bytes maxL ret) rm (Rd D cy As wc) (vp_Si (fun v => v = res)) 0 0 (fun _ => False)) (cw : va_CN R s args own index y host bytes maxL ret (WW y bytes maxL ret) rm 0 0 n ∧ (Cond.static y).before args s = true ∧ True) (hP : PB D wc H) (hX : CX D cy s) (hn : As.length = n) (hsize : ls.size = nL) (hst : st0 = As.reverse ++ rest) (hr : (rest.map fun v => v.category).sum ≤ 8) (hdg : decode cc pc = .ok (.invokestatic index, 3)) (hf : cells + 0 ≤ R.cells ∧ slots + 0 ≤ R.slots)
    (kk : W p l e R s m args below meth c H locs cells slots Q (F0 m (pc + 3) ls (.int res :: rest))) : W p l e R s m args below meth c H locs cells slots Q (F0 m pc ls st0) :=
  vp_callSi (va_runSN S hM cw (preS hP hX) rfl hn hsize hst (lv_room hr) hdg hf).run (fun _ h => h ▸ kk)
theorem roNl {res : Int64} (S : CallFix p m c cc nL s args lw_gd own) (hM : Met l y (WW y bytes maxL ret) rm (Rd D cy As wc) (vp_Sl (fun v => v = res)) 0 0 (fun _ => False)) (cw : va_CN R s args own index y host bytes maxL ret (WW y bytes maxL ret) rm 0 0 n ∧ (Cond.static y).before args s = true ∧ True) (hP : PB D wc H) (hX : CX D cy s) (hn : As.length = n) (hsize : ls.size = nL) (hst : st0 = As.reverse ++ rest) (hr : (rest.map fun v => v.category).sum ≤ 8) (hdg : decode cc pc = .ok (.invokestatic index, 3)) (hf : cells + 0 ≤ R.cells ∧ slots + 0 ≤ R.slots)
    (kk : W p l e R s m args below meth c H locs cells slots Q (F0 m (pc + 3) ls (.long res :: rest))) : W p l e R s m args below meth c H locs cells slots Q (F0 m pc ls st0) :=
  vp_callSl (va_runSN S hM cw (preS hP hX) rfl hn hsize hst (lv_room hr) hdg hf).run (fun _ h => h ▸ kk)
abbrev Qei (D : va_G) (res : Int32) (A : Nat → Prop) (w1 : List va_W) : Array Value → State → Outcome → State → Prop := va_Qi (fun (v : Int32) (_ : Unit) => v = res) (fun _ t => PB D w1 t.heap) A
abbrev Qel (D : va_G) (res : Int64) (A : Nat → Prop) (w1 : List va_W) : Array Value → State → Outcome → State → Prop := va_Ql (fun (v : Int64) (_ : Unit) => v = res) (fun _ t => PB D w1 t.heap) A
abbrev Qev (D : va_G) (A : Nat → Prop) (w1 : List va_W) : Array Value → State → Outcome → State → Prop := va_Qv (fun (_ : Unit) => True) (fun _ t => PB D w1 t.heap) A
theorem efVi {res : Int32} (S : CallFix p m c cc nL s args lw_gd own) (hM : Met l y (WW y bytes maxL ret) rm (Ed D cy (.ref b :: As) wc) (Qei D res (adr wc) w1) 0 0 (adr wc)) (cw : CallW R s args own C index y bytes maxL ret (WW y bytes maxL ret) rm 0 0 n) (hP : PD D A0 ws H) (hS : va_S A0 H0 H locs) (hX : CX D cy s) (isC : List Nat) (hC : isC.map (fun i => ws[i]?) = wc.map some) (hnd : va_nd isC = true) (ha : w1.map (fun b => b.map (fun q => q.1)) = wc.map (fun b => b.map (fun q => q.1))) {ci N : Nat} {T : u_T} {fs : List Value} {r : List (Nat × va_E)} {rs : List va_W} (hc : vwCl[ci]? = some (C, T, N)) (he : wc = ((b, .inr (ci, fs)) :: r) :: rs) (hn : As.length = n) (hsize : ls.size = nL) (hst : st0 = As.reverse ++ .ref b :: rest) (hr : (rest.map fun v => v.category).sum ≤ 8) (hdg : decode cc pc = .ok (.invokevirtual index, 3)) (hf : cells + 0 ≤ R.cells ∧ slots + 0 ≤ R.slots)
    (kk : ∀ (H1 : Heap) (locs1 : List Loc), PD D A0 (patch ws isC w1) H1 → va_S A0 H0 H1 locs1 → W p l e R s m args below meth c H1 locs1 cells slots Q (F0 m (pc + 3) ls (.int res :: rest))) : W p l e R s m args below meth c H locs cells slots Q (F0 m pc ls st0) :=
  va_calli (va_runV S hM cw (preVe (P_sub hP.1 isC hC) (D_sub hP.2 isC hnd hC) hX hc he) rfl hn hsize hst (lv_room hr) hdg hf) hS (fun q _ h => adr_free hP.2 isC hC q h) (adr_free hP.2 isC hC) (fun _ _ t H1 locs1 ht _ hv hB _ hk hS => by
    cases hv
    subst ht
    exact kk _ locs1 (patch_PD hP isC hC ha hk hB) hS)
theorem efVl {res : Int64} (S : CallFix p m c cc nL s args lw_gd own) (hM : Met l y (WW y bytes maxL ret) rm (Ed D cy (.ref b :: As) wc) (Qel D res (adr wc) w1) 0 0 (adr wc)) (cw : CallW R s args own C index y bytes maxL ret (WW y bytes maxL ret) rm 0 0 n) (hP : PD D A0 ws H) (hS : va_S A0 H0 H locs) (hX : CX D cy s) (isC : List Nat) (hC : isC.map (fun i => ws[i]?) = wc.map some) (hnd : va_nd isC = true) (ha : w1.map (fun b => b.map (fun q => q.1)) = wc.map (fun b => b.map (fun q => q.1))) {ci N : Nat} {T : u_T} {fs : List Value} {r : List (Nat × va_E)} {rs : List va_W} (hc : vwCl[ci]? = some (C, T, N)) (he : wc = ((b, .inr (ci, fs)) :: r) :: rs) (hn : As.length = n) (hsize : ls.size = nL) (hst : st0 = As.reverse ++ .ref b :: rest) (hr : (rest.map fun v => v.category).sum ≤ 8) (hdg : decode cc pc = .ok (.invokevirtual index, 3)) (hf : cells + 0 ≤ R.cells ∧ slots + 0 ≤ R.slots)
    (kk : ∀ (H1 : Heap) (locs1 : List Loc), PD D A0 (patch ws isC w1) H1 → va_S A0 H0 H1 locs1 → W p l e R s m args below meth c H1 locs1 cells slots Q (F0 m (pc + 3) ls (.long res :: rest))) : W p l e R s m args below meth c H locs cells slots Q (F0 m pc ls st0) :=
  va_calll (va_runV S hM cw (preVe (P_sub hP.1 isC hC) (D_sub hP.2 isC hnd hC) hX hc he) rfl hn hsize hst (lv_room hr) hdg hf) hS (fun q _ h => adr_free hP.2 isC hC q h) (adr_free hP.2 isC hC) (fun _ _ t H1 locs1 ht _ hv hB _ hk hS => by
    cases hv
    subst ht
    exact kk _ locs1 (patch_PD hP isC hC ha hk hB) hS)
theorem efVv (S : CallFix p m c cc nL s args lw_gd own) (hM : Met l y (WW y bytes maxL ret) rm (Ed D cy (.ref b :: As) wc) (Qev D (adr wc) w1) 0 0 (adr wc)) (cw : CallW R s args own C index y bytes maxL ret (WW y bytes maxL ret) rm 0 0 n) (hP : PD D A0 ws H) (hS : va_S A0 H0 H locs) (hX : CX D cy s) (isC : List Nat) (hC : isC.map (fun i => ws[i]?) = wc.map some) (hnd : va_nd isC = true) (ha : w1.map (fun b => b.map (fun q => q.1)) = wc.map (fun b => b.map (fun q => q.1))) {ci N : Nat} {T : u_T} {fs : List Value} {r : List (Nat × va_E)} {rs : List va_W} (hc : vwCl[ci]? = some (C, T, N)) (he : wc = ((b, .inr (ci, fs)) :: r) :: rs) (hn : As.length = n) (hsize : ls.size = nL) (hst : st0 = As.reverse ++ .ref b :: rest) (hr : (rest.map fun v => v.category).sum ≤ 8) (hdg : decode cc pc = .ok (.invokevirtual index, 3)) (hf : cells + 0 ≤ R.cells ∧ slots + 0 ≤ R.slots)
    (kk : ∀ (H1 : Heap) (locs1 : List Loc), PD D A0 (patch ws isC w1) H1 → va_S A0 H0 H1 locs1 → W p l e R s m args below meth c H1 locs1 cells slots Q (F0 m (pc + 3) ls rest)) : W p l e R s m args below meth c H locs cells slots Q (F0 m pc ls st0) :=
  va_callv (va_runV S hM cw (preVe (P_sub hP.1 isC hC) (D_sub hP.2 isC hnd hC) hX hc he) rfl hn hsize hst (lv_room hr) hdg hf) hS (fun q _ h => adr_free hP.2 isC hC q h) (adr_free hP.2 isC hC) (fun _ t H1 locs1 ht _ _ hB _ hk hS => by
    subst ht
    exact kk _ locs1 (patch_PD hP isC hC ha hk hB) hS)
theorem efSi {res : Int32} (S : CallFix p m c cc nL s args lw_gd own) (hM : Met l y (WW y bytes maxL ret) rm (Ed D cy As wc) (Qei D res (adr wc) w1) 0 0 (adr wc)) (cw : CallB R s args own index y bytes maxL ret (WW y bytes maxL ret) rm 0 0 n ∧ (Cond.static y).before args s = true) (hP : PD D A0 ws H) (hS : va_S A0 H0 H locs) (hX : CX D cy s) (isC : List Nat) (hC : isC.map (fun i => ws[i]?) = wc.map some) (hnd : va_nd isC = true) (ha : w1.map (fun b => b.map (fun q => q.1)) = wc.map (fun b => b.map (fun q => q.1))) (hn : As.length = n) (hsize : ls.size = nL) (hst : st0 = As.reverse ++ rest) (hr : (rest.map fun v => v.category).sum ≤ 8) (hdg : decode cc pc = .ok (.invokestatic index, 3)) (hf : cells + 0 ≤ R.cells ∧ slots + 0 ≤ R.slots)
    (kk : ∀ (H1 : Heap) (locs1 : List Loc), PD D A0 (patch ws isC w1) H1 → va_S A0 H0 H1 locs1 → W p l e R s m args below meth c H1 locs1 cells slots Q (F0 m (pc + 3) ls (.int res :: rest))) : W p l e R s m args below meth c H locs cells slots Q (F0 m pc ls st0) :=
  va_calli (va_runS S hM cw (preSe (P_sub hP.1 isC hC) (D_sub hP.2 isC hnd hC) hX) rfl hn hsize hst (lv_room hr) hdg hf) hS (fun q _ h => adr_free hP.2 isC hC q h) (adr_free hP.2 isC hC) (fun _ _ t H1 locs1 ht _ hv hB _ hk hS => by
    cases hv
    subst ht
    exact kk _ locs1 (patch_PD hP isC hC ha hk hB) hS)
theorem efSl {res : Int64} (S : CallFix p m c cc nL s args lw_gd own) (hM : Met l y (WW y bytes maxL ret) rm (Ed D cy As wc) (Qel D res (adr wc) w1) 0 0 (adr wc)) (cw : CallB R s args own index y bytes maxL ret (WW y bytes maxL ret) rm 0 0 n ∧ (Cond.static y).before args s = true) (hP : PD D A0 ws H) (hS : va_S A0 H0 H locs) (hX : CX D cy s) (isC : List Nat) (hC : isC.map (fun i => ws[i]?) = wc.map some) (hnd : va_nd isC = true) (ha : w1.map (fun b => b.map (fun q => q.1)) = wc.map (fun b => b.map (fun q => q.1))) (hn : As.length = n) (hsize : ls.size = nL) (hst : st0 = As.reverse ++ rest) (hr : (rest.map fun v => v.category).sum ≤ 8) (hdg : decode cc pc = .ok (.invokestatic index, 3)) (hf : cells + 0 ≤ R.cells ∧ slots + 0 ≤ R.slots)
    (kk : ∀ (H1 : Heap) (locs1 : List Loc), PD D A0 (patch ws isC w1) H1 → va_S A0 H0 H1 locs1 → W p l e R s m args below meth c H1 locs1 cells slots Q (F0 m (pc + 3) ls (.long res :: rest))) : W p l e R s m args below meth c H locs cells slots Q (F0 m pc ls st0) :=
  va_calll (va_runS S hM cw (preSe (P_sub hP.1 isC hC) (D_sub hP.2 isC hnd hC) hX) rfl hn hsize hst (lv_room hr) hdg hf) hS (fun q _ h => adr_free hP.2 isC hC q h) (adr_free hP.2 isC hC) (fun _ _ t H1 locs1 ht _ hv hB _ hk hS => by
    cases hv
    subst ht
    exact kk _ locs1 (patch_PD hP isC hC ha hk hB) hS)
theorem efSv (S : CallFix p m c cc nL s args lw_gd own) (hM : Met l y (WW y bytes maxL ret) rm (Ed D cy As wc) (Qev D (adr wc) w1) 0 0 (adr wc)) (cw : CallB R s args own index y bytes maxL ret (WW y bytes maxL ret) rm 0 0 n ∧ (Cond.static y).before args s = true) (hP : PD D A0 ws H) (hS : va_S A0 H0 H locs) (hX : CX D cy s) (isC : List Nat) (hC : isC.map (fun i => ws[i]?) = wc.map some) (hnd : va_nd isC = true) (ha : w1.map (fun b => b.map (fun q => q.1)) = wc.map (fun b => b.map (fun q => q.1))) (hn : As.length = n) (hsize : ls.size = nL) (hst : st0 = As.reverse ++ rest) (hr : (rest.map fun v => v.category).sum ≤ 8) (hdg : decode cc pc = .ok (.invokestatic index, 3)) (hf : cells + 0 ≤ R.cells ∧ slots + 0 ≤ R.slots)
    (kk : ∀ (H1 : Heap) (locs1 : List Loc), PD D A0 (patch ws isC w1) H1 → va_S A0 H0 H1 locs1 → W p l e R s m args below meth c H1 locs1 cells slots Q (F0 m (pc + 3) ls rest)) : W p l e R s m args below meth c H locs cells slots Q (F0 m pc ls st0) :=
  va_callv (va_runS S hM cw (preSe (P_sub hP.1 isC hC) (D_sub hP.2 isC hnd hC) hX) rfl hn hsize hst (lv_room hr) hdg hf) hS (fun q _ h => adr_free hP.2 isC hC q h) (adr_free hP.2 isC hC) (fun _ t H1 locs1 ht _ _ hB _ hk hS => by
    subst ht
    exact kk _ locs1 (patch_PD hP isC hC ha hk hB) hS)
theorem efNi {res : Int32} (S : CallFix p m c cc nL s args lw_gd own) (hM : Met l y (WW y bytes maxL ret) rm (Ed D cy As wc) (Qei D res (adr wc) w1) 0 0 (adr wc)) (cw : va_CN R s args own index y host bytes maxL ret (WW y bytes maxL ret) rm 0 0 n ∧ (Cond.static y).before args s = true ∧ True) (hP : PD D A0 ws H) (hS : va_S A0 H0 H locs) (hX : CX D cy s) (isC : List Nat) (hC : isC.map (fun i => ws[i]?) = wc.map some) (hnd : va_nd isC = true) (ha : w1.map (fun b => b.map (fun q => q.1)) = wc.map (fun b => b.map (fun q => q.1))) (hn : As.length = n) (hsize : ls.size = nL) (hst : st0 = As.reverse ++ rest) (hr : (rest.map fun v => v.category).sum ≤ 8) (hdg : decode cc pc = .ok (.invokestatic index, 3)) (hf : cells + 0 ≤ R.cells ∧ slots + 0 ≤ R.slots)
    (kk : ∀ (H1 : Heap) (locs1 : List Loc), PD D A0 (patch ws isC w1) H1 → va_S A0 H0 H1 locs1 → W p l e R s m args below meth c H1 locs1 cells slots Q (F0 m (pc + 3) ls (.int res :: rest))) : W p l e R s m args below meth c H locs cells slots Q (F0 m pc ls st0) :=
  va_calli (va_runSN S hM cw (preSe (P_sub hP.1 isC hC) (D_sub hP.2 isC hnd hC) hX) rfl hn hsize hst (lv_room hr) hdg hf) hS (fun q _ h => adr_free hP.2 isC hC q h) (adr_free hP.2 isC hC) (fun _ _ t H1 locs1 ht _ hv hB _ hk hS => by
    cases hv
    subst ht
    exact kk _ locs1 (patch_PD hP isC hC ha hk hB) hS)
theorem efNl {res : Int64} (S : CallFix p m c cc nL s args lw_gd own) (hM : Met l y (WW y bytes maxL ret) rm (Ed D cy As wc) (Qel D res (adr wc) w1) 0 0 (adr wc)) (cw : va_CN R s args own index y host bytes maxL ret (WW y bytes maxL ret) rm 0 0 n ∧ (Cond.static y).before args s = true ∧ True) (hP : PD D A0 ws H) (hS : va_S A0 H0 H locs) (hX : CX D cy s) (isC : List Nat) (hC : isC.map (fun i => ws[i]?) = wc.map some) (hnd : va_nd isC = true) (ha : w1.map (fun b => b.map (fun q => q.1)) = wc.map (fun b => b.map (fun q => q.1))) (hn : As.length = n) (hsize : ls.size = nL) (hst : st0 = As.reverse ++ rest) (hr : (rest.map fun v => v.category).sum ≤ 8) (hdg : decode cc pc = .ok (.invokestatic index, 3)) (hf : cells + 0 ≤ R.cells ∧ slots + 0 ≤ R.slots)
    (kk : ∀ (H1 : Heap) (locs1 : List Loc), PD D A0 (patch ws isC w1) H1 → va_S A0 H0 H1 locs1 → W p l e R s m args below meth c H1 locs1 cells slots Q (F0 m (pc + 3) ls (.long res :: rest))) : W p l e R s m args below meth c H locs cells slots Q (F0 m pc ls st0) :=
  va_calll (va_runSN S hM cw (preSe (P_sub hP.1 isC hC) (D_sub hP.2 isC hnd hC) hX) rfl hn hsize hst (lv_room hr) hdg hf) hS (fun q _ h => adr_free hP.2 isC hC q h) (adr_free hP.2 isC hC) (fun _ _ t H1 locs1 ht _ hv hB _ hk hS => by
    cases hv
    subst ht
    exact kk _ locs1 (patch_PD hP isC hC ha hk hB) hS)
theorem efNv (S : CallFix p m c cc nL s args lw_gd own) (hM : Met l y (WW y bytes maxL ret) rm (Ed D cy As wc) (Qev D (adr wc) w1) 0 0 (adr wc)) (cw : va_CN R s args own index y host bytes maxL ret (WW y bytes maxL ret) rm 0 0 n ∧ (Cond.static y).before args s = true ∧ True) (hP : PD D A0 ws H) (hS : va_S A0 H0 H locs) (hX : CX D cy s) (isC : List Nat) (hC : isC.map (fun i => ws[i]?) = wc.map some) (hnd : va_nd isC = true) (ha : w1.map (fun b => b.map (fun q => q.1)) = wc.map (fun b => b.map (fun q => q.1))) (hn : As.length = n) (hsize : ls.size = nL) (hst : st0 = As.reverse ++ rest) (hr : (rest.map fun v => v.category).sum ≤ 8) (hdg : decode cc pc = .ok (.invokestatic index, 3)) (hf : cells + 0 ≤ R.cells ∧ slots + 0 ≤ R.slots)
    (kk : ∀ (H1 : Heap) (locs1 : List Loc), PD D A0 (patch ws isC w1) H1 → va_S A0 H0 H1 locs1 → W p l e R s m args below meth c H1 locs1 cells slots Q (F0 m (pc + 3) ls rest)) : W p l e R s m args below meth c H locs cells slots Q (F0 m pc ls st0) :=
  va_callv (va_runSN S hM cw (preSe (P_sub hP.1 isC hC) (D_sub hP.2 isC hnd hC) hX) rfl hn hsize hst (lv_room hr) hdg hf) hS (fun q _ h => adr_free hP.2 isC hC q h) (adr_free hP.2 isC hC) (fun _ t H1 locs1 ht _ _ hB _ hk hS => by
    subst ht
    exact kk _ locs1 (patch_PD hP isC hC ha hk hB) hS)
/-- a static method over one array that lies in a block -/
theorem efAv {i j : Nat} {x x1 : Nat × va_E} (S : CallFix p m c cc nL s args lw_gd own) (hM : Met l y (WW y bytes maxL ret) rm (Ed D cy As [[x]]) (Qev D (adr [[x]]) [[x1]]) 0 0 (adr [[x]])) (cw : CallB R s args own index y bytes maxL ret (WW y bytes maxL ret) rm 0 0 n ∧ (Cond.static y).before args s = true) (hP : PD D A0 ws H) (hS : va_S A0 H0 H locs) (hX : CX D cy s) (h1 : ws[i]? = some bk) (h2 : bk[j]? = some x) (ha : x1.1 = x.1) (hn : As.length = n) (hsize : ls.size = nL) (hst : st0 = As.reverse ++ rest) (hr : (rest.map fun v => v.category).sum ≤ 8) (hdg : decode cc pc = .ok (.invokestatic index, 3)) (hf : cells + 0 ≤ R.cells ∧ slots + 0 ≤ R.slots)
    (kk : ∀ (H1 : Heap) (locs1 : List Loc), PD D A0 (ws.set i (bk.set j x1)) H1 → va_S A0 H0 H1 locs1 → W p l e R s m args below meth c H1 locs1 cells slots Q (F0 m (pc + 3) ls rest)) : W p l e R s m args below meth c H locs cells slots Q (F0 m pc ls st0) := by
  obtain ⟨q, hq, hset⟩ := fl_get h1 h2
  have hfr : ∀ a, adr [[x]] a → A0 a := by
    rintro a ⟨k, e, he⟩
    cases k with
    | zero => cases he; exact hP.2.2 q _ hq
    | succ k => simp at he
  have hD1 : va_D (fun _ => True) ([[x]] : List va_W).flatten := by
    refine ⟨fun i j p q hi hj _ => ?_, fun _ _ _ => trivial⟩
    cases i with
    | zero => cases j with
      | zero => rfl
      | succ j => simp at hj
    | succ i => simp at hi
  refine va_callv (va_runS S hM cw (preSe (P_one hP.1 h1 h2) hD1 hX) rfl hn hsize hst (lv_room hr) hdg hf) hS (fun a _ h => hfr a h) hfr (fun _ t H1 locs1 ht _ _ hB _ hk hS => ?_)
  subst ht
  obtain ⟨xa, xe⟩ := x
  obtain ⟨x1a, x1e⟩ := x1
  have hae : x1a = xa := ha
  subst hae
  refine kk _ locs1 (set_PD hset ?_ (hP.2.set hq)) hS
  intro k z hz
  by_cases hkq : k = q
  · subst hkq
    have hl := (List.getElem?_eq_some_iff.mp hq).1
    rw [List.getElem?_set_self hl] at hz
    cases hz
    exact hB 0 _ rfl
  · rw [List.getElem?_set_ne (Ne.symm hkq)] at hz
    refine (hP.1 k z hz).kept (hk z.1 (hP.1 k z hz).lt ?_)
    rintro ⟨k2, e2, he2⟩
    cases k2 with
    | zero =>
      cases he2
      exact hkq (hP.2.1 k q z _ hz hq rfl)
    | succ k2 => simp at he2
theorem hPt {t : State} (h : t.heap = H) (hP : PB D ws H) : PB D ws t.heap := by rw [h]; exact hP
/-! an instruction a row, over the context -/
theorem ent {m : MethodId} {args : Array Value} {n : Nat} {vs : List Value} (h : args = vs.toArray) (hn : (lg_sl vs).length ≤ n) {lv : List (Nat × Value)} (hlv : lv_args 0 vs = lv) : ∃ ls, lv_has ls n lv ∧ entryFrame m args n = F0 m 0 ls [] := by
  subst h; subst hlv
  exact ⟨_, lv_entry vs hn, lg_entry_eq ..⟩
theorem xget {a i j k ci N : Nat} {T : u_T} {fs : List Value} {v : Value} (hx : p.tables.exec = Jvm.exec) (hb : c.code = cc) (ht : ∀ w ∈ lw_gd, w.before args s = true) (hin : ∀ w ∈ u_ws C T N, w ∈ lw_gd) (hown : s.vm.findClass own = some m.cls) (hX : CX D cy s) (hP : PB D ws H) (h1 : ws[i]? = some bk) (h2 : bk[j]? = some (a, .inr (ci, fs))) (hc : vwCl[ci]? = some (C, T, N)) (hk : k < N) (hl : Cond.fieldLink own index (T k).1 (T k).2.1 (T k).2.2.1 ∈ lw_gd) (hv : fs[k]? = some v) (hdg : decode cc pc = .ok (.getfield index, 3))
    (kk : W p l e R s m args below meth c H locs cells slots Q (F0 m (pc + 3) ls (v :: rest))) : W p l e R s m args below meth c H locs cells slots Q (F0 m pc ls (.ref a :: rest)) :=
  va_get hx hb ht hin hown hX.1 hP _ (fl_at h1 h2) hc k hk (ht _ hl) (fun _ h => h) hv hdg kk
theorem xput {a i j k ci N : Nat} {T : u_T} {fs : List Value} {v : Value} (ty0 : Nat → FieldType) (hty : ∀ k, k < N → parseFieldDescriptor (T k).2.2.1 = some (ty0 k)) (hnm : ∀ a, a < N → ∀ b, b < N → a ≠ b → (T a).2.1 ≠ (T b).2.1) (hx : p.tables.exec = Jvm.exec) (hb : c.code = cc) (ht : ∀ w ∈ lw_gd, w.before args s = true) (hin : ∀ w ∈ u_ws C T N, w ∈ lw_gd) (hown : s.vm.findClass own = some m.cls) (hX : CX D cy s) (hP : PD D A0 ws H) (hS : va_S A0 H0 H locs) (h1 : ws[i]? = some bk) (h2 : bk[j]? = some (a, .inr (ci, fs))) (hc : vwCl[ci]? = some (C, T, N)) (hk : k < N) (hl : Cond.fieldLink own index (T k).1 (T k).2.1 (T k).2.2.1 ∈ lw_gd) (hfin : (T k).2.2.2 = false) (hn : narrow (ty0 k) v = v) (hfit : fits (ty0 k) v = true) (hlen : k < fs.length) (hdg : decode cc pc = .ok (.putfield index, 3))
    (kk : ∀ (H1 : Heap) (locs1 : List Loc), PD D A0 (ws.set i (bk.set j (a, .inr (ci, fs.set k v)))) H1 → va_S A0 H0 H1 locs1 → W p l e R s m args below meth c H1 locs1 cells slots Q (F0 m (pc + 3) ls rest)) : W p l e R s m args below meth c H locs cells slots Q (F0 m pc ls (v :: .ref a :: rest)) := by
  obtain ⟨q, hq, hset⟩ := fl_get h1 h2
  exact va_put hx hb ht hin ty0 hty hnm hown hX.1 hP.1 hP.2 hS q hq hc k hk (ht _ hl) (fun _ h => h) hfin (hty k hk) hn hfit hlen hdg (fun H1 l1 a1 d1 b1 => kk H1 l1 (set_PD hset a1 d1) b1)
theorem xiald {a i0 j0 : Nat} {N : Nat} {f : Nat → Int32} {i : Int32} {v : Int32} (hx : p.tables.exec = Jvm.exec) (hb : c.code = cc) (hX : CX D cy s) (hP : PB D ws H) (h1 : ws[i0]? = some bk) (h2 : bk[j0]? = some (a, .inl (cy 0, N, .inl f))) (hv : rdI f N i = some v) (hdg : decode cc pc = .ok (.iaload, 1))
    (kk : W p l e R s m args below meth c H locs cells slots Q (F0 m (pc + 1) ls (.int v :: rest))) : W p l e R s m args below meth c H locs cells slots Q (F0 m pc ls (.int i :: .ref a :: rest)) := by
  obtain ⟨h3, h4⟩ := rdI_ok hv
  subst h4
  exact va_iald hx hb hX.1 hP _ 0 (fl_at h1 h2) rfl h3 hdg kk
theorem xbald {a i0 j0 : Nat} {N : Nat} {f : Nat → Int32} {i : Int32} {v : Int32} (hx : p.tables.exec = Jvm.exec) (hb : c.code = cc) (hX : CX D cy s) (hP : PB D ws H) (h1 : ws[i0]? = some bk) (h2 : bk[j0]? = some (a, .inl (cy 2, N, .inl f))) (hv : rdI f N i = some v) (hdg : decode cc pc = .ok (.baload, 1))
    (kk : W p l e R s m args below meth c H locs cells slots Q (F0 m (pc + 1) ls (.int v :: rest))) : W p l e R s m args below meth c H locs cells slots Q (F0 m pc ls (.int i :: .ref a :: rest)) := by
  obtain ⟨h3, h4⟩ := rdI_ok hv
  subst h4
  exact va_bald hx hb hX.1 hP _ 2 (fl_at h1 h2) rfl h3 hdg kk
theorem xlald {a i0 j0 : Nat} {N : Nat} {f : Nat → Int64} {i : Int32} {v : Int64} (hx : p.tables.exec = Jvm.exec) (hb : c.code = cc) (hX : CX D cy s) (hP : PB D ws H) (h1 : ws[i0]? = some bk) (h2 : bk[j0]? = some (a, .inl (cy 1, N, .inr (.inl f)))) (hv : rdJ f N i = some v) (hdg : decode cc pc = .ok (.laload, 1))
    (kk : W p l e R s m args below meth c H locs cells slots Q (F0 m (pc + 1) ls (.long v :: rest))) : W p l e R s m args below meth c H locs cells slots Q (F0 m pc ls (.int i :: .ref a :: rest)) := by
  obtain ⟨h3, h4⟩ := rdJ_ok hv
  subst h4
  exact va_lald hx hb hX.1 hP _ 1 (fl_at h1 h2) rfl h3 hdg kk
theorem xiast {a i0 j0 : Nat} {N : Nat} {f g : Nat → Int32} {i : Int32} {x : Int32} (hx : p.tables.exec = Jvm.exec) (hb : c.code = cc) (hX : CX D cy s) (hP : PD D A0 ws H) (hS : va_S A0 H0 H locs) (h1 : ws[i0]? = some bk) (h2 : bk[j0]? = some (a, .inl (cy 0, N, .inl f))) (hv : wrI f N i x = some g) (hdg : decode cc pc = .ok (.iastore, 1))
    (kk : ∀ (H1 : Heap) (locs1 : List Loc), PD D A0 (ws.set i0 (bk.set j0 (a, .inl (cy 0, N, .inl g)))) H1 → va_S A0 H0 H1 locs1 → W p l e R s m args below meth c H1 locs1 cells slots Q (F0 m (pc + 1) ls rest)) : W p l e R s m args below meth c H locs cells slots Q (F0 m pc ls (.int x :: .int i :: .ref a :: rest)) := by
  obtain ⟨h3, h4⟩ := wrI_ok hv
  subst h4
  obtain ⟨q, hq, hset⟩ := fl_get h1 h2
  exact va_iast hx hb hX.1 hP.1 hP.2 hS q 0 hq rfl h3 hdg (fun H1 l1 a1 d1 b1 => kk H1 l1 (set_PD hset a1 d1) b1)
theorem xbast {a i0 j0 : Nat} {N : Nat} {f g : Nat → Int32} {i : Int32} {x : Int32} (hx : p.tables.exec = Jvm.exec) (hb : c.code = cc) (hX : CX D cy s) (hP : PD D A0 ws H) (hS : va_S A0 H0 H locs) (h1 : ws[i0]? = some bk) (h2 : bk[j0]? = some (a, .inl (cy 2, N, .inl f))) (hv : wrI f N i (vp_nar .byte x) = some g) (hdg : decode cc pc = .ok (.bastore, 1))
    (kk : ∀ (H1 : Heap) (locs1 : List Loc), PD D A0 (ws.set i0 (bk.set j0 (a, .inl (cy 2, N, .inl g)))) H1 → va_S A0 H0 H1 locs1 → W p l e R s m args below meth c H1 locs1 cells slots Q (F0 m (pc + 1) ls rest)) : W p l e R s m args below meth c H locs cells slots Q (F0 m pc ls (.int x :: .int i :: .ref a :: rest)) := by
  obtain ⟨h3, h4⟩ := wrI_ok hv
  subst h4
  obtain ⟨q, hq, hset⟩ := fl_get h1 h2
  exact va_bast hx hb hX.1 hP.1 hP.2 hS q 2 hq rfl h3 hdg (fun H1 l1 a1 d1 b1 => kk H1 l1 (set_PD hset a1 d1) b1)
theorem xlast {a i0 j0 : Nat} {N : Nat} {f g : Nat → Int64} {i : Int32} {x : Int64} (hx : p.tables.exec = Jvm.exec) (hb : c.code = cc) (hX : CX D cy s) (hP : PD D A0 ws H) (hS : va_S A0 H0 H locs) (h1 : ws[i0]? = some bk) (h2 : bk[j0]? = some (a, .inl (cy 1, N, .inr (.inl f)))) (hv : wrJ f N i x = some g) (hdg : decode cc pc = .ok (.lastore, 1))
    (kk : ∀ (H1 : Heap) (locs1 : List Loc), PD D A0 (ws.set i0 (bk.set j0 (a, .inl (cy 1, N, .inr (.inl g))))) H1 → va_S A0 H0 H1 locs1 → W p l e R s m args below meth c H1 locs1 cells slots Q (F0 m (pc + 1) ls rest)) : W p l e R s m args below meth c H locs cells slots Q (F0 m pc ls (.long x :: .int i :: .ref a :: rest)) := by
  obtain ⟨h3, h4⟩ := wrJ_ok hv
  subst h4
  obtain ⟨q, hq, hset⟩ := fl_get h1 h2
  exact va_last hx hb hX.1 hP.1 hP.2 hS q 1 hq rfl h3 hdg (fun H1 l1 a1 d1 b1 => kk H1 l1 (set_PD hset a1 d1) b1)
theorem xcpI {a0 a i0 j0 i1 j1 N M : Nat} {bk1 : va_W} {f g r : Nat → Int32} {sp dp n : Int32} (hx : p.tables.exec = Jvm.exec) (hb : c.code = cc) (hml : c.maxLocals = ls.size) (hown : s.vm.findClass own = some m.cls) (hlink : (Cond.methodLink own index arraycopyName).before args s = true) (hnat : (Cond.native arraycopyName).before args s = true) (hstat : (Cond.static arraycopyName).before args s = true) (hini : (Cond.initialized "java/lang/System").before args s = true) (hX : CX D cy s) (hP : PD D A0 ws H) (hS : va_S A0 H0 H locs) (h1 : ws[i0]? = some bk) (h2 : bk[j0]? = some (a0, .inl (cy 0, N, .inl f))) (h3 : ws[i1]? = some bk1) (h4 : bk1[j1]? = some (a, .inl (cy 0, M, .inl g))) (hv : cpI f N g M sp dp n = some r)
    (hframes : 1 ≤ R.frames) (hlocals : (rest.map fun v => v.category).sum + (nativeFrameWords "java/lang/System" "arraycopy" 5 + 11) ≤ R.locals) (hdg : decode cc pc = .ok (.invokestatic index, 3))
    (kk : ∀ (H1 : Heap) (locs1 : List Loc), PD D A0 (ws.set i1 (bk1.set j1 (a, .inl (cy 0, M, .inl r)))) H1 → va_S A0 H0 H1 locs1 → W p l e R s m args below meth c H1 locs1 cells slots Q (F0 m (pc + 3) ls rest)) : W p l e R s m args below meth c H locs cells slots Q (F0 m pc ls (.int n :: .int dp :: .ref a :: .int sp :: .ref a0 :: rest)) := by
  obtain ⟨⟨g1, g2, g3, g4, g5⟩, g6⟩ := cpI_ok hv
  subst g6
  obtain ⟨q, hq, hset⟩ := fl_get h3 h4
  exact va_copyi hx hb hml hown hlink hnat hstat hini hX.1 hP.1 hP.2 hS _ q 0 0 (fl_at h1 h2) hq rfl rfl rfl g1 g2 g3 g4 g5 (fun _ _ => rfl) hframes hlocals hdg (fun H1 l1 a1 d1 b1 => kk H1 l1 (set_PD hset a1 d1) b1)
theorem xcpJ {a0 a i0 j0 i1 j1 N M : Nat} {bk1 : va_W} {f g r : Nat → Int64} {sp dp n : Int32} (hx : p.tables.exec = Jvm.exec) (hb : c.code = cc) (hml : c.maxLocals = ls.size) (hown : s.vm.findClass own = some m.cls) (hlink : (Cond.methodLink own index arraycopyName).before args s = true) (hnat : (Cond.native arraycopyName).before args s = true) (hstat : (Cond.static arraycopyName).before args s = true) (hini : (Cond.initialized "java/lang/System").before args s = true) (hX : CX D cy s) (hP : PD D A0 ws H) (hS : va_S A0 H0 H locs) (h1 : ws[i0]? = some bk) (h2 : bk[j0]? = some (a0, .inl (cy 1, N, .inr (.inl f)))) (h3 : ws[i1]? = some bk1) (h4 : bk1[j1]? = some (a, .inl (cy 1, M, .inr (.inl g)))) (hv : cpJ f N g M sp dp n = some r)
    (hframes : 1 ≤ R.frames) (hlocals : (rest.map fun v => v.category).sum + (nativeFrameWords "java/lang/System" "arraycopy" 5 + 11) ≤ R.locals) (hdg : decode cc pc = .ok (.invokestatic index, 3))
    (kk : ∀ (H1 : Heap) (locs1 : List Loc), PD D A0 (ws.set i1 (bk1.set j1 (a, .inl (cy 1, M, .inr (.inl r))))) H1 → va_S A0 H0 H1 locs1 → W p l e R s m args below meth c H1 locs1 cells slots Q (F0 m (pc + 3) ls rest)) : W p l e R s m args below meth c H locs cells slots Q (F0 m pc ls (.int n :: .int dp :: .ref a :: .int sp :: .ref a0 :: rest)) := by
  obtain ⟨⟨g1, g2, g3, g4, g5⟩, g6⟩ := cpJ_ok hv
  subst g6
  obtain ⟨q, hq, hset⟩ := fl_get h3 h4
  exact va_copyl hx hb hml hown hlink hnat hstat hini hX.1 hP.1 hP.2 hS _ q 1 1 (fl_at h1 h2) hq rfl rfl rfl g1 g2 g3 g4 g5 (fun _ _ => rfl) hframes hlocals hdg (fun H1 l1 a1 d1 b1 => kk H1 l1 (set_PD hset a1 d1) b1)
theorem xaald {a i0 j0 t0 : Nat} {N : Nat} {C : String} {cA : ClassId} {f : Nat → Option Nat} {i : Int32} {v : Option Nat} (hx : p.tables.exec = Jvm.exec) (hb : c.code = cc) (hX : CX D cy s) (hP : PB D ws H) (h1 : ws[i0]? = some bk) (h2 : bk[j0]? = some (a, .inl (cA, N, .inr (.inr (.inr (.inr f)))))) (ht : (tyz cy)[t0]? = some (cA, .object C)) (hv : rdQ f N i = some v) (hdg : decode cc pc = .ok (.aaload, 1))
    (kk : W p l e R s m args below meth c H locs cells slots Q (F0 m (pc + 1) ls (va_rf v :: rest))) : W p l e R s m args below meth c H locs cells slots Q (F0 m pc ls (.int i :: .ref a :: rest)) := by
  obtain ⟨h3, h4⟩ := rdQ_ok hv
  subst h4
  exact va_aldq hx hb hX.1 hP _ t0 (fl_at h1 h2) ht h3 hdg kk
theorem roVq {res : Option Nat} (S : CallFix p m c cc nL s args lw_gd own) (hM : Met l y (WW y bytes maxL ret) rm (Rd D cy (.ref b :: As) wc) (va_Sq (fun v => v = res)) 0 0 (fun _ => False)) (cw : CallW R s args own C index y bytes maxL ret (WW y bytes maxL ret) rm 0 0 n) (hP : PB D wc H) (hX : CX D cy s) {ci N : Nat} {T : u_T} {fs : List Value} {r : List (Nat × va_E)} {rs : List va_W} (hc : vwCl[ci]? = some (C, T, N)) (he : wc = ((b, .inr (ci, fs)) :: r) :: rs) (hn : As.length = n) (hsize : ls.size = nL) (hst : st0 = As.reverse ++ .ref b :: rest) (hr : (rest.map fun v => v.category).sum ≤ 8) (hdg : decode cc pc = .ok (.invokevirtual index, 3)) (hf : cells + 0 ≤ R.cells ∧ slots + 0 ≤ R.slots)
    (kk : W p l e R s m args below meth c H locs cells slots Q (F0 m (pc + 3) ls (va_rf res :: rest))) : W p l e R s m args below meth c H locs cells slots Q (F0 m pc ls st0) :=
  va_csq (W.runV S hM cw (preV hP hX hc he) rfl hn hsize hst (lv_room hr) hdg hf) (fun _ h => h ▸ kk)
theorem xlen {a i0 j0 : Nat} {t0 : Nat} {x : vp_A} {cA : ClassId} {ty : FieldType} {v : Int32} (hx : p.tables.exec = Jvm.exec) (hb : c.code = cc) (hX : CX D cy s) (hP : PB D ws H) (h1 : ws[i0]? = some bk) (h2 : bk[j0]? = some (a, .inl (cA, x))) (ht : (tyz cy)[t0]? = some (cA, ty)) (hv : Int32.ofNat x.1 = v) (hdg : decode cc pc = .ok (.arraylength, 1))
    (kk : W p l e R s m args below meth c H locs cells slots Q (F0 m (pc + 1) ls (.int v :: rest))) : W p l e R s m args below meth c H locs cells slots Q (F0 m pc ls (.ref a :: rest)) :=
  va_alen hx hb hX.1 hP _ t0 (fl_at h1 h2) ht hv hdg kk
end CALLS

/-! a war's rows as they are read -/
section
variable {p p' : Nat → Int32} {w w' : tX9} {n n' c k o : Nat}
theorem RRow_y (hn : n ≤ n') (hn6 : n ≤ 60) (hk : k < n) (h : RRow p w n c k) (ho : o < n → ¬ p (6 * o) = wd 14 ∧ p (6 * o + 4) = wd 0) (ep : ∀ j, j < 6 * n → j ≠ 6 * o + 4 → p' j = p j) (ed : ∀ j, j < n → vX9_deed w' j = vX9_deed w j ∧ vX9_man w' j = vX9_man w j ∧ vX9_other w' j = vX9_other w j ∧ vX9_sign w' j = vX9_sign w j ∧ vX9_number w' j = vX9_number w j) (em : ∀ j, j < n → j ≠ o → vX9_mate w' j = vX9_mate w j) : RRow p' w' n' c k := by
  have q0 := ep (6 * k) (by omega) (by omega)
  have q1 := ep (6 * k + 1) (by omega) (by omega)
  have q2 := ep (6 * k + 2) (by omega) (by omega)
  have q5 := ep (6 * k + 5) (by omega) (by omega)
  obtain ⟨d1, d2, d3, d4, d5⟩ := ed k hk
  unfold RRow
  rw [q0, q1, q2, q5, d1, d2, d3, d4, d5]
  rcases h with h | h | h | h | h | h | h | h | h
  · exact Or.inl h
  · exact Or.inr (Or.inl h)
  · exact Or.inr (Or.inr (Or.inl h))
  · exact Or.inr (Or.inr (Or.inr (Or.inl h)))
  · exact Or.inr (Or.inr (Or.inr (Or.inr (Or.inl h))))
  · exact Or.inr (Or.inr (Or.inr (Or.inr (Or.inr (Or.inl h)))))
  · obtain ⟨g1, g2, q, g3, g4, g5, g6, g7⟩ := h
    have hko : k ≠ o := fun e => (ho (by omega)).1 (by rw [← e]; exact g1)
    have hqo : q ≠ o := fun e => by
      have := (ho (by omega)).2
      rw [← e, g6, wd_inj (by omega) (by omega)] at this
      omega
    exact Or.inr (Or.inr (Or.inr (Or.inr (Or.inr (Or.inr (Or.inl ⟨g1, g2, q, g3, by rw [ep _ (by omega) (by omega)]; exact g4, by rw [em k hk hko]; exact g5, by rw [ep _ (by omega) (by omega)]; exact g6, by rw [ep _ (by omega) (by omega)]; exact g7⟩))))))
  · obtain ⟨g1, g2, g0, q, g3, g4, g5, g6, g7⟩ := h
    have hko : k ≠ o := fun e => by
      have := (ho (by omega)).2
      rw [← e, g5, wd_inj (by omega) (by omega)] at this
      omega
    exact Or.inr (Or.inr (Or.inr (Or.inr (Or.inr (Or.inr (Or.inr (Or.inl ⟨g1, g2, g0, q, g3, by omega, by rw [ep _ (by omega) (by omega)]; exact g5, by rw [em k hk hko]; exact g6, by rw [ep _ (by omega) (by omega)]; exact g7⟩)))))))
  · obtain ⟨t, t1, t2, t3, t4, t5, t6, t7, q, g3, g4, g5, g6, g7⟩ := h
    have hko : k ≠ o := fun e => by
      have := (ho (by omega)).2
      rw [← e, g5, wd_inj (by omega) (by omega)] at this
      omega
    exact Or.inr (Or.inr (Or.inr (Or.inr (Or.inr (Or.inr (Or.inr (Or.inr ⟨t, t1, t2, t3, t4, t5, t6, t7, q, g3, by omega, by rw [ep _ (by omega) (by omega)]; exact g5, by rw [em k hk hko]; exact g6, by rw [ep _ (by omega) (by omega)]; exact g7⟩)))))))
theorem ROp_y (hk : k < n) (h : ROp p w c k) (hko : k ≠ o) (ep : ∀ j, j < 6 * n → j ≠ 6 * o + 4 → p' j = p j) (ed : ∀ j, j < n → vX9_deed w' j = vX9_deed w j ∧ vX9_man w' j = vX9_man w j ∧ vX9_other w' j = vX9_other w j ∧ vX9_sign w' j = vX9_sign w j ∧ vX9_number w' j = vX9_number w j) : ROp p' w' c k := by
  have q0 := ep (6 * k) (by omega) (by omega)
  have q1 := ep (6 * k + 1) (by omega) (by omega)
  have q2 := ep (6 * k + 2) (by omega) (by omega)
  have q4 := ep (6 * k + 4) (by omega) (by omega)
  have q5 := ep (6 * k + 5) (by omega) (by omega)
  obtain ⟨d1, d2, d3, d4, d5⟩ := ed k hk
  unfold ROp
  rw [q0, q1, q2, q4, q5, d1, d2, d3, d4, d5]
  exact h
theorem ROp.o14 (h : ROp p w c k) : ¬ p (6 * k) = wd 14 := by
  rcases h.2 with ⟨h1, _⟩ | ⟨t, ht, h1, _⟩
  · rw [h1]; decide
  · rw [h1, wd_inj (by omega) (by omega)]; omega
theorem opn_lt {q : Nat} (hn : n ≤ 60) (hr : RRow p w n c k ∨ ROp p w c k) (h : opn p k q) (hq : q < 1000) (hkq : k < q) : q < n := by
  obtain ⟨h1, h2⟩ := h
  rcases hr with hr | hr
  · have no : ∀ v, v < 1200 → v ≠ 13 → ¬ p (6 * k) = wd v := by
      intro v hv hv13 hp
      rw [hp] at h1
      rcases h1 with h1 | ⟨t, ht, h1⟩
      · rw [wd_inj (by omega) (by omega)] at h1; omega
      · rw [wd_inj (by omega) (by omega)] at h1; omega
    rcases hr with h | h | h | h | h | h | h | h | h
    · exact absurd h.1 (no 7 (by omega) (by omega))
    · exact absurd h.1 (no 8 (by omega) (by omega))
    · exact absurd h.1 (no 9 (by omega) (by omega))
    · exact absurd h.1 (no 10 (by omega) (by omega))
    · exact absurd h.1 (no 11 (by omega) (by omega))
    · exact absurd h.1 (no 15 (by omega) (by omega))
    · exact absurd h.1 (no 14 (by omega) (by omega))
    · obtain ⟨g1, g2, g0, q', g3, g4, g5, g6, g7⟩ := h
      rw [g5, wd_inj (by omega) (by omega)] at h2
      omega
    · obtain ⟨t, t1, t2, t3, t4, t5, t6, t7, q', g3, g4, g5, g6, g7⟩ := h
      rw [g5, wd_inj (by omega) (by omega)] at h2
      omega
  · rw [hr.1, wd_inj (by omega) (by omega)] at h2
    omega
end
def WIV (c s n dp : Nat) (op : Nat → Nat) (p : Nat → Int32) (w : tX9) : Prop := dp ≤ 3 ∧ s ≤ 30 ∧ n + dp ≤ 2 * s ∧ (∀ k, k < n → RRow p w n c k ∨ ∃ j, j < dp ∧ op j = k) ∧ (∀ j, j < dp → op j < n ∧ ROp p w c (op j)) ∧ (∀ i j, i < j → j < dp → op i < op j) ∧ (∀ a q a' q', a < q → a' < q' → q < n → q' < n → opn p a q → opn p a' q' → a < a' → a' < q → q' < q) ∧ (∀ j a q, j < dp → a < q → q < n → opn p a q → ¬ (a < op j ∧ op j < q))
section
variable {p p' : Nat → Int32} {w w' : tX9} {c s n dp : Nat} {op : Nat → Nat}
theorem WIV.row (h : WIV c s n dp op p w) {k : Nat} (hk : k < n) : RRow p w n c k ∨ ROp p w c k := by
  obtain ⟨_, _, _, h1, h2, _⟩ := h
  rcases h1 k hk with h3 | ⟨j, hj, rfl⟩
  · exact Or.inl h3
  · exact Or.inr (h2 j hj).2
/-- one step more -/
theorem WIV_step (h : WIV c s n dp op p w) (hs : s < 30) (ep : ∀ j, j < 6 * n → p' j = p j) (ed : ∀ j, j < n → vX9_deed w' j = vX9_deed w j ∧ vX9_man w' j = vX9_man w j ∧ vX9_other w' j = vX9_other w j ∧ vX9_sign w' j = vX9_sign w j ∧ vX9_number w' j = vX9_number w j) (em : ∀ j, j < n → vX9_mate w' j = vX9_mate w j) (g : Bool) (hg : g = true → dp < 3) (hr : g = false → RRow p' w' (n + 1) c n) (ho : g = true → ROp p' w' c n) : WIV c (s + 1) (n + 1) (dp + (if g then 1 else 0)) (fun j => if j = dp then (if g then n else op j) else op j) p' w' := by
  have hrw := fun k (hk : k < n) => h.row hk
  obtain ⟨h1, h2, h3, h4, h5, h6, h7, h8⟩ := h
  have hn6 : n ≤ 60 := by omega
  have hold : ∀ j, j < dp → (fun j => if j = dp then (if g then n else op j) else op j) j = op j := fun j hj => if_neg (by omega)
  have hpair : ∀ a q, a < q → q < n + 1 → opn p' a q → q < n ∧ opn p a q := by
    intro a q haq hq hop
    have : opn p a q := by
      obtain ⟨g1, g2⟩ := hop
      rw [ep (6 * a) (by omega)] at g1
      rw [ep (6 * a + 4) (by omega)] at g2
      exact ⟨g1, g2⟩
    exact ⟨opn_lt hn6 (hrw a (by omega)) this (by omega) haq, this⟩
  have hrow : ∀ k, k < n → RRow p w n c k → RRow p' w' (n + 1) c k := fun k hk hr => RRow_y (o := n) (by omega) hn6 hk hr (fun h => absurd h (by omega)) (fun j hj _ => ep j hj) ed (fun j hj _ => em j hj)
  have hopn : ∀ j, j < dp → ROp p' w' c (op j) := fun j hj => ROp_y (o := n) (h5 j hj).1 (h5 j hj).2 (by have := (h5 j hj).1; omega) (fun j hj _ => ep j hj) ed
  cases g
  · refine ⟨h1, by omega, by simp; omega, ?_, ?_, ?_, ?_, ?_⟩
    · intro k hk
      by_cases hkn : k = n
      · subst hkn; exact Or.inl (hr rfl)
      · rcases h4 k (by omega) with h9 | ⟨j, hj, rfl⟩
        · exact Or.inl (hrow k (by omega) h9)
        · exact Or.inr ⟨j, hj, hold j hj⟩
    · intro j hj
      have hj : j < dp := hj
      rw [hold j hj]
      exact ⟨by have := (h5 j hj).1; omega, hopn j hj⟩
    · intro i j hij hj
      have hj : j < dp := hj
      rw [hold i (by omega), hold j hj]
      exact h6 i j hij hj
    · intro a q a' q' g1 g2 g3 g4 g5 g6 g7 g8
      obtain ⟨e1, e2⟩ := hpair a q g1 g3 g5
      obtain ⟨e3, e4⟩ := hpair a' q' g2 g4 g6
      exact h7 a q a' q' g1 g2 e1 e3 e2 e4 g7 g8
    · intro j a q hj g1 g2 g3
      have hj : j < dp := hj
      obtain ⟨e1, e2⟩ := hpair a q g1 g2 g3
      rw [hold j hj]
      exact h8 j a q hj g1 e1 e2
  · have hnew : (fun j => if j = dp then (if true then n else op j) else op j) dp = n := by simp
    refine ⟨by have := hg rfl; simp; omega, by omega, by simp; omega, ?_, ?_, ?_, ?_, ?_⟩
    · intro k hk
      by_cases hkn : k = n
      · subst hkn; exact Or.inr ⟨dp, by simp, hnew⟩
      · rcases h4 k (by omega) with h9 | ⟨j, hj, rfl⟩
        · exact Or.inl (hrow k (by omega) h9)
        · exact Or.inr ⟨j, by simp; omega, hold j hj⟩
    · intro j hj
      have hj : j < dp + 1 := hj
      by_cases hjd : j = dp
      · subst hjd; rw [hnew]; exact ⟨by omega, ho rfl⟩
      · rw [hold j (by omega)]
        exact ⟨by have := (h5 j (by omega)).1; omega, hopn j (by omega)⟩
    · intro i j hij hj
      have hj : j < dp + 1 := hj
      rw [hold i (by omega)]
      by_cases hjd : j = dp
      · subst hjd; rw [hnew]; exact (h5 i (by omega)).1
      · rw [hold j (by omega)]; exact h6 i j hij (by omega)
    · intro a q a' q' g1 g2 g3 g4 g5 g6 g7 g8
      obtain ⟨e1, e2⟩ := hpair a q g1 g3 g5
      obtain ⟨e3, e4⟩ := hpair a' q' g2 g4 g6
      exact h7 a q a' q' g1 g2 e1 e3 e2 e4 g7 g8
    · intro j a q hj g1 g2 g3
      have hj : j < dp + 1 := hj
      obtain ⟨e1, e2⟩ := hpair a q g1 g2 g3
      by_cases hjd : j = dp
      · subst hjd; rw [hnew]; omega
      · rw [hold j (by omega)]; exact h8 j a q (by omega) g1 e1 e2
/-- an end -/
theorem WIV_end (h : WIV c s n (dp + 1) op p w) (ep : ∀ j, j < 6 * n → j ≠ 6 * op dp + 4 → p' j = p j) (ed : ∀ j, j < n → vX9_deed w' j = vX9_deed w j ∧ vX9_man w' j = vX9_man w j ∧ vX9_other w' j = vX9_other w j ∧ vX9_sign w' j = vX9_sign w j ∧ vX9_number w' j = vX9_number w j) (em : ∀ j, j < n → j ≠ op dp → vX9_mate w' j = vX9_mate w j) (e1 : p' (6 * n) = wd 14) (e2 : vX9_deed w' n = wd 17) (e3 : p' (6 * n + 4) = wd (op dp)) (e4 : vX9_mate w' n = wd (op dp)) (e5 : p' (6 * op dp + 4) = wd n) (e6 : vX9_mate w' (op dp) = wd n) : WIV c s (n + 1) dp op p' w' := by
  have hrw := fun k (hk : k < n) => h.row hk
  obtain ⟨h1, h2, h3, h4, h5, h6, h7, h8⟩ := h
  have hn6 : n < 60 := by omega
  generalize hO : op dp = o at ep em e3 e4 e5 e6
  obtain ⟨hon, hop⟩ := h5 dp (by omega)
  rw [hO] at hon hop
  have ho14 := hop.o14
  have hpk := ep (6 * o) (by omega) (by omega)
  have hkind : p' (6 * o) = wd 13 ∨ ∃ t, t < 3 ∧ p' (6 * o) = wd (1216 + t) := by
    rw [hpk]
    rcases hop.2 with ⟨g, _⟩ | ⟨t, ht, g, _⟩
    · exact Or.inl g
    · exact Or.inr ⟨t, ht, g⟩
  have hpair : ∀ a q, a < q → q < n + 1 → opn p' a q → (a = o ∧ q = n) ∨ (a ≠ o ∧ q < n ∧ opn p a q) := by
    intro a q haq hq hop'
    by_cases hao : a = o
    · left
      subst hao
      have := hop'.2
      rw [e5, wd_inj (by omega) (by omega)] at this
      exact ⟨rfl, this.symm⟩
    · right
      have : opn p a q := by
        obtain ⟨g1, g2⟩ := hop'
        rw [ep (6 * a) (by omega) (by omega)] at g1
        rw [ep (6 * a + 4) (by omega) (by omega)] at g2
        exact ⟨g1, g2⟩
      exact ⟨hao, opn_lt (by omega) (hrw a (by omega)) this (by omega) haq, this⟩
  refine ⟨by omega, h2, by omega, ?_, ?_, ?_, ?_, ?_⟩
  · intro k hk
    by_cases hkn : k = n
    · subst hkn
      left
      exact Or.inr (Or.inr (Or.inr (Or.inr (Or.inr (Or.inr (Or.inl ⟨e1, e2, o, hon, e3, e4, e5, hkind⟩))))))
    · by_cases hko : k = o
      · subst hko
        left
        obtain ⟨d1, d2, d3, d4, d5⟩ := ed k hon
        have q1 := ep (6 * k + 1) (by omega) (by omega)
        have q2 := ep (6 * k + 2) (by omega) (by omega)
        have q5 := ep (6 * k + 5) (by omega) (by omega)
        unfold RRow
        rw [hpk, q1, q2, q5, d1, d2, d3, d4, d5]
        rcases hop.2 with ⟨g1, g2, g3⟩ | ⟨t, ht, g1, g2, g3, g4, g5, g6⟩
        · exact Or.inr (Or.inr (Or.inr (Or.inr (Or.inr (Or.inr (Or.inr (Or.inl ⟨g1, g2, g3, n, hon, by omega, e5, e6, e1⟩)))))))
        · exact Or.inr (Or.inr (Or.inr (Or.inr (Or.inr (Or.inr (Or.inr (Or.inr ⟨t, ht, g1, g2, g3, g4, g5, g6, n, hon, by omega, e5, e6, e1⟩)))))))
      · rcases h4 k (by omega) with h9 | ⟨j, hj, rfl⟩
        · exact Or.inl (RRow_y (o := o) (by omega) (by omega) (by omega) h9 (fun _ => ⟨ho14, hop.1⟩) ep ed em)
        · refine Or.inr ⟨j, ?_, rfl⟩
          have : j ≠ dp := fun e => hko (by rw [e]; exact hO)
          omega
  · intro j hj
    have hjo : op j < o := by rw [← hO]; exact h6 j dp hj (by omega)
    exact ⟨by omega, ROp_y (o := o) (h5 j (by omega)).1 (h5 j (by omega)).2 (by omega) ep ed⟩
  · intro i j hij hj
    exact h6 i j hij (by omega)
  · intro a q a' q' g1 g2 g3 g4 g5 g6 g7 g8
    rcases hpair a q g1 g3 g5 with ⟨r1, r2⟩ | ⟨r1, r2, r3⟩
    · rcases hpair a' q' g2 g4 g6 with ⟨t1, t2⟩ | ⟨t1, t2, t3⟩
      · omega
      · omega
    · rcases hpair a' q' g2 g4 g6 with ⟨t1, t2⟩ | ⟨t1, t2, t3⟩
      · exfalso
        have := h8 dp a q (by omega) g1 r2 r3
        rw [hO] at this
        exact this ⟨by omega, by omega⟩
      · exact h7 a q a' q' g1 g2 r2 t2 r3 t3 g7 g8
  · intro j a q hj g1 g2 g3
    have hjo : op j < o := by rw [← hO]; exact h6 j dp hj (by omega)
    rcases hpair a q g1 g2 g3 with ⟨r1, r2⟩ | ⟨r1, r2, r3⟩
    · omega
    · exact h8 j a q (by omega) g1 r2 r3
end

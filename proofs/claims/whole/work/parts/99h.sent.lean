/-! a sentence: all that both read alike -/
def oneP (c : Nat × Nat) (n l : Nat) (b : Nat → Nat) (ns p : Nat) : Prop := ∀ d d' M a o W, wI n l b ns M a o W p → oneS (d + 9 + 3 * (8 - W)) (d' + 9 + 4 * (8 - W)) c n l b p ns M a o W
def allP (c : Nat × Nat) (n l : Nat) (b : Nat → Nat) (ns p : Nat) : Prop := ∀ d d' M a o W, wI n l b ns M a o W p → allS (d + 10 + 3 * (8 - W)) (d' + 10 + 4 * (8 - W)) c n l b p ns M a o W
def anyP (c : Nat × Nat) (n l : Nat) (b : Nat → Nat) (ns p : Nat) : Prop := ∀ d d' M a o W, wI n l b ns M a o W p → anyS (d + 11 + 3 * (8 - W)) (d' + 11 + 4 * (8 - W)) c n l b p ns M a o W
theorem sent_one (c : Nat × Nat) {n l : Nat} {b : Nat → Nat} {ns p : Nat} (later : ∀ p1, p < p1 → p1 ≤ n → oneP c n l b ns p1 ∧ anyP c n l b ns p1) : oneP c n l b ns p := by
  intro d d' M a o W hI
  obtain ⟨hC, hM, hS, ho, ha2, hW, hN⟩ := id hI
  by_cases hx : wX n l b p
  · by_cases hm : o = 20 ∨ W = 8
    · rw [show d + 9 + 3 * (8 - W) = (d + 5 + 3 * (8 - W)) + 4 by omega, show d' + 9 + 4 * (8 - W) = (d' + 5 + 4 * (8 - W)) + 4 by omega]
      exact one_many _ _ c hC hM hS hx ho hW hm
    · have ho2 : o < 20 := by omega
      have hW2 : W < 8 := by omega
      have ha : a < 40 := by omega
      rcases hx with h40 | ⟨y, y1, y2, hA⟩
      · rw [show d + 9 + 3 * (8 - W) = (d + 4 + 3 * (8 - W)) + 5 by omega, show d' + 9 + 4 * (8 - W) = (d' + 3 + 4 * (8 - W)) + 6 by omega]
        refine one_bracket _ _ c hI ho2 hW2 h40 (fun M1 p1 h i => ?_)
        have := (later p1 h i.1.1).2 d d' M1 a (o + 1) (W + 1) i
        rw [show d + 11 + 3 * (8 - (W + 1)) = d + 4 + 3 * (8 - W) + 4 by omega, show d' + 11 + 4 * (8 - (W + 1)) = d' + 3 + 4 * (8 - W) + 4 by omega] at this
        exact this
      · have hy : y = 14 ∨ (y = 15 ∨ y = 16 ∨ y = 17) ∨ y = 18 ∨ y = 19 ∨ (y = 20 ∨ y = 21 ∨ y = 22) := by omega
        rcases hy with h | h | h | h | h
        · subst h
          rw [show d + 9 + 3 * (8 - W) = (d + 5 + 3 * (8 - W)) + 4 by omega, show d' + 9 + 4 * (8 - W) = (d' + 3 + 4 * (8 - W)) + 6 by omega]
          refine one_not _ _ c hI ho2 hW2 hA (fun M1 p1 h i => ?_)
          have := (later p1 h i.1.1).1 (d + 2) (d' + 2) M1 a (o + 1) (W + 1) i
          rw [show d + 2 + 9 + 3 * (8 - (W + 1)) = d + 5 + 3 * (8 - W) + 3 by omega, show d' + 2 + 9 + 4 * (8 - (W + 1)) = d' + 3 + 4 * (8 - W) + 4 by omega] at this
          exact this
        · rw [show d + 9 + 3 * (8 - W) = (d + 5 + 3 * (8 - W)) + 4 by omega, show d' + 9 + 4 * (8 - W) = (d' + 5 + 4 * (8 - W)) + 4 by omega]
          rcases h with h | h | h
          · exact one_plain _ _ c hC hM hS ho2 hW2 ha (w := 2) (Or.inl ⟨h, rfl⟩) hA
          · exact one_plain _ _ c hC hM hS ho2 hW2 ha (w := 16) (Or.inr (Or.inl ⟨h, rfl⟩)) hA
          · exact one_plain _ _ c hC hM hS ho2 hW2 ha (w := 17) (Or.inr (Or.inr ⟨h, rfl⟩)) hA
        · subst h
          rw [show d + 9 + 3 * (8 - W) = (d + 2 + 3 * (8 - W)) + 7 by omega, show d' + 9 + 4 * (8 - W) = (d' + 1 + 4 * (8 - W)) + 8 by omega]
          exact one_by _ _ c hC hM hS ho2 hW2 ha hN hA
        · subst h
          rw [show d + 9 + 3 * (8 - W) = (d + 3 + 3 * (8 - W)) + 6 by omega, show d' + 9 + 4 * (8 - W) = (d' + 2 + 4 * (8 - W)) + 7 by omega]
          exact one_on _ _ c hC hM hS ho2 hW2 ha hA
        · rw [show d + 9 + 3 * (8 - W) = (d + 2 + 3 * (8 - W)) + 7 by omega, show d' + 9 + 4 * (8 - W) = (d' + 3 + 4 * (8 - W)) + 6 by omega]
          exact one_count _ _ c hC hM hS ho2 hW2 ha h hA
  · rw [show d + 9 + 3 * (8 - W) = (d + 5 + 3 * (8 - W)) + 4 by omega, show d' + 9 + 4 * (8 - W) = (d' + 5 + 4 * (8 - W)) + 4 by omega]
    exact one_no _ _ c hC hM hx
theorem sent_every (c : Nat × Nat) {n l : Nat} {b : Nat → Nat} {ns : Nat} : ∀ m p, n - p < m → p ≤ n → oneP c n l b ns p ∧ allP c n l b ns p ∧ anyP c n l b ns p := by
  intro m
  induction m with
  | zero => intro p h; exact absurd h (Nat.not_lt_zero _)
  | succ m ih =>
    intro p hm hp
    have later : ∀ p1, p < p1 → p1 ≤ n → oneP c n l b ns p1 ∧ allP c n l b ns p1 ∧ anyP c n l b ns p1 := fun p1 h h2 => ih p1 (by omega) h2
    have h1 : oneP c n l b ns p := sent_one c (fun p1 h h2 => ⟨(later p1 h h2).1, (later p1 h h2).2.2⟩)
    have h1' : ∀ p1, p ≤ p1 → p1 ≤ n → oneP c n l b ns p1 := fun p1 h h2 => by
      by_cases e : p1 = p
      · rw [e]; exact h1
      · exact (later p1 (by omega) h2).1
    have h2 : allP c n l b ns p := fun d d' M a o W hI => by
      rw [show d + 10 + 3 * (8 - W) = (d + 6 + 3 * (8 - W)) + 4 by omega, show d' + 10 + 4 * (8 - W) = (d' + 6 + 4 * (8 - W)) + 4 by omega]
      refine all_of _ _ c hI (fun M1 p1 a1 o1 h i => ?_)
      have := h1' p1 h i.1.1 d d' M1 a1 o1 W i
      rw [show d + 9 + 3 * (8 - W) = d + 6 + 3 * (8 - W) + 3 by omega, show d' + 9 + 4 * (8 - W) = d' + 6 + 4 * (8 - W) + 3 by omega] at this
      exact this
    have h2' : ∀ p1, p ≤ p1 → p1 ≤ n → allP c n l b ns p1 := fun p1 h h3 => by
      by_cases e : p1 = p
      · rw [e]; exact h2
      · exact (later p1 (by omega) h3).2.1
    refine ⟨h1, h2, fun d d' M a o W hI => ?_⟩
    rw [show d + 11 + 3 * (8 - W) = (d + 7 + 3 * (8 - W)) + 4 by omega, show d' + 11 + 4 * (8 - W) = (d' + 7 + 4 * (8 - W)) + 4 by omega]
    refine any_of _ _ c hI (fun M1 p1 a1 o1 h i => ?_)
    have := h2' p1 h i.1.1 d d' M1 a1 o1 W i
    rw [show d + 10 + 3 * (8 - W) = d + 7 + 3 * (8 - W) + 3 by omega, show d' + 10 + 4 * (8 - W) = d' + 7 + 4 * (8 - W) + 3 by omega] at this
    exact this
/-- a whole sentence is read -/
theorem sent_any (d d' : Nat) (c : Nat × Nat) {M : qb_M} {n l : Nat} {b : Nat → Nat} {ns : Nat} (hI : wI n l b ns M 0 0 0 0) : anyS (d + 35) (d' + 43) c n l b 0 ns M 0 0 0 := (sent_every c (n + 1) 0 (by omega) (Nat.zero_le _)).2.2 d d' M 0 0 0 hI

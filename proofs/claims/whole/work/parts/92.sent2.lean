/-! a sentence's draft: steps i to j of the component are what node j - 1 of the reference says -/
def sh (M : qb_M) : qb_M := (fun a k => if a = 194 ∧ 72 ≤ k then M.1 211 (k - 72) else M.1 a k, M.2)
theorem sh_n {M : qb_M} {j : Nat} : (sh M).1 194 (0 + 72 + j) = M.1 211 j := by
  show (if 194 = 194 ∧ 72 ≤ 0 + 72 + j then M.1 211 (0 + 72 + j - 72) else _) = _
  rw [if_pos ⟨rfl, by omega⟩, show 0 + 72 + j - 72 = j by omega]
theorem sh_o {M : qb_M} {a k : Nat} (h : a ≠ 194) : (sh M).1 a k = M.1 a k := if_neg (fun z => h z.1)
def wL (M : qb_M) (ns i : Nat) : Prop := qE_lf (sh M) 150 194 0 ns i i
theorem wL_iff {M : qb_M} {ns i : Nat} {t : qb_M} {q : Nat} (h1 : t.2.2 (q + 1) i = M.2.2 151 i ∧ t.1 (q + 2) i = M.1 152 i ∧ t.1 (q + 3) i = M.1 153 i) (h2 : ∀ j, 4 * i ≤ j → j ≤ 4 * i + 3 → t.1 194 (0 + 72 + j) = M.1 211 j) (h : wL M ns i) : qE_lf t q 194 0 ns i i := by
  have e0 := h2 (4 * i) (by omega) (by omega)
  have e1 := h2 (4 * i + 1) (by omega) (by omega)
  have e2 := h2 (4 * i + 2) (by omega) (by omega)
  have e3 := h2 (4 * i + 3) (by omega) (by omega)
  have f0 : (sh M).1 194 (0 + 72 + 4 * i) = M.1 211 (4 * i) := sh_n
  have f1 : (sh M).1 194 (0 + 72 + (4 * i + 1)) = M.1 211 (4 * i + 1) := sh_n
  have f2 : (sh M).1 194 (0 + 72 + (4 * i + 2)) = M.1 211 (4 * i + 2) := sh_n
  have f3 : (sh M).1 194 (0 + 72 + (4 * i + 3)) = M.1 211 (4 * i + 3) := sh_n
  rw [← Nat.add_assoc] at e1 e2 e3 f1 f2 f3
  have g1 : (sh M).2.2 (150 + 1) i = M.2.2 151 i := rfl
  have g2 : (sh M).1 (150 + 2) i = M.1 152 i := sh_o (by decide)
  have g3 : (sh M).1 (150 + 3) i = M.1 153 i := sh_o (by decide)
  unfold wL qE_lf at h
  unfold qE_lf
  rw [f0, f1, f2, f3, g1, g2, g3] at h
  rw [e0, e1, e2, e3, h1.1, h1.2.1, h1.2.2]
  exact h
theorem wL_mv {M N : qb_M} {ns i : Nat} (h : wL M ns i) (h1 : N.2.2 151 i = M.2.2 151 i ∧ N.1 152 i = M.1 152 i ∧ N.1 153 i = M.1 153 i) (h2 : ∀ j, 4 * i ≤ j → j ≤ 4 * i + 3 → N.1 211 j = M.1 211 j) : wL N ns i := by
  refine wL_iff (t := sh N) (q := 150) ⟨h1.1, (sh_o (by decide)).trans h1.2.1, (sh_o (by decide)).trans h1.2.2⟩ (fun j a b => sh_n.trans (h2 j a b)) h
def wE (M : qb_M) (ns : Nat) : Nat → Nat → Nat → Prop
  | 0, _, _ => False
  | n + 1, i, j => i < j ∧ j ≤ 40 ∧ ((j = i + 1 ∧ wL M ns i) ∨ (M.1 211 (4 * (j - 1)) = 1 ∧ M.1 211 (4 * (j - 1) + 1) = nI (j - 1 - 1) ∧ M.2.2 151 (j - 1) = some 15 ∧ wE M ns n i (j - 1)) ∨ (∃ m, (M.1 211 (4 * (j - 1)) = 2 ∧ M.2.2 151 (j - 1) = some 14 ∨ M.1 211 (4 * (j - 1)) = 3 ∧ M.2.2 151 (j - 1) = some 13) ∧ M.1 211 (4 * (j - 1) + 1) = nI (m - 1) ∧ M.1 211 (4 * (j - 1) + 2) = nI (j - 1 - 1) ∧ wE M ns n i m ∧ wE M ns n m (j - 1)))
theorem wE_lt {M : qb_M} {ns n i j : Nat} (h : wE M ns n i j) : i < j ∧ j ≤ 40 := by
  cases n with
  | zero => exact absurd h id
  | succ n => exact ⟨h.1, h.2.1⟩
theorem wE_mono {M : qb_M} {ns : Nat} : ∀ n m i j, n ≤ m → wE M ns n i j → wE M ns m i j
  | 0, _, _, _, _, h => absurd h id
  | n + 1, 0, _, _, hm, _ => absurd hm (by omega)
  | n + 1, m + 1, i, j, hm, h => by
    obtain ⟨h1, h2, h3⟩ := h
    refine ⟨h1, h2, ?_⟩
    rcases h3 with h3 | ⟨g1, g2, g3, g4⟩ | ⟨x, g1, g2, g3, g4, g5⟩
    · exact Or.inl h3
    · exact Or.inr (Or.inl ⟨g1, g2, g3, wE_mono n m i (j - 1) (by omega) g4⟩)
    · exact Or.inr (Or.inr ⟨x, g1, g2, g3, wE_mono n m i x (by omega) g4, wE_mono n m x (j - 1) (by omega) g5⟩)
theorem wE_mv {M N : qb_M} {ns a : Nat} (h1 : ∀ i, i < a → N.2.2 151 i = M.2.2 151 i ∧ N.1 152 i = M.1 152 i ∧ N.1 153 i = M.1 153 i) (h2 : ∀ j, j < 4 * a → N.1 211 j = M.1 211 j) : ∀ n i j, j ≤ a → wE M ns n i j → wE N ns n i j
  | 0, _, _, _, h => absurd h id
  | n + 1, i, j, hj, h => by
    obtain ⟨l1, l2, h3⟩ := h
    refine ⟨l1, l2, ?_⟩
    rcases h3 with ⟨h3, h4⟩ | ⟨g1, g2, g3, g4⟩ | ⟨x, g1, g2, g3, g4, g5⟩
    · exact Or.inl ⟨h3, wL_mv h4 (h1 i (by omega)) (fun k _ _ => h2 k (by omega))⟩
    · refine Or.inr (Or.inl ⟨?_, ?_, ?_, wE_mv h1 h2 n i (j - 1) (by omega) g4⟩)
      · rw [h2 _ (by omega)]; exact g1
      · rw [h2 _ (by omega)]; exact g2
      · rw [(h1 _ (by omega)).1]; exact g3
    · have := wE_lt g5
      refine Or.inr (Or.inr ⟨x, ?_, ?_, ?_, wE_mv h1 h2 n i x (by omega) g4, wE_mv h1 h2 n x (j - 1) (by omega) g5⟩)
      · rw [h2 _ (by omega), (h1 _ (by omega)).1]; exact g1
      · rw [h2 _ (by omega)]; exact g2
      · rw [h2 _ (by omega)]; exact g3
/-- what is kept of it -/
theorem wE_q {M t : qb_M} {ns a q : Nat} (h1 : ∀ i, i < a → t.2.2 (q + 1) i = M.2.2 151 i ∧ t.1 (q + 2) i = M.1 152 i ∧ t.1 (q + 3) i = M.1 153 i) (h2 : ∀ j, j < 4 * a → t.1 194 (0 + 72 + j) = M.1 211 j) : ∀ n i j, j ≤ a → wE M ns n i j → qE t q 194 0 ns n i j (j - 1)
  | 0, _, _, _, h => absurd h id
  | n + 1, i, j, hj, h => by
    obtain ⟨l1, l2, h3⟩ := h
    have e0 := h2 (4 * (j - 1)) (by omega)
    have e1 := h2 (4 * (j - 1) + 1) (by omega)
    have e2 := h2 (4 * (j - 1) + 2) (by omega)
    rw [← Nat.add_assoc] at e1 e2
    refine ⟨by omega, l1, l2, ?_⟩
    rcases h3 with ⟨h3, h4⟩ | ⟨g1, g2, g3, g4⟩ | ⟨x, g1, g2, g3, g4, g5⟩
    · refine Or.inl ⟨h3, ?_⟩
      have := wL_iff (h1 i (by omega)) (fun k _ _ => h2 k (by omega)) h4
      rw [show j - 1 = i by omega]
      exact this
    · refine Or.inr (Or.inl ⟨j - 1 - 1, ?_, ?_, ?_, wE_q h1 h2 n i (j - 1) (by omega) g4⟩)
      · rw [e0]; exact g1
      · rw [e1]; exact g2
      · rw [(h1 _ (by omega)).1]; exact g3
    · have := wE_lt g5
      refine Or.inr (Or.inr ⟨x - 1, j - 1 - 1, x, ?_, ?_, ?_, wE_q h1 h2 n i x (by omega) g4, wE_q h1 h2 n x (j - 1) (by omega) g5⟩)
      · rw [e0, (h1 _ (by omega)).1]; exact g1
      · rw [e1]; exact g2
      · rw [e2]; exact g3

/-! a sentence, read by both: how a reader ends; a one that is said by a word -/
def wS (M : qb_M) (a o W : Nat) : Prop := (M.1 150 4 = nI a ∧ M.1 192 41 = nI a) ∧ (M.1 150 5 = nI o ∧ M.1 192 42 = nI o) ∧ M.1 192 43 = nI W
def wF (a x k : Nat) : Prop := x = 65 ∧ 5 ≤ k ∧ k ≤ 10 ∨ x = 150 ∧ (k = 4 ∨ k = 5) ∨ 151 ≤ x ∧ x ≤ 153 ∧ a ≤ k ∨ x = 192 ∧ (5 ≤ k ∧ k ≤ 9 ∨ k = 12 ∨ k = 13 ∨ 41 ≤ k ∧ k ≤ 44) ∨ x = 211 ∧ 4 * a ≤ k
def wG (x k : Nat) : Prop := wF 0 x k ∨ x = 65 ∧ (k = 2 ∨ k = 3) ∨ x = 192 ∧ (k = 10 ∨ k = 11)
def wN (A B : qb_M) (ns : Nat) : Prop := A.1 67 7 = nI ns ∧ B.1 194 2 = nI ns ∧ ns ≤ 5 ∧ ∀ k, k < ns → qn (A.2.1 71 k) (B.2.1 199 (10 + k))
def wO (M : qb_M) (a o W ns : Nat) : Prop := ∃ a' o', wS M a' o' W ∧ o < o' ∧ o' ≤ 20 ∧ a' + 1 ≤ a + 2 * (o' - o) ∧ M.1 192 44 = nI (a' - 1) ∧ wE M ns (a' - a) a a'
theorem wF_mo {a b x k : Nat} (hab : b ≤ a) (h : wF a x k) : wF b x k := by unfold wF at h ⊢; omega
theorem wL_cells {N : qb_M} {a : Nat} : (sh N).1 194 (0 + 72 + 4 * a) = N.1 211 (4 * a) ∧ (sh N).1 194 (0 + 72 + 4 * a + 1) = N.1 211 (4 * a + 1) ∧ (sh N).1 194 (0 + 72 + 4 * a + 2) = N.1 211 (4 * a + 2) ∧ (sh N).1 194 (0 + 72 + 4 * a + 3) = N.1 211 (4 * a + 3) := by
  have f0 : (sh N).1 194 (0 + 72 + 4 * a) = N.1 211 (4 * a) := sh_n
  have f1 : (sh N).1 194 (0 + 72 + (4 * a + 1)) = N.1 211 (4 * a + 1) := sh_n
  have f2 : (sh N).1 194 (0 + 72 + (4 * a + 2)) = N.1 211 (4 * a + 2) := sh_n
  have f3 : (sh N).1 194 (0 + 72 + (4 * a + 3)) = N.1 211 (4 * a + 3) := sh_n
  rw [← Nat.add_assoc] at f1 f2 f3
  exact ⟨f0, f1, f2, f3⟩
/-- what a one is, as both say it -/
def wK (ns w : Nat) (sg v x1 x2 x3 x4 : Int32) : Prop := (w = 2 ∧ x1 = 65 ∨ w = 16 ∧ x1 = 66 ∨ w = 17 ∧ x1 = 67) ∨ (∃ y, w = 18 ∧ x1 = 68 ∧ y < ns ∧ v = nI y ∧ x2 = nI y) ∨ (∃ y, w = 19 ∧ x1 = 69 ∧ y < 8 ∧ v = nI y ∧ x2 = nI y) ∨ (∃ y, (w = 20 ∨ w = 21 ∨ w = 22) ∧ x1 = nI (50 + w) ∧ y < 1000 ∧ v = nI y ∧ x3 = nI y ∧ sg = x4 ∧ (sg = 60 ∨ sg = 61 ∨ sg = 62))
theorem wL_mk {N : qb_M} {ns a w : Nat} {sg v x1 x2 x3 x4 : Int32} (hk : wK ns w sg v x1 x2 x3 x4) (h1 : N.2.2 151 a = some w) (h2 : N.1 152 a = sg) (h3 : N.1 153 a = v) (e : N.1 211 (4 * a) = x1 ∧ N.1 211 (4 * a + 1) = x2 ∧ N.1 211 (4 * a + 2) = x3 ∧ N.1 211 (4 * a + 3) = x4) : wL N ns a := by
  obtain ⟨f0, f1, f2, f3⟩ := wL_cells (N := N) (a := a)
  have g1 : (sh N).2.2 (150 + 1) a = some w := h1
  have g2 : (sh N).1 (150 + 2) a = sg := (sh_o (by decide)).trans h2
  have g3 : (sh N).1 (150 + 3) a = v := (sh_o (by decide)).trans h3
  unfold wL qE_lf
  rw [f0, f1, f2, f3, e.1, e.2.1, e.2.2.1, e.2.2.2, g1, g2, g3]
  rcases hk with hk | ⟨y, k1, k2, k3, k4, k5⟩ | ⟨y, k1, k2, k3, k4, k5⟩ | ⟨y, k1, k2, k3, k4, k5, k6, k7⟩
  · exact Or.inl ⟨w, hk, rfl⟩
  · exact Or.inr (Or.inl ⟨y, by rw [k1], k2, k3, k4, k5⟩)
  · exact Or.inr (Or.inr (Or.inl ⟨y, by rw [k1], k2, k3, k4, k5⟩))
  · exact Or.inr (Or.inr (Or.inr ⟨w, y, k1, rfl, k2, k3, k4, k5, k6, k7⟩))
theorem wK_lt {ns w : Nat} {sg v x1 x2 x3 x4 : Int32} (hk : wK ns w sg v x1 x2 x3 x4) : w < 23 := by
  rcases hk with hk | ⟨y, k1, k2, k3, k4, k5⟩ | ⟨y, k1, k2, k3, k4, k5⟩ | ⟨y, k1, k2, k3, k4, k5, k6, k7⟩ <;> omega
/-- both write a one down -/
theorem sn_leaf (d d' : Nat) (c : Nat × Nat) {A B : qb_M} {n l : Nat} {b : Nat → Nat} {p : Nat} (hC : rC A n l b p) (hM : rM B n l b p) {a ns w : Nat} (ha : a < 40) (h4 : A.1 150 4 = nI a) (h41 : B.1 192 41 = nI a) {sg v x1 x2 x3 x4 : Int32} (hk : wK ns w sg v x1 x2 x3 x4) : ∃ A' B', (∀ u, qe (d + 1) 146 [.ref 150, .ref w, .int sg, .int v] (qb_hp (qj A u), 149, c) = some (some (.int (1)), (qb_hp (qj A' u), 149, c))) ∧ (∀ u, qe (d' + 1) 284 [.ref 192, .int x1, .int x2, .int x3, .int x4] (qb_hp (qj u B), 149, c) = some (some (.int (nI a)), (qb_hp (qj u B'), 149, c))) ∧ rC A' n l b p ∧ rM (qb_ui B' 192 44 (nI a)) n l b p ∧ wL (qj A' (qb_ui B' 192 44 (nI a))) ns a ∧ A'.1 150 4 = nI (a + 1) ∧ (qb_ui B' 192 44 (nI a)).1 192 41 = nI (a + 1) ∧ (qb_ui B' 192 44 (nI a)).1 192 44 = nI a ∧ qG (fun x k => (x = 151 ∨ x = 152 ∨ x = 153) ∧ k = a ∨ x = 150 ∧ k = 4) A A' ∧ qG (fun x k => x = 211 ∧ 4 * a ≤ k ∧ k ≤ 4 * a + 3 ∨ x = 192 ∧ (k = 41 ∨ k = 44)) B (qb_ui B' 192 44 (nI a)) := by
  obtain ⟨A', a1, a2, a3, a4, a5, a6⟩ := sn_add d c ha (wK_lt hk) h4 sg v
  obtain ⟨B', b1, ⟨b2, b3, b4, b5⟩, b6, b7⟩ := sn_says d' c (a := a) (by omega) h41 x1 x2 x3 x4
  have gB : qG (fun x k => x = 211 ∧ 4 * a ≤ k ∧ k ≤ 4 * a + 3 ∨ x = 192 ∧ (k = 41 ∨ k = 44)) B (qb_ui B' 192 44 (nI a)) := (b7.mo (fun x k h => by omega)).ui (by omega)
  refine ⟨A', B', a1, b1, hC.mv a6 (fun x k h => by omega), hM.mv gB (fun x k h => by omega), ?_, a5, (qb_ui_1n (by omega)).trans b6, qb_ui_1s, a6, gB⟩
  refine wL_mk hk ?_ ?_ ?_ ⟨?_, ?_, ?_, ?_⟩
  · show A'.2.2 151 a = _
    exact a2
  · show A'.1 152 a = _
    exact a3
  · show A'.1 153 a = _
    exact a4
  · show (qb_ui B' 192 44 (nI a)).1 211 _ = _
    exact (qb_ui_1n (by omega)).trans b2
  · show (qb_ui B' 192 44 (nI a)).1 211 _ = _
    exact (qb_ui_1n (by omega)).trans b3
  · show (qb_ui B' 192 44 (nI a)).1 211 _ = _
    exact (qb_ui_1n (by omega)).trans b4
  · show (qb_ui B' 192 44 (nI a)).1 211 _ = _
    exact (qb_ui_1n (by omega)).trans b5

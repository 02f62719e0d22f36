/-! LIKENESS of component and reference -/
def qn_32 : List Nat → Nat := List.foldl (fun a l => 32 * a + l) 0
def qn_27 : List Nat → Nat := List.foldl (fun a l => 27 * a + l) 0
def qn_ok (ls : List Nat) : Prop := (1 ≤ ls.length ∧ ls.length ≤ 7) ∧ ∀ l, l ∈ ls → 1 ≤ l ∧ l ≤ 26
/-- one name, as both write it -/
def qn (x y : Int64) : Prop := ∃ ls, qn_ok ls ∧ x = lN (qn_32 ls) ∧ y = lN (qn_27 ls)
/-- one board, as both have it -/
def qZp (s : qb_M) (p A o B b nw nm ns V F0 : Nat) (lo hi se : Nat → Nat) : Prop := (2 ≤ nw ∧ nw ≤ 8 ∧ nm ≤ 10 ∧ ns ≤ 5 ∧ V ≤ 9 ∧ F0 < 2 ^ nm) ∧ (s.1 p 5 = nI nw ∧ s.1 p 6 = nI nm ∧ s.1 p 7 = nI ns ∧ s.1 p 8 = nI V ∧ s.1 p 9 = nI F0) ∧ (s.1 A o = nI nw ∧ s.1 A (o + 1) = nI nm ∧ s.1 A (o + 2) = nI ns ∧ s.1 A (o + 3) = nI V ∧ s.1 A (o + 4) = nI F0) ∧ (∀ k, k < nm → (lo k < hi k ∧ hi k < nw) ∧ (s.1 (p + 1) k = nI (lo k) ∧ s.1 (p + 2) k = nI (hi k)) ∧ (s.1 A (o + 5 + k) = nI (lo k) ∧ s.1 A (o + 15 + k) = nI (hi k)) ∧ qn (s.2.1 (p + 3) k) (s.2.1 B (b + k))) ∧ (∀ k, k < ns → se k < nm ∧ s.1 (p + 5) k = nI (se k) ∧ s.1 A (o + 25 + k) = nI (se k) ∧ qn (s.2.1 (p + 4) k) (s.2.1 B (b + 10 + k)))
theorem qZp.mv {P : Nat → Nat → Prop} {s t : qb_M} {p A o B b nw nm ns V F0 : Nat} {lo hi se : Nat → Nat} (h : qZp s p A o B b nw nm ns V F0 lo hi se) (hf : qG P s t) (h1 : ∀ x k, p ≤ x ∧ x ≤ p + 5 → ¬ P x k) (h2 : ∀ k, o ≤ k → k < o + 30 → ¬ P A k) (h3 : ∀ k, b ≤ k → k < b + 15 → ¬ P B k) : qZp t p A o B b nw nm ns V F0 lo hi se := by
  obtain ⟨g0, ⟨a1, a2, a3, a4, a5⟩, ⟨b1, b2, b3, b4, b5⟩, g4, g5⟩ := h
  refine ⟨g0, ⟨(hf.i (h1 _ _ (by omega))).trans a1, (hf.i (h1 _ _ (by omega))).trans a2, (hf.i (h1 _ _ (by omega))).trans a3, (hf.i (h1 _ _ (by omega))).trans a4, (hf.i (h1 _ _ (by omega))).trans a5⟩, ⟨(hf.i (h2 _ (by omega) (by omega))).trans b1, (hf.i (h2 _ (by omega) (by omega))).trans b2, (hf.i (h2 _ (by omega) (by omega))).trans b3, (hf.i (h2 _ (by omega) (by omega))).trans b4, (hf.i (h2 _ (by omega) (by omega))).trans b5⟩, fun k hk => ?_, fun k hk => ?_⟩
  · obtain ⟨c1, c2, c3, c4⟩ := g4 k hk
    rw [hf.i (h1 _ _ (by omega)), hf.i (h1 _ _ (by omega)), hf.i (h2 _ (by omega) (by omega)), hf.i (h2 _ (by omega) (by omega)), hf.l (h1 _ _ (by omega)), hf.l (h3 _ (by omega) (by omega))]
    exact ⟨c1, c2, c3, c4⟩
  · obtain ⟨c1, c2, c3, c4⟩ := g5 k hk
    rw [hf.i (h1 _ _ (by omega)), hf.i (h2 _ (by omega) (by omega)), hf.l (h1 _ _ (by omega)), hf.l (h3 _ (by omega) (by omega))]
    exact ⟨c1, c2, c3, c4⟩
theorem qZp.c {s : qb_M} {p A o B b nw nm ns V F0 : Nat} {lo hi se : Nat → Nat} (h : qZp s p A o B b nw nm ns V F0 lo hi se) : qP_pl s p nw nm lo hi := ⟨h.2.1.1, h.2.1.2.1, ⟨h.1.1, h.1.2.1, h.1.2.2.1⟩, fun k hk => ⟨(h.2.2.2.1 k hk).2.1.1, (h.2.2.2.1 k hk).2.1.2, (h.2.2.2.1 k hk).1⟩⟩
theorem qZp.m {s : qb_M} {p B b nw nm ns V F0 : Nat} {lo hi se : Nat → Nat} (h : qZp s p 194 0 B b nw nm ns V F0 lo hi se) : qm_pl s nw nm lo hi := by
  refine ⟨h.2.2.1.1, h.2.2.1.2.1, ⟨h.1.1, h.1.2.1, h.1.2.2.1⟩, fun k hk => ?_⟩
  have := h.2.2.2.1 k hk
  rw [Nat.zero_add, Nat.zero_add] at this
  exact ⟨this.2.2.1.1, this.2.2.1.2, this.1⟩
/-- a one of a sentence, as both have it -/
def qE_lf (s : qb_M) (q A o ns i k : Nat) : Prop := (∃ w, (w = 2 ∧ s.1 A (o + 72 + 4 * k) = 65 ∨ w = 16 ∧ s.1 A (o + 72 + 4 * k) = 66 ∨ w = 17 ∧ s.1 A (o + 72 + 4 * k) = 67) ∧ s.2.2 (q + 1) i = some w) ∨ (∃ v, s.2.2 (q + 1) i = some 18 ∧ s.1 A (o + 72 + 4 * k) = 68 ∧ v < ns ∧ s.1 (q + 3) i = nI v ∧ s.1 A (o + 72 + 4 * k + 1) = nI v) ∨ (∃ v, s.2.2 (q + 1) i = some 19 ∧ s.1 A (o + 72 + 4 * k) = 69 ∧ v < 8 ∧ s.1 (q + 3) i = nI v ∧ s.1 A (o + 72 + 4 * k + 1) = nI v) ∨ (∃ w v, (w = 20 ∨ w = 21 ∨ w = 22) ∧ s.2.2 (q + 1) i = some w ∧ s.1 A (o + 72 + 4 * k) = nI (50 + w) ∧ v < 1000 ∧ s.1 (q + 3) i = nI v ∧ s.1 A (o + 72 + 4 * k + 2) = nI v ∧ s.1 (q + 2) i = s.1 A (o + 72 + 4 * k + 3) ∧ (s.1 (q + 2) i = 60 ∨ s.1 (q + 2) i = 61 ∨ s.1 (q + 2) i = 62))
/-- steps i to j of the component's pile are what node k of the reference's tree says -/
def qE (s : qb_M) (q A o ns : Nat) : Nat → Nat → Nat → Nat → Prop
  | 0, _, _, _ => False
  | n + 1, i, j, k => k < 60 ∧ i < j ∧ j ≤ 40 ∧ ((j = i + 1 ∧ qE_lf s q A o ns i k) ∨ (∃ x, s.1 A (o + 72 + 4 * k) = 1 ∧ s.1 A (o + 72 + 4 * k + 1) = nI x ∧ s.2.2 (q + 1) (j - 1) = some 15 ∧ qE s q A o ns n i (j - 1) x) ∨ (∃ x y m, (s.1 A (o + 72 + 4 * k) = 2 ∧ s.2.2 (q + 1) (j - 1) = some 14 ∨ s.1 A (o + 72 + 4 * k) = 3 ∧ s.2.2 (q + 1) (j - 1) = some 13) ∧ s.1 A (o + 72 + 4 * k + 1) = nI x ∧ s.1 A (o + 72 + 4 * k + 2) = nI y ∧ qE s q A o ns n i m x ∧ qE s q A o ns n m (j - 1) y))
/-- what both need to be alike for a sentence: the same words at the same places -/
theorem qE_lf.cp {s t : qb_M} {q q' A o A' o' ns i k : Nat} (h : qE_lf s q A o ns i k) (hi : i < 40) (hk : k < 60) (h1 : ∀ i, i < 40 → t.2.2 (q' + 1) i = s.2.2 (q + 1) i ∧ t.1 (q' + 2) i = s.1 (q + 2) i ∧ t.1 (q' + 3) i = s.1 (q + 3) i) (h2 : ∀ j, j < 240 → t.1 A' (o' + 72 + j) = s.1 A (o + 72 + j)) : qE_lf t q' A' o' ns i k := by
  have e0 := h2 (4 * k) (by omega)
  have e1 := h2 (4 * k + 1) (by omega)
  have e2 := h2 (4 * k + 2) (by omega)
  have e3 := h2 (4 * k + 3) (by omega)
  rw [← Nat.add_assoc, ← Nat.add_assoc] at e1 e2 e3
  unfold qE_lf at h ⊢
  rw [e0, e1, e2, e3, (h1 i hi).1, (h1 i hi).2.1, (h1 i hi).2.2]
  exact h
theorem qE.cp {s t : qb_M} {q q' A o A' o' ns L : Nat} (hL : L ≤ 40) (h1 : ∀ i, i < L → t.2.2 (q' + 1) i = s.2.2 (q + 1) i ∧ t.1 (q' + 2) i = s.1 (q + 2) i ∧ t.1 (q' + 3) i = s.1 (q + 3) i) (h2 : ∀ j, j < 240 → t.1 A' (o' + 72 + j) = s.1 A (o + 72 + j)) : ∀ n i j k, j ≤ L → qE s q A o ns n i j k → qE t q' A' o' ns n i j k
  | 0, _, _, _, _, h => h
  | n + 1, i, j, k, hj, h => by
    obtain ⟨hk, hij, hj40, h⟩ := h
    have e0 := h2 (4 * k) (by omega)
    have e1 := h2 (4 * k + 1) (by omega)
    have e2 := h2 (4 * k + 2) (by omega)
    have e3 := h2 (4 * k + 3) (by omega)
    rw [← Nat.add_assoc, ← Nat.add_assoc] at e1 e2 e3
    refine ⟨hk, hij, hj40, ?_⟩
    rcases h with ⟨g1, g2⟩ | ⟨x, g1, g2, g3, g4⟩ | ⟨x, y, m, g1, g2, g3, g4, g5⟩
    · refine Or.inl ⟨g1, ?_⟩
      unfold qE_lf at g2 ⊢
      rw [e0, e1, e2, e3, (h1 i (by omega)).1, (h1 i (by omega)).2.1, (h1 i (by omega)).2.2]
      exact g2
    · refine Or.inr (Or.inl ⟨x, ?_, ?_, ?_, qE.cp hL h1 h2 n i (j - 1) x (by omega) g4⟩)
      · rw [e0]; exact g1
      · rw [e1]; exact g2
      · rw [(h1 (j - 1) (by omega)).1]; exact g3
    · have hm : m ≤ j - 1 := by
        cases n with
        | zero => exact absurd g5 id
        | succ n => have := g5.2.1; omega
      refine Or.inr (Or.inr ⟨x, y, m, ?_, ?_, ?_, qE.cp hL h1 h2 n i m x (by omega) g4, qE.cp hL h1 h2 n m (j - 1) y (by omega) g5⟩)
      · rw [e0, (h1 (j - 1) (by omega)).1]; exact g1
      · rw [e1]; exact g2
      · rw [e2]; exact g3
/-- one sentence, as both have it -/
def qZw (s : qb_M) (q A o ns : Nat) : Prop := ∃ L n, s.1 q 4 = nI L ∧ L ≤ 40 ∧ s.1 q 5 = nI n ∧ n ≤ 20 ∧ (n = 0 ∧ L = 0 ∧ s.1 A (o + 70) = 0 ∨ 1 ≤ n ∧ s.1 A (o + 70) = 1 ∧ ∃ top D, D ≤ 50 ∧ s.1 A (o + 71) = nI top ∧ qE s q A o ns D 0 L top)
theorem qZw.mv {P : Nat → Nat → Prop} {s t : qb_M} {q A o ns : Nat} (h : qZw s q A o ns) (hf : qG P s t) (h1 : ∀ x k, q ≤ x ∧ x ≤ q + 3 → ¬ P x k) (h2 : ∀ k, o + 70 ≤ k → k < o + 312 → ¬ P A k) : qZw t q A o ns := by
  obtain ⟨L, n, a1, a2, a3, a4, a5⟩ := h
  refine ⟨L, n, (hf.i (h1 _ _ (by omega))).trans a1, a2, (hf.i (h1 _ _ (by omega))).trans a3, a4, ?_⟩
  rcases a5 with ⟨b1, bL, b2⟩ | ⟨b1, b2, top, D, b3, b4, b5⟩
  · exact Or.inl ⟨b1, bL, (hf.i (h2 _ (by omega) (by omega))).trans b2⟩
  · refine Or.inr ⟨b1, (hf.i (h2 _ (by omega) (by omega))).trans b2, top, D, b3, (hf.i (h2 _ (by omega) (by omega))).trans b4, qE.cp a2 (fun i hi => ⟨hf.p (h1 _ _ (by omega)), hf.i (h1 _ _ (by omega)), hf.i (h1 _ _ (by omega))⟩) (fun j hj => hf.i (h2 _ (by omega) (by omega))) D 0 L top (Nat.le_refl _) b5⟩
/-- the tape -/
def qZt (s : qb_M) : Prop := ∃ n, n ≤ 940 ∧ s.1 65 1 = nI n ∧ s.1 192 2 = nI n ∧ ∀ k, k < n → s.1 66 k = s.1 193 k ∧ ∃ b, b < 256 ∧ s.1 193 k = nI b
theorem qZt.mv {P : Nat → Nat → Prop} {s t : qb_M} (h : qZt s) (hf : qG P s t) (hd : ∀ x k, x = 65 ∧ k = 1 ∨ x = 192 ∧ k = 2 ∨ x = 66 ∨ x = 193 → ¬ P x k) : qZt t := by
  obtain ⟨n, h0, h1, h2, h3⟩ := h
  refine ⟨n, h0, (hf.i (hd _ _ (by omega))).trans h1, (hf.i (hd _ _ (by omega))).trans h2, fun k hk => ?_⟩
  rw [hf.i (hd 66 k (by omega)), hf.i (hd 193 k (by omega))]
  exact h3 k hk
/-- an image -/
def qZi (s : qb_M) (k q : Nat) : Prop := s.2.2 155 k = some q ∧ (s.1 q 3 = 0 ∧ s.1 202 k = 0 ∨ s.1 q 3 = 1 ∧ s.1 202 k = 1 ∧ ∃ nw nm ns V F0 lo hi se, qZp s (q + 1) 196 (312 * k) 201 (15 * k) nw nm ns V F0 lo hi se ∧ qZs nw nm lo hi (qs_so s (q + 7)) (fun j => s.1 196 (312 * k + 30 + j)) ∧ qZw s (q + 12) 196 (312 * k) ns)
theorem qZi.mv {P : Nat → Nat → Prop} {s t : qb_M} {k q : Nat} (h : qZi s k q) (hf : qG P s t) (hk : k < 2) (hq : q = 156 ∨ q = 173) (hd : ∀ x k, 155 ≤ x ∧ x ≤ 189 ∨ x = 196 ∨ x = 201 ∨ x = 202 → ¬ P x k) : qZi t k q := by
  obtain ⟨h0, h1⟩ := h
  refine ⟨(hf.p (hd _ _ (by omega))).trans h0, ?_⟩
  rw [hf.i (hd q 3 (by omega)), hf.i (hd 202 k (by omega))]
  rcases h1 with h1 | ⟨h1, h2, nw, nm, ns, V, F0, lo, hi, se, g1, g2, g3⟩
  · exact Or.inl h1
  · refine Or.inr ⟨h1, h2, nw, nm, ns, V, F0, lo, hi, se, g1.mv hf (fun x j hx => hd x j (by omega)) (fun j _ _ => hd _ _ (by omega)) (fun j _ _ => hd _ _ (by omega)), g2.ex (fun j hj => ?_) (fun j hj => hf.i (hd _ _ (by omega))), g3.mv hf (fun x j hx => hd x j (by omega)) (fun j _ _ => hd _ _ (by omega))⟩
    exact qs_so_eq (fun _ => hf.i (hd _ _ (by omega))) (fun _ _ => hf.i (hd _ _ (by omega))) (fun _ _ => hf.i (hd _ _ (by omega))) (fun _ _ => hf.i (hd _ _ (by omega))) (fun _ => hf.i (hd _ _ (by omega)))
/-- the slip -/
def qZl (s : qb_M) : Prop := ∃ m, m ≤ 16 ∧ s.1 64 14 = nI m ∧ s.1 192 34 = nI m ∧ ∀ j, j < m → s.1 190 j = s.1 208 j
theorem qZl.mv {P : Nat → Nat → Prop} {s t : qb_M} (h : qZl s) (hf : qG P s t) (hd : ∀ x k, x = 64 ∧ k = 14 ∨ x = 192 ∧ k = 34 ∨ x = 190 ∨ x = 208 → ¬ P x k) : qZl t := by
  obtain ⟨n, h0, h1, h2, h3⟩ := h
  refine ⟨n, h0, (hf.i (hd _ _ (by omega))).trans h1, (hf.i (hd _ _ (by omega))).trans h2, fun k hk => ?_⟩
  rw [hf.i (hd 190 k (by omega)), hf.i (hd 208 k (by omega))]
  exact h3 k hk
/-- what was told of a book -/
def qZb (s : qb_M) : Prop := (s.1 192 39 = 0 ∧ ∀ j, j < 4 → s.1 191 j = -1) ∨ (s.1 192 39 = 1 ∧ ∀ j, j < 4 → s.1 191 j = s.1 210 j)
theorem qZb.mv {P : Nat → Nat → Prop} {s t : qb_M} (h : qZb s) (hf : qG P s t) (hd : ∀ x k, x = 192 ∧ k = 39 ∨ x = 191 ∨ x = 210 → ¬ P x k) : qZb t := by
  unfold qZb
  rw [hf.i (hd 192 39 (by omega))]
  rcases h with ⟨h1, h2⟩ | ⟨h1, h2⟩
  · exact Or.inl ⟨h1, fun j hj => (hf.i (hd 191 j (by omega))).trans (h2 j hj)⟩
  · exact Or.inr ⟨h1, fun j hj => by rw [hf.i (hd 191 j (by omega)), hf.i (hd 210 j (by omega))]; exact h2 j hj⟩
/-- what was found at last -/
def qZr (s : qb_M) : Prop := s.1 64 15 = s.1 192 27 ∧ s.1 64 16 = s.1 192 30 ∧ s.1 64 17 = s.1 192 31 ∧ s.1 65 2 = s.1 192 10
theorem qZr.mv {P : Nat → Nat → Prop} {s t : qb_M} (h : qZr s) (hf : qG P s t) (hd : ∀ x k, x = 64 ∧ 15 ≤ k ∧ k ≤ 17 ∨ x = 192 ∧ (k = 27 ∨ k = 30 ∨ k = 31 ∨ k = 10) ∨ x = 65 ∧ k = 2 → ¬ P x k) : qZr t := by
  unfold qZr
  rw [hf.i (hd 64 15 (by omega)), hf.i (hd 64 16 (by omega)), hf.i (hd 64 17 (by omega)), hf.i (hd 65 2 (by omega)), hf.i (hd 192 27 (by omega)), hf.i (hd 192 30 (by omega)), hf.i (hd 192 31 (by omega)), hf.i (hd 192 10 (by omega))]
  exact h
/-- all but board, state, sentence and past -/
def qZx (s : qb_M) : Prop := qZt s ∧ qZi s 0 156 ∧ qZi s 1 173 ∧ qZl s ∧ qZb s ∧ qZr s
/-- LIKENESS -/
def qZ (s : qb_M) : Prop := qZx s ∧ ∃ nw nm ns V F0 lo hi se, qZp s 67 194 0 199 0 nw nm ns V F0 lo hi se ∧ qZs nw nm lo hi (qs_so s 73) (qm_so s) ∧ qZw s 78 194 0 ns ∧ qZk s nw nm lo hi
/-- what may change without harm to the rest -/
def qZx_no (x k : Nat) : Prop := x = 64 ∧ 14 ≤ k ∧ k ≤ 17 ∨ x = 65 ∧ (k = 1 ∨ k = 2) ∨ x = 66 ∨ 155 ≤ x ∧ x ≤ 191 ∨ x = 192 ∧ (k = 2 ∨ k = 10 ∨ k = 27 ∨ k = 30 ∨ k = 31 ∨ k = 34 ∨ k = 39) ∨ x = 193 ∨ x = 196 ∨ x = 201 ∨ x = 202 ∨ x = 208 ∨ x = 210
theorem qZx.mv {P : Nat → Nat → Prop} {s t : qb_M} (h : qZx s) (hf : qG P s t) (hd : ∀ x k, qZx_no x k → ¬ P x k) : qZx t := by
  obtain ⟨h1, h2, h3, h4, h5, h6⟩ := h
  exact ⟨h1.mv hf (fun x k hx => hd x k (by unfold qZx_no; omega)), h2.mv hf (by decide) (Or.inl rfl) (fun x k hx => hd x k (by unfold qZx_no; omega)), h3.mv hf (by decide) (Or.inr rfl) (fun x k hx => hd x k (by unfold qZx_no; omega)), h4.mv hf (fun x k hx => hd x k (by unfold qZx_no; omega)), h5.mv hf (fun x k hx => hd x k (by unfold qZx_no; omega)), h6.mv hf (fun x k hx => hd x k (by unfold qZx_no; omega))⟩
def qZ_no (x k : Nat) : Prop := qZx_no x k ∨ 67 ≤ x ∧ x ≤ 81 ∨ 83 ≤ x ∧ x ≤ 124 ∨ x = 192 ∧ k = 24 ∨ x = 194 ∨ x = 197 ∨ x = 199
theorem qs_so_G {P : Nat → Nat → Prop} {s t : qb_M} {a : Nat} (hf : qG P s t) (hd : ∀ x k, a ≤ x ∧ x < a + 5 → ¬ P x k) : qs_so t a = qs_so s a := funext fun j => qs_so_eq (fun _ => hf.i (hd _ _ (by omega))) (fun _ _ => hf.i (hd _ _ (by omega))) (fun _ _ => hf.i (hd _ _ (by omega))) (fun _ _ => hf.i (hd _ _ (by omega))) (fun _ => hf.i (hd _ _ (by omega)))
theorem qm_so_G {P : Nat → Nat → Prop} {s t : qb_M} (hf : qG P s t) (hd : ∀ k, 30 ≤ k → ¬ P 194 k) : qm_so t = qm_so s := funext fun j => hf.i (hd _ (by omega))
theorem qZ.mv {P : Nat → Nat → Prop} {s t : qb_M} (h : qZ s) (hf : qG P s t) (hd : ∀ x k, qZ_no x k → ¬ P x k) : qZ t := by
  obtain ⟨h0, nw, nm, ns, V, F0, lo, hi, se, h1, h2, h3, h4⟩ := h
  refine ⟨h0.mv hf (fun x k hx => hd x k (Or.inl hx)), nw, nm, ns, V, F0, lo, hi, se, h1.mv hf (fun x k hx => hd x k (by unfold qZ_no; omega)) (fun k _ _ => hd _ _ (by unfold qZ_no; omega)) (fun k _ _ => hd _ _ (by unfold qZ_no; omega)), ?_, h3.mv hf (fun x k hx => hd x k (by unfold qZ_no; omega)) (fun k _ _ => hd _ _ (by unfold qZ_no; omega)), h4.mv hf (fun x k hx => hd x k (by unfold qZ_no; omega))⟩
  rw [qs_so_G hf (fun x k hx => hd x k (by unfold qZ_no; omega)), qm_so_G hf (fun k hk => hd _ _ (by unfold qZ_no; omega))]
  exact h2

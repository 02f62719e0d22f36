/-! copies of boards and sentences -/
theorem go_wast {o : qa_O} {cd : qa_Cd} {pc n : Nat} {R : Option (Option Value × qa_H)} {s : qb_M} {c : Nat × Nat} {L S : List Value} {a N j v : Nat} {i : Int32} (hc : cd pc = some (qa_q (qh_wast n))) (hq : qb_ia a 5 N) (hv : v < 23) (hi : i = nI j) (hj : j < N) (kk : qa_lm o cd (n, L, S, (qb_hp (qb_up s a j (some v)), 149, c)) = R) : qa_lm o cd (pc, L, .ref v :: .int i :: .ref a :: S, (qb_hp s, 149, c)) = R := by
  obtain ⟨h1, h2, h3, h4⟩ := hq
  refine (qa_go (y := (n, L, S, (qb_hp (qb_up s a j (some v)), 149, c))) hc ?_).trans kk
  unfold qa_q qh_wast
  dsimp only
  rw [show qa_arr (qb_hp s, 149, c) a 5 = some (N, .inr (.inr (.inr (.inr (s.2.2 a))))) from qb_arr (g := (149, c)) h1 h2 h3]
  dsimp only
  rw [hi, nI_clamp (by omega), if_neg (fun q => q.elim (fun z => absurd hv (Nat.not_lt.mpr z)) (fun q => q.elim (nI_pos (by omega)) (fun z => by omega))), qb_st_p (t := 2) h1]
theorem qb_wr_i0 {s : qb_M} {a n k : Nat} {g : Nat → Int32} (h : k < n) : (qb_wr s a 0 n g).1 a k = g k := by
  have := qb_wr_in (s := s) (a := a) (i := 0) (g := g) h
  rw [Nat.zero_add] at this
  exact this
theorem qb_wl_i0 {s : qb_M} {a n k : Nat} {g : Nat → Int64} (h : k < n) : (qb_wl s a 0 n g).2.1 a k = g k := by
  have := qb_wl_in (s := s) (a := a) (i := 0) (g := g) h
  rw [Nat.zero_add] at this
  exact this
def qP_fl (a : Nat) : List (Nat × Nat) := [(2, a + 1), (2, a + 2), (2, a + 3), (2, a + 4), (2, a + 5), (0, 0), (0, 0), (0, 0), (0, 0), (0, 0), (0, 0), (0, 0), (0, 0)]
def qP_sh (a : Nat) : Prop := qb_sh a = .inr (4, qP_fl a) ∧ (qb_ia (a + 1) 0 10 ∧ qb_ia (a + 2) 0 10 ∧ qb_ia (a + 3) 1 10 ∧ qb_ia (a + 4) 1 5 ∧ qb_ia (a + 5) 0 5) ∧ 64 ≤ a ∧ a < 213
theorem qP_f {a : Nat} (h : qP_sh a) {k : Nat} {q : Nat × Nat} (hk : (qP_fl a)[k]? = some q) : qb_is a 4 k q := ⟨_, h.1, hk, h.2.2.1, h.2.2.2⟩
theorem qP_67 : qP_sh 67 := ⟨rfl, ⟨⟨rfl, by decide, by decide, by decide⟩, ⟨rfl, by decide, by decide, by decide⟩, ⟨rfl, by decide, by decide, by decide⟩, ⟨rfl, by decide, by decide, by decide⟩, ⟨rfl, by decide, by decide, by decide⟩⟩, by decide, by decide⟩
theorem qP_139 : qP_sh 139 := ⟨rfl, ⟨⟨rfl, by decide, by decide, by decide⟩, ⟨rfl, by decide, by decide, by decide⟩, ⟨rfl, by decide, by decide, by decide⟩, ⟨rfl, by decide, by decide, by decide⟩, ⟨rfl, by decide, by decide, by decide⟩⟩, by decide, by decide⟩
theorem qP_157 : qP_sh 157 := ⟨rfl, ⟨⟨rfl, by decide, by decide, by decide⟩, ⟨rfl, by decide, by decide, by decide⟩, ⟨rfl, by decide, by decide, by decide⟩, ⟨rfl, by decide, by decide, by decide⟩, ⟨rfl, by decide, by decide, by decide⟩⟩, by decide, by decide⟩
theorem qP_174 : qP_sh 174 := ⟨rfl, ⟨⟨rfl, by decide, by decide, by decide⟩, ⟨rfl, by decide, by decide, by decide⟩, ⟨rfl, by decide, by decide, by decide⟩, ⟨rfl, by decide, by decide, by decide⟩, ⟨rfl, by decide, by decide, by decide⟩⟩, by decide, by decide⟩
def qP_c (u : qb_M) (a b : Nat) : Nat → qb_M
  | 0 => u
  | k + 1 => qb_ui (qP_c u a b k) a (5 + k) ((qP_c u a b k).1 b (5 + k))
theorem qP_c_o {u : qb_M} {a b : Nat} : ∀ (n x j : Nat), (x ≠ a ∨ j < 5 ∨ 5 + n ≤ j) → (qP_c u a b n).1 x j = u.1 x j
  | 0, _, _, _ => rfl
  | n + 1, x, j, h => by
    show (qb_ui (qP_c u a b n) a (5 + n) _).1 x j = _
    rw [qb_ui_1n (by omega)]
    exact qP_c_o n x j (by omega)
theorem qP_c_in {u : qb_M} {a b : Nat} (hab : b ≠ a) : ∀ (n k : Nat), k < n → (qP_c u a b n).1 a (5 + k) = u.1 b (5 + k)
  | 0, _, h => by omega
  | n + 1, k, h => by
    show (qb_ui (qP_c u a b n) a (5 + n) _).1 a (5 + k) = _
    by_cases e : k = n
    · subst e
      rw [qb_ui_1s]
      exact qP_c_o k b (5 + k) (Or.inl hab)
    · rw [qb_ui_1n (by omega)]
      exact qP_c_in hab n k (by omega)
theorem qP_c_2 {u : qb_M} {a b : Nat} : ∀ n, (qP_c u a b n).2 = u.2
  | 0 => rfl
  | n + 1 => qP_c_2 n
theorem qF.wl {P : Nat → Prop} {s t : qb_M} {x i n : Nat} {g : Nat → Int64} (h : qF P s t) (hx : P x) : qF P s (qb_wl t x i n g) := fun y hy => ⟨(h y hy).1, (show (qb_wl t x i n g).2.1 y = _ from funext fun j => qb_wl_o (Or.inl (fun z => hy (z ▸ hx)))).trans (h y hy).2.1, (h y hy).2.2⟩
def qP_cp (s t : qb_M) (a b : Nat) : Prop := (∀ k, k < 10 → t.1 (a + 1) k = s.1 (b + 1) k ∧ t.1 (a + 2) k = s.1 (b + 2) k ∧ t.2.1 (a + 3) k = s.2.1 (b + 3) k) ∧ (∀ k, k < 5 → t.2.1 (a + 4) k = s.2.1 (b + 4) k ∧ t.1 (a + 5) k = s.1 (b + 5) k) ∧ ∀ k, 5 ≤ k → k < 11 → t.1 a k = s.1 b k
theorem sp_copyP (d : Nat) (s : qb_M) (c : Nat × Nat) {a b : Nat} (hS : qP_sh a) (hT : qP_sh b) (hab : a + 6 ≤ b ∨ b + 6 ≤ a) : ∃ t, qe (d + 1) 42 [.ref a, .ref b] (qb_hp (s), 149, c) = some (none, (qb_hp (t), 149, c)) ∧ qP_cp s t a b ∧ qF (fun x => a ≤ x ∧ x < a + 6) s t := by
  obtain ⟨s1, hs1⟩ : ∃ s1, s1 = qb_wr s (a + 1) 0 10 (s.1 (b + 1)) := ⟨_, rfl⟩
  obtain ⟨s2, hs2⟩ : ∃ s2, s2 = qb_wr s1 (a + 2) 0 10 (s1.1 (b + 2)) := ⟨_, rfl⟩
  obtain ⟨s3, hs3⟩ : ∃ s3, s3 = qb_wl s2 (a + 3) 0 10 (s2.2.1 (b + 3)) := ⟨_, rfl⟩
  obtain ⟨s4, hs4⟩ : ∃ s4, s4 = qb_wl s3 (a + 4) 0 5 (s3.2.1 (b + 4)) := ⟨_, rfl⟩
  obtain ⟨s5, hs5⟩ : ∃ s5, s5 = qb_wr s4 (a + 5) 0 5 (s4.1 (b + 5)) := ⟨_, rfl⟩
  have f1 : qF (fun x => a + 1 ≤ x ∧ x < a + 6) s s1 := by rw [hs1]; exact qF.rf.wr (by omega)
  have f2 : qF (fun x => a + 1 ≤ x ∧ x < a + 6) s s2 := by rw [hs2]; exact f1.wr (by omega)
  have f3 : qF (fun x => a + 1 ≤ x ∧ x < a + 6) s s3 := by rw [hs3]; exact f2.wl (by omega)
  have f4 : qF (fun x => a + 1 ≤ x ∧ x < a + 6) s s4 := by rw [hs4]; exact f3.wl (by omega)
  have f5 : qF (fun x => a + 1 ≤ x ∧ x < a + 6) s s5 := by rw [hs5]; exact f4.wr (by omega)
  have g2 : qF (fun x => a + 2 ≤ x ∧ x < a + 6) s1 s5 := by
    rw [hs5, hs4, hs3, hs2]
    exact (((qF.rf.wr (by omega)).wl (by omega)).wl (by omega)).wr (by omega)
  have g3 : qF (fun x => a + 3 ≤ x ∧ x < a + 6) s2 s5 := by
    rw [hs5, hs4, hs3]
    exact ((qF.rf.wl (by omega)).wl (by omega)).wr (by omega)
  have g4 : qF (fun x => a + 4 ≤ x ∧ x < a + 6) s3 s5 := by
    rw [hs5, hs4]
    exact (qF.rf.wl (by omega)).wr (by omega)
  have g5 : qF (fun x => a + 5 ≤ x ∧ x < a + 6) s4 s5 := by
    rw [hs5]
    exact qF.rf.wr (by omega)
  refine ⟨qP_c s5 a b 6, ?_, ⟨fun k hk => ⟨?_, ?_, ?_⟩, fun k hk => ⟨?_, ?_⟩, fun k h1 h2 => ?_⟩, fun x hx => ⟨?_, ?_, ?_⟩⟩
  · refine (en_42 d a b _).trans ?_
    refine go_ald_2_1 rfl ?_
    refine go_getr rfl (qP_f hT rfl) ?_
    refine go_c rfl ?_
    refine go_ald_2_0 rfl ?_
    refine go_getr rfl (qP_f hS rfl) ?_
    refine go_c rfl ?_
    refine go_c rfl ?_
    refine go_cpyi (j := 10) rfl ( hT.2.1.1 ) ( hS.2.1.1) rfl (by decide) (by decide) (Nat.le_of_ble_eq_true rfl) ?_
    rw [← hs1]
    refine go_ald_2_1 rfl ?_
    refine go_getr rfl (qP_f hT rfl) ?_
    refine go_c rfl ?_
    refine go_ald_2_0 rfl ?_
    refine go_getr rfl (qP_f hS rfl) ?_
    refine go_c rfl ?_
    refine go_c rfl ?_
    refine go_cpyi (j := 10) rfl ( hT.2.1.2.1 ) ( hS.2.1.2.1) rfl (by decide) (by decide) (Nat.le_of_ble_eq_true rfl) ?_
    rw [← hs2]
    refine go_ald_2_1 rfl ?_
    refine go_getr rfl (qP_f hT rfl) ?_
    refine go_c rfl ?_
    refine go_ald_2_0 rfl ?_
    refine go_getr rfl (qP_f hS rfl) ?_
    refine go_c rfl ?_
    refine go_c rfl ?_
    refine go_cpyl (j := 10) rfl ( hT.2.1.2.2.1 ) ( hS.2.1.2.2.1) rfl (by decide) (by decide) (Nat.le_of_ble_eq_true rfl) ?_
    rw [← hs3]
    refine go_ald_2_1 rfl ?_
    refine go_getr rfl (qP_f hT rfl) ?_
    refine go_c rfl ?_
    refine go_ald_2_0 rfl ?_
    refine go_getr rfl (qP_f hS rfl) ?_
    refine go_c rfl ?_
    refine go_c rfl ?_
    refine go_cpyl (j := 5) rfl ( hT.2.1.2.2.2.1 ) ( hS.2.1.2.2.2.1) rfl (by decide) (by decide) (Nat.le_of_ble_eq_true rfl) ?_
    rw [← hs4]
    refine go_ald_2_1 rfl ?_
    refine go_getr rfl (qP_f hT rfl) ?_
    refine go_c rfl ?_
    refine go_ald_2_0 rfl ?_
    refine go_getr rfl (qP_f hS rfl) ?_
    refine go_c rfl ?_
    refine go_c rfl ?_
    refine go_cpyi (j := 5) rfl ( hT.2.1.2.2.2.2 ) ( hS.2.1.2.2.2.2) rfl (by decide) (by decide) (Nat.le_of_ble_eq_true rfl) ?_
    rw [← hs5]
    refine go_ald_2_0 rfl ?_
    refine go_ald_2_1 rfl ?_
    refine go_geti rfl (qP_f hT rfl) ?_
    refine go_puti rfl (qP_f hS rfl) rfl rfl ?_
    refine go_ald_2_0 rfl ?_
    refine go_ald_2_1 rfl ?_
    refine go_geti rfl (qP_f hT rfl) ?_
    refine go_puti rfl (qP_f hS rfl) rfl rfl ?_
    refine go_ald_2_0 rfl ?_
    refine go_ald_2_1 rfl ?_
    refine go_geti rfl (qP_f hT rfl) ?_
    refine go_puti rfl (qP_f hS rfl) rfl rfl ?_
    refine go_ald_2_0 rfl ?_
    refine go_ald_2_1 rfl ?_
    refine go_geti rfl (qP_f hT rfl) ?_
    refine go_puti rfl (qP_f hS rfl) rfl rfl ?_
    refine go_ald_2_0 rfl ?_
    refine go_ald_2_1 rfl ?_
    refine go_geti rfl (qP_f hT rfl) ?_
    refine go_puti rfl (qP_f hS rfl) rfl rfl ?_
    refine go_ald_2_0 rfl ?_
    refine go_ald_2_1 rfl ?_
    refine go_geti rfl (qP_f hT rfl) ?_
    refine go_puti rfl (qP_f hS rfl) rfl rfl ?_
    exact fin_v rfl rfl
  · rw [qP_c_o 6 _ _ (by omega), g2.i (by omega), hs1, qb_wr_i0 hk]
  · rw [qP_c_o 6 _ _ (by omega), g3.i (by omega), hs2, qb_wr_i0 hk, f1.i (by omega)]
  · rw [qP_c_2, g4.l (by omega), hs3, qb_wl_i0 hk, f2.l (by omega)]
  · rw [qP_c_2, g5.l (by omega), hs4, qb_wl_i0 hk, f3.l (by omega)]
  · rw [qP_c_o 6 _ _ (by omega), hs5, qb_wr_i0 hk, f4.i (by omega)]
  · obtain ⟨j, rfl⟩ : ∃ j, k = 5 + j := ⟨k - 5, by omega⟩
    rw [qP_c_in (by omega) 6 j (by omega), f5.i (by omega)]
  · exact funext fun k => (qP_c_o 6 _ _ (by omega)).trans (f5.i (by omega))
  · rw [qP_c_2]; exact funext fun k => f5.l (by omega)
  · rw [qP_c_2]; exact funext fun k => f5.p (by omega)
def qQ_fl (a : Nat) : List (Nat × Nat) := [(2, a + 1), (2, a + 2), (2, a + 3), (2, a + 4), (0, 0), (0, 0)]
def qQ_sh (a : Nat) : Prop := qb_sh a = .inr (5, qQ_fl a) ∧ (qb_ia (a + 1) 5 40 ∧ qb_ia (a + 2) 0 40 ∧ qb_ia (a + 3) 0 40 ∧ qb_ia (a + 4) 0 40) ∧ 64 ≤ a ∧ a < 213
theorem qQ_f {a : Nat} (h : qQ_sh a) {k : Nat} {q : Nat × Nat} (hk : (qQ_fl a)[k]? = some q) : qb_is a 5 k q := ⟨_, h.1, hk, h.2.2.1, h.2.2.2⟩
theorem qQ_78 : qQ_sh 78 := ⟨rfl, ⟨⟨rfl, by decide, by decide, by decide⟩, ⟨rfl, by decide, by decide, by decide⟩, ⟨rfl, by decide, by decide, by decide⟩, ⟨rfl, by decide, by decide, by decide⟩⟩, by decide, by decide⟩
theorem qQ_150 : qQ_sh 150 := ⟨rfl, ⟨⟨rfl, by decide, by decide, by decide⟩, ⟨rfl, by decide, by decide, by decide⟩, ⟨rfl, by decide, by decide, by decide⟩, ⟨rfl, by decide, by decide, by decide⟩⟩, by decide, by decide⟩
theorem qQ_168 : qQ_sh 168 := ⟨rfl, ⟨⟨rfl, by decide, by decide, by decide⟩, ⟨rfl, by decide, by decide, by decide⟩, ⟨rfl, by decide, by decide, by decide⟩, ⟨rfl, by decide, by decide, by decide⟩⟩, by decide, by decide⟩
theorem qQ_185 : qQ_sh 185 := ⟨rfl, ⟨⟨rfl, by decide, by decide, by decide⟩, ⟨rfl, by decide, by decide, by decide⟩, ⟨rfl, by decide, by decide, by decide⟩, ⟨rfl, by decide, by decide, by decide⟩⟩, by decide, by decide⟩
def qQ_cp (s t : qb_M) (a b L : Nat) : Prop := t.1 a 4 = s.1 b 4 ∧ t.1 a 5 = s.1 b 5 ∧ ∀ i, i < L → t.2.2 (a + 1) i = s.2.2 (b + 1) i ∧ t.1 (a + 2) i = s.1 (b + 2) i ∧ t.1 (a + 3) i = s.1 (b + 3) i
theorem sp_copyW (d : Nat) (s : qb_M) (c : Nat × Nat) {a b L : Nat} (hS : qQ_sh a) (hT : qQ_sh b) (hab : a + 5 ≤ b ∨ b + 5 ≤ a) (hL : s.1 b 4 = nI L) (hL2 : L ≤ 40) (hw : ∀ i, i < L → ∃ w, w < 23 ∧ s.2.2 (b + 1) i = some w) : ∃ t, qe (d + 1) 151 [.ref a, .ref b] (qb_hp (s), 149, c) = some (none, (qb_hp (t), 149, c)) ∧ qQ_cp s t a b L ∧ qF (fun x => a ≤ x ∧ x < a + 4) s t := by
  have loop : ∀ n i, i + n = L → ∀ t : qb_M, qQ_cp s t a b i → qF (fun x => a ≤ x ∧ x < a + 4) s t → ∃ u, qa_lm (qe (d)) (qa_cd qc_151) (18, [.ref a, .ref b, .int (nI i)], [], (qb_hp (t), 149, c)) = some (none, (qb_hp (u), 149, c)) ∧ qQ_cp s u a b L ∧ qF (fun x => a ≤ x ∧ x < a + 4) s u := by
    intro n
    induction n with
    | zero =>
      intro i hi t h1 h2
      have hi : i = L := by omega
      subst hi
      refine ⟨t, ?_, h1, h2⟩
      refine go_ild_3_2 rfl ?_
      refine go_ald_3_0 rfl ?_
      refine go_geti rfl (qQ_f hS rfl) ?_
      rw [h1.1, hL]
      refine go_icge rfl (fun e => ?_) (fun e => ?_)
      · exact fin_v rfl rfl
      · exact absurd (Int32.le_refl _) e
    | succ n ih =>
      intro i hi t h1 h2
      obtain ⟨w, hw1, hw2⟩ := hw i (by omega)
      obtain ⟨t1, ht1⟩ : ∃ t1, t1 = qb_up t (a + 1) i (some w) := ⟨_, rfl⟩
      obtain ⟨t2, ht2⟩ : ∃ t2, t2 = qb_ui t1 (a + 2) i (t1.1 (b + 2) i) := ⟨_, rfl⟩
      obtain ⟨t3, ht3⟩ : ∃ t3, t3 = qb_ui t2 (a + 3) i (t2.1 (b + 3) i) := ⟨_, rfl⟩
      have f1 : qF (fun x => a ≤ x ∧ x < a + 4) s t1 := by rw [ht1]; exact h2.up (by omega)
      have f2 : qF (fun x => a ≤ x ∧ x < a + 4) s t2 := by rw [ht2]; exact f1.ui (by omega)
      have f3 : qF (fun x => a ≤ x ∧ x < a + 4) s t3 := by rw [ht3]; exact f2.ui (by omega)
      have hcp : qQ_cp s t3 a b (i + 1) := by
        obtain ⟨c1, c2, c3⟩ := h1
        refine ⟨?_, ?_, fun j hj => ?_⟩
        · rw [ht3, ht2, qb_ui_1n (Or.inl (by omega)), qb_ui_1n (Or.inl (by omega)), ht1]; exact c1
        · rw [ht3, ht2, qb_ui_1n (Or.inl (by omega)), qb_ui_1n (Or.inl (by omega)), ht1]; exact c2
        · by_cases e : j = i
          · subst e
            refine ⟨?_, ?_, ?_⟩
            · rw [hw2, ht3, ht2, ht1]
              exact qb_u_s
            · rw [ht3, qb_ui_1n (Or.inl (by omega)), ht2, qb_ui_1s, f1.i (by omega)]
            · rw [ht3, qb_ui_1s, f2.i (by omega)]
          · obtain ⟨d1, d2, d3⟩ := c3 j (by omega)
            refine ⟨?_, ?_, ?_⟩
            · rw [← d1, ht3, ht2, ht1]
              exact qb_u_k e
            · rw [ht3, qb_ui_1n (Or.inl (by omega)), ht2, qb_ui_1n (Or.inr e), ht1]; exact d2
            · rw [ht3, qb_ui_1n (Or.inr e), ht2, qb_ui_1n (Or.inl (by omega)), ht1]; exact d3
      obtain ⟨u, u1, u2, u3⟩ := ih (i + 1) (by omega) t3 hcp f3
      refine ⟨u, ?_, u2, u3⟩
      refine go_ild_3_2 rfl ?_
      refine go_ald_3_0 rfl ?_
      refine go_geti rfl (qQ_f hS rfl) ?_
      rw [h1.1, hL]
      refine go_icge rfl (fun e => ?_) (fun e => ?_)
      · exact absurd e (nI_ge (by omega) (by omega))
      · refine go_ild_3_2 rfl ?_
        refine go_c rfl ?_
        refine go_icge rfl (fun e2 => ?_) (fun e2 => ?_)
        · exact absurd e2 (nI_ge (b := 40) (by omega) (by omega))
        · refine go_ald_3_0 rfl ?_
          refine go_getr rfl (qQ_f hS rfl) ?_
          refine go_ild_3_2 rfl ?_
          refine go_ald_3_1 rfl ?_
          refine go_getr rfl (qQ_f hT rfl) ?_
          refine go_ild_3_2 rfl ?_
          refine go_aald (j := i) rfl (hT.2.1.1) (rfl) (by omega) ?_
          rw [h2.p (by omega), hw2]
          refine go_wast (j := i) rfl (hS.2.1.1) (hw1) (rfl) (by omega) ?_
          rw [← ht1]
          refine go_ald_3_0 rfl ?_
          refine go_getr rfl (qQ_f hS rfl) ?_
          refine go_ild_3_2 rfl ?_
          refine go_ald_3_1 rfl ?_
          refine go_getr rfl (qQ_f hT rfl) ?_
          refine go_ild_3_2 rfl ?_
          refine go_iald (j := i) rfl (hT.2.1.2.1) (rfl) (by omega) ?_
          refine go_iast (j := i) rfl (hS.2.1.2.1) (rfl) (by omega) ?_
          rw [← ht2]
          refine go_ald_3_0 rfl ?_
          refine go_getr rfl (qQ_f hS rfl) ?_
          refine go_ild_3_2 rfl ?_
          refine go_ald_3_1 rfl ?_
          refine go_getr rfl (qQ_f hT rfl) ?_
          refine go_ild_3_2 rfl ?_
          refine go_iald (j := i) rfl (hT.2.1.2.2.1) (rfl) (by omega) ?_
          refine go_iast (j := i) rfl (hS.2.1.2.2.1) (rfl) (by omega) ?_
          rw [← ht3]
          refine go_inc_3_2 rfl rfl ?_
          refine go_goto rfl ?_
          rw [nI_1]
          exact u1
  obtain ⟨u, u1, u2, u3⟩ := loop L 0 (by omega) (qb_ui (qb_ui s a 4 (s.1 b 4)) a 5 ((qb_ui s a 4 (s.1 b 4)).1 b 5)) ⟨(qb_ui_1n (Or.inr (by decide))).trans qb_ui_1s, qb_ui_1s.trans (qb_ui_1n (Or.inl (by omega))), fun i hi => absurd hi (by omega)⟩ ((qF.rf.ui (by omega)).ui (by omega))
  refine ⟨u, ?_, u2, u3⟩
  refine (en_151 d a b _).trans ?_
  refine go_ald_3_0 rfl ?_
  refine go_ald_3_1 rfl ?_
  refine go_geti rfl (qQ_f hT rfl) ?_
  refine go_puti rfl (qQ_f hS rfl) rfl rfl ?_
  refine go_ald_3_0 rfl ?_
  refine go_ald_3_1 rfl ?_
  refine go_geti rfl (qQ_f hT rfl) ?_
  refine go_puti rfl (qQ_f hS rfl) rfl rfl ?_
  refine go_c rfl ?_
  refine go_ist_3_2 rfl rfl ?_
  exact u1
/-- each step of a sentence is a word -/
theorem qE.w {s : qb_M} {q A o ns : Nat} : ∀ n i j k, qE s q A o ns n i j k → ∀ p, i ≤ p → p < j → ∃ w, w < 23 ∧ s.2.2 (q + 1) p = some w
  | 0, _, _, _, h, _, _, _ => h.elim
  | n + 1, i, j, k, h, p, h1, h2 => by
    obtain ⟨hk, hij, hj, h⟩ := h
    rcases h with ⟨g1, g2⟩ | ⟨x, g1, g2, g3, g4⟩ | ⟨x, y, m, g1, g2, g3, g4, g5⟩
    · have hp : p = i := by omega
      subst hp
      rcases g2 with ⟨w, a1, a2⟩ | ⟨v, a1, _⟩ | ⟨v, a1, _⟩ | ⟨w, v, a1, a2, _⟩
      · exact ⟨w, by omega, a2⟩
      · exact ⟨18, by decide, a1⟩
      · exact ⟨19, by decide, a1⟩
      · exact ⟨w, by omega, a2⟩
    · by_cases e : p = j - 1
      · subst e; exact ⟨15, by decide, g3⟩
      · exact qE.w n i (j - 1) x g4 p h1 (by omega)
    · by_cases e : p = j - 1
      · subst e
        rcases g1 with ⟨_, g1⟩ | ⟨_, g1⟩
        · exact ⟨14, by decide, g1⟩
        · exact ⟨13, by decide, g1⟩
      · by_cases em : p < m
        · exact qE.w n i m x g4 p h1 em
        · exact qE.w n m (j - 1) y g5 p (by omega) (by omega)
theorem qZw.w {s : qb_M} {q A o ns L : Nat} (h : qZw s q A o ns) (hL : s.1 q 4 = nI L) (hL2 : L ≤ 40) : ∀ i, i < L → ∃ w, w < 23 ∧ s.2.2 (q + 1) i = some w := by
  obtain ⟨L', n, a1, a2, a3, a4, a5⟩ := h
  have : L' = L := (nI_eq (by omega) (by omega)).mp (a1.symm.trans hL)
  subst this
  intro i hi
  rcases a5 with ⟨b1, bL, b2⟩ | ⟨b1, b2, top, D, b3, b4, b5⟩
  · omega
  · exact qE.w D 0 L' top b5 i (Nat.zero_le _) hi
theorem qZw.L {s : qb_M} {q A o ns : Nat} (h : qZw s q A o ns) : ∃ L, s.1 q 4 = nI L ∧ L ≤ 40 := by
  obtain ⟨L', n, a1, a2, -⟩ := h
  exact ⟨L', a1, a2⟩
theorem qZw.cp {s t : qb_M} {q q' A o A' o' ns L : Nat} (h : qZw s q A o ns) (hL : s.1 q 4 = nI L) (hL2 : L ≤ 40) (h1 : qQ_cp s t q' q L) (h2 : ∀ j, 70 ≤ j → j < 312 → t.1 A' (o' + j) = s.1 A (o + j)) : qZw t q' A' o' ns := by
  obtain ⟨L', n, a1, a2, a3, a4, a5⟩ := h
  have : L' = L := (nI_eq (by omega) (by omega)).mp (a1.symm.trans hL)
  subst this
  refine ⟨L', n, h1.1.trans a1, a2, h1.2.1.trans a3, a4, ?_⟩
  rcases a5 with ⟨b1, bL, b2⟩ | ⟨b1, b2, top, D, b3, b4, b5⟩
  · exact Or.inl ⟨b1, bL, (h2 70 (by omega) (by omega)).trans b2⟩
  · refine Or.inr ⟨b1, (h2 70 (by omega) (by omega)).trans b2, top, D, b3, (h2 71 (by omega) (by omega)).trans b4, qE.cp a2 h1.2.2 (fun j hj => ?_) D 0 L' top (Nat.le_refl _) b5⟩
    have := h2 (72 + j) (by omega) (by omega)
    rw [← Nat.add_assoc, ← Nat.add_assoc] at this
    exact this
theorem qZp.cp {s t : qb_M} {p p' A o A' o' B b B' b' nw nm ns V F0 : Nat} {lo hi se : Nat → Nat} (h : qZp s p A o B b nw nm ns V F0 lo hi se) (h1 : qP_cp s t p' p) (h2 : ∀ k, k < 30 → t.1 A' (o' + k) = s.1 A (o + k)) (h3 : ∀ k, k < 15 → t.2.1 B' (b' + k) = s.2.1 B (b + k)) : qZp t p' A' o' B' b' nw nm ns V F0 lo hi se := by
  obtain ⟨g0, ⟨a1, a2, a3, a4, a5⟩, ⟨b1, b2, b3, b4, b5⟩, g4, g5⟩ := h
  obtain ⟨c1, c2, c3⟩ := h1
  refine ⟨g0, ⟨(c3 5 (by omega) (by omega)).trans a1, (c3 6 (by omega) (by omega)).trans a2, (c3 7 (by omega) (by omega)).trans a3, (c3 8 (by omega) (by omega)).trans a4, (c3 9 (by omega) (by omega)).trans a5⟩, ⟨(h2 0 (by omega)).trans b1, (h2 1 (by omega)).trans b2, (h2 2 (by omega)).trans b3, (h2 3 (by omega)).trans b4, (h2 4 (by omega)).trans b5⟩, fun k hk => ?_, fun k hk => ?_⟩
  · obtain ⟨d1, d2, d3, d4⟩ := g4 k hk
    have e1 := h2 (5 + k) (by omega)
    have e2 := h2 (15 + k) (by omega)
    rw [← Nat.add_assoc, ← Nat.add_assoc] at e1 e2
    rw [(c1 k (by omega)).1, (c1 k (by omega)).2.1, (c1 k (by omega)).2.2, e1, e2, h3 k (by omega)]
    exact ⟨d1, d2, d3, d4⟩
  · obtain ⟨d1, d2, d3, d4⟩ := g5 k hk
    have e1 := h2 (25 + k) (by omega)
    have e2 := h3 (10 + k) (by omega)
    rw [← Nat.add_assoc, ← Nat.add_assoc] at e1 e2
    rw [(c2 k (by omega)).1, (c2 k (by omega)).2, e1, e2]
    exact ⟨d1, d2, d3, d4⟩

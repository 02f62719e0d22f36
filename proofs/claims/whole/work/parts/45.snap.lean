/-! the reference's past -/
def qm_sn (s : qb_M) (j : Nat) : Nat → Int32 := fun k => s.1 197 (40 * j + k)
def qN_fr (s t : qb_M) : Prop := qG (fun x k => x = 197 ∨ x = 192 ∧ k = 24) s t
theorem qx_mul40 {z k : Nat} : (40 : Int32) * nI z + nI k = nI (40 * z + k) := by rw [show (40 : Int32) = nI 40 from rfl, pk_mul, nI_add]
/-- the rows move up -/
theorem sp_snap1 (d : Nat) (s : qb_M) (c : Nat × Nat) (R : Option (Option Value × qa_H)) (l1 : Value) (hR : ∀ l1 : Value, qa_lm (qe (d)) (qa_cd qc_221) (49, [.ref 192, l1], [], (qb_hp (qb_ui (qb_wr s 197 0 280 (fun j => s.1 197 (j + 40))) 192 24 (s.1 192 24 - 1)), 149, c)) = R) : qa_lm (qe (d)) (qa_cd qc_221) (9, [.ref 192, l1], [], (qb_hp (s), 149, c)) = R := by
  have loop : ∀ (n k : Nat), k + n = 280 → qa_lm (qe (d)) (qa_cd qc_221) (11, [.ref 192, .int (nI k)], [], (qb_hp (qb_wr s 197 0 k (fun j => s.1 197 (j + 40))), 149, c)) = R := by
    intro n
    induction n with
    | zero =>
      intro k hk
      have hk : k = 280 := by omega
      subst hk
      refine go_ild_2_1 rfl ?_
      refine go_c rfl ?_
      refine go_icge rfl (fun e => ?_) (fun e => ?_)
      · refine go_ald_2_0 rfl ?_
        refine go_dup_ref rfl ?_
        refine go_geti rfl ⟨_, rfl, rfl, by decide, by decide⟩ ?_
        refine go_c rfl ?_
        refine go_isub rfl ?_
        refine go_puti rfl ⟨_, rfl, rfl, by decide, by decide⟩ rfl rfl ?_
        exact hR _
      · exact absurd (by decide) e
    | succ n ih =>
      intro k hk
      refine go_ild_2_1 rfl ?_
      refine go_c rfl ?_
      refine go_icge rfl (fun e => ?_) (fun e => ?_)
      · exact absurd e (nI_ge (b := 280) (by omega) (by omega))
      · refine go_ald_2_0 rfl ?_
        refine go_getr rfl ⟨_, rfl, rfl, by decide, by decide⟩ ?_
        refine go_ild_2_1 rfl ?_
        refine go_ald_2_0 rfl ?_
        refine go_getr rfl ⟨_, rfl, rfl, by decide, by decide⟩ ?_
        refine go_ild_2_1 rfl ?_
        refine go_c rfl ?_
        refine go_iadd rfl ?_
        refine go_iald (j := k + 40) rfl (⟨rfl, by decide, by decide, by decide⟩) (nI_add k 40) (by omega) ?_
        refine go_iast (j := k) rfl (⟨rfl, by decide, by decide, by decide⟩) (rfl) (by omega) ?_
        rw [qb_wr_s (n := k) (g := fun j => s.1 197 (j + 40)) (by omega) (qb_wr_o (by omega))]
        refine go_inc_2_1 rfl rfl ?_
        refine go_goto rfl ?_
        rw [nI_1]
        exact ih (k + 1) (by omega)
  refine go_c rfl ?_
  refine go_ist_2_1 rfl rfl ?_
  have := loop 280 0 (by omega)
  rw [qb_wr_0] at this
  exact this
theorem sp_snap2 (d : Nat) (s : qb_M) (c : Nat × Nat) {z : Nat} (hz : z < 8) (hz2 : s.1 192 24 = nI z) (l1 : Value) : qa_lm (qe (d)) (qa_cd qc_221) (49, [.ref 192, l1], [], (qb_hp (s), 149, c)) = some (none, (qb_hp (qb_ui (qb_wr s 197 (40 * z) 40 (fun j => s.1 194 (30 + j))) 192 24 (nI (z + 1))), 149, c)) := by
  have loop : ∀ (n k : Nat), k + n = 40 → qa_lm (qe (d)) (qa_cd qc_221) (51, [.ref 192, .int (nI k)], [], (qb_hp (qb_wr s 197 (40 * z) k (fun j => s.1 194 (30 + j))), 149, c)) = some (none, (qb_hp (qb_ui (qb_wr s 197 (40 * z) 40 (fun j => s.1 194 (30 + j))) 192 24 (nI (z + 1))), 149, c)) := by
    intro n
    induction n with
    | zero =>
      intro k hk
      have hk : k = 40 := by omega
      subst hk
      refine go_ild_2_1 rfl ?_
      refine go_c rfl ?_
      refine go_icge rfl (fun e => ?_) (fun e => ?_)
      · refine go_ald_2_0 rfl ?_
        refine go_dup_ref rfl ?_
        refine go_geti rfl ⟨_, rfl, rfl, by decide, by decide⟩ ?_
        rw [show (qb_wr s 197 (40 * z) 40 (fun j => s.1 194 (30 + j))).1 192 24 = nI z from (qb_wr_o (Or.inl (by decide))).trans hz2]
        refine go_c rfl ?_
        refine go_iadd rfl ?_
        rw [nI_1]
        refine go_puti rfl ⟨_, rfl, rfl, by decide, by decide⟩ rfl rfl ?_
        exact fin_v rfl rfl
      · exact absurd (by decide) e
    | succ n ih =>
      intro k hk
      refine go_ild_2_1 rfl ?_
      refine go_c rfl ?_
      refine go_icge rfl (fun e => ?_) (fun e => ?_)
      · exact absurd e (nI_ge (b := 40) (by omega) (by omega))
      · refine go_ald_2_0 rfl ?_
        refine go_getr rfl ⟨_, rfl, rfl, by decide, by decide⟩ ?_
        refine go_c rfl ?_
        refine go_ald_2_0 rfl ?_
        refine go_geti rfl ⟨_, rfl, rfl, by decide, by decide⟩ ?_
        rw [show (qb_wr s 197 (40 * z) k (fun j => s.1 194 (30 + j))).1 192 24 = nI z from (qb_wr_o (Or.inl (by decide))).trans hz2]
        refine go_imul rfl ?_
        refine go_ild_2_1 rfl ?_
        refine go_iadd rfl ?_
        refine go_ald_2_0 rfl ?_
        refine go_getr rfl ⟨_, rfl, rfl, by decide, by decide⟩ ?_
        refine go_c rfl ?_
        refine go_ild_2_1 rfl ?_
        refine go_iadd rfl ?_
        refine go_iald (j := 30 + k) rfl (⟨rfl, by decide, by decide, by decide⟩) (nI_add 30 k) (by omega) ?_
        refine go_iast (j := 40 * z + k) rfl (⟨rfl, by decide, by decide, by decide⟩) (qx_mul40) (by omega) ?_
        rw [qb_wr_s (n := k) (g := fun j => s.1 194 (30 + j)) rfl (qb_wr_o (Or.inl (by decide)))]
        refine go_inc_2_1 rfl rfl ?_
        refine go_goto rfl ?_
        rw [nI_1]
        exact ih (k + 1) (by omega)
  refine go_c rfl ?_
  refine go_ist_2_1 rfl rfl ?_
  have := loop 40 0 (by omega)
  rw [qb_wr_0] at this
  exact this
theorem sp_snap (d : Nat) (s : qb_M) (c : Nat × Nat) {z : Nat} (hz : z ≤ 8) (hz2 : s.1 192 24 = nI z) : ∃ t, qe (d + 1) 221 [.ref 192] (qb_hp (s), 149, c) = some (none, (qb_hp (t), 149, c)) ∧ t.1 192 24 = nI (min (z + 1) 8) ∧ (∀ k, k < 40 → qm_sn t (min z 7) k = qm_so s k) ∧ (∀ j, j < min z 7 → ∀ k, k < 40 → qm_sn t j k = qm_sn s (if z = 8 then j + 1 else j) k) ∧ qN_fr s t := by
  by_cases h8 : z = 8
  · subst h8
    obtain ⟨s1, hs1⟩ : ∃ s1, s1 = qb_ui (qb_wr s 197 0 280 (fun j => s.1 197 (j + 40))) 192 24 (s.1 192 24 - 1) := ⟨_, rfl⟩
    refine ⟨qb_ui (qb_wr s1 197 (40 * 7) 40 (fun j => s1.1 194 (30 + j))) 192 24 (nI (7 + 1)), ?_, ?_, ?_, ?_, ?_⟩
    · refine (en_221 d 192 _).trans ?_
      refine go_ald_2_0 rfl ?_
      refine go_geti rfl ⟨_, rfl, rfl, by decide, by decide⟩ ?_
      refine go_c rfl ?_
      rw [hz2]
      refine go_icne rfl (fun e => ?_) (fun e => ?_)
      · refine sp_snap1 d s c _ _ (fun l1 => ?_)
        rw [← hs1]
        exact sp_snap2 d s1 c (z := 7) (by decide) (by rw [hs1, qb_ui_1s, hz2]; rfl) l1
      · exact absurd rfl e
    · exact qb_ui_1s
    · intro k hk
      unfold qm_sn
      rw [qb_ui_1n (Or.inl (by decide)), show min 8 7 = 7 from rfl, qb_wr_in hk, hs1, qb_ui_1n (Or.inl (by decide)), qb_wr_o (Or.inl (by decide))]
      rfl
    · intro j hj k hk
      unfold qm_sn
      have hj7 : j < 7 := by omega
      rw [qb_ui_1n (Or.inl (by decide)), qb_wr_o (by omega), hs1, qb_ui_1n (Or.inl (by decide)), if_pos rfl]
      have := qb_wr_in (s := s) (a := 197) (i := 0) (n := 280) (k := 40 * j + k) (g := fun j => s.1 197 (j + 40)) (by omega)
      rw [Nat.zero_add] at this
      rw [this, show 40 * j + k + 40 = 40 * (j + 1) + k by omega]
    · have hf1 : qN_fr s s1 := by rw [hs1]; exact qG.ui (qG.wr qG.rf (fun _ _ _ => Or.inl rfl)) (Or.inr ⟨rfl, rfl⟩)
      exact qG.ui (qG.wr hf1 (fun _ _ _ => Or.inl rfl)) (Or.inr ⟨rfl, rfl⟩)
  · have hz7 : z < 8 := by omega
    refine ⟨qb_ui (qb_wr s 197 (40 * z) 40 (fun j => s.1 194 (30 + j))) 192 24 (nI (z + 1)), ?_, ?_, ?_, ?_, ?_⟩
    · refine (en_221 d 192 _).trans ?_
      refine go_ald_2_0 rfl ?_
      refine go_geti rfl ⟨_, rfl, rfl, by decide, by decide⟩ ?_
      refine go_c rfl ?_
      rw [hz2]
      refine go_icne rfl (fun e => ?_) (fun e => ?_)
      · exact absurd ((nI_eq (b := 8) (by omega) (by decide)).mp e) h8
      · exact sp_snap2 d s c hz7 hz2 _
    · rw [qb_ui_1s, show min (z + 1) 8 = z + 1 by omega]
    · intro k hk
      unfold qm_sn
      rw [qb_ui_1n (Or.inl (by decide)), show min z 7 = z by omega, qb_wr_in hk]
      rfl
    · intro j hj k hk
      unfold qm_sn
      rw [qb_ui_1n (Or.inl (by decide)), qb_wr_o (by omega), if_neg h8]
    · exact qG.ui (qG.wr qG.rf (fun _ _ _ => Or.inl rfl)) (Or.inr ⟨rfl, rfl⟩)
/-! likeness of what is so, and of what was -/
theorem qs_R.ex {f f' g g' : Nat → Int32} (h : qs_R f g) (e : ∀ k, k < 40 → f' k = f k) (e' : ∀ k, k < 40 → g' k = g k) : qs_R f' g' := by
  refine ⟨fun k h1 h2 => by rw [e k h1, e' k h1]; exact h.1 k h1 h2, fun w hw hon => ?_⟩
  have : qs_on g' w = qs_on g w := by unfold qs_on; rw [e' (6 + w) (by omega)]
  rw [e (14 + w) (by omega), e (22 + w) (by omega), e' (14 + w) (by omega), e' (22 + w) (by omega)]
  exact h.2 w hw (this ▸ hon)
theorem qs_in.ex {nw nm : Nat} {lo hi : Nat → Nat} {g g' : Nat → Int32} {H X J : Nat} {Lf Sh : Nat → Nat} (h : qs_in nw nm lo hi g H X J Lf Sh) (e : ∀ k, k < 40 → g' k = g k) : qs_in nw nm lo hi g' H X J Lf Sh := by
  obtain ⟨h0, h1, h2, h3⟩ := h
  refine ⟨by rw [e 0 (by omega)]; exact h0, by rw [e 1 (by omega)]; exact h1, by rw [e 2 (by omega)]; exact h2, fun w hw hon => ?_⟩
  have : qs_on g' w = qs_on g w := by unfold qs_on; rw [e (6 + w) (by omega)]
  rw [e (6 + w) (by omega), e (14 + w) (by omega), e (22 + w) (by omega)]
  exact h3 w hw (this ▸ hon)
def qZs (nw nm : Nat) (lo hi : Nat → Nat) (f g : Nat → Int32) : Prop := qs_R f g ∧ ∃ H X J Lf Sh, qs_in nw nm lo hi g H X J Lf Sh
theorem qZs.ex {nw nm : Nat} {lo hi : Nat → Nat} {f f' g g' : Nat → Int32} (h : qZs nw nm lo hi f g) (e : ∀ k, k < 40 → f' k = f k) (e' : ∀ k, k < 40 → g' k = g k) : qZs nw nm lo hi f' g' := by
  obtain ⟨h1, H, X, J, Lf, Sh, h2⟩ := h
  exact ⟨h1.ex e e', H, X, J, Lf, Sh, h2.ex e'⟩
/-- the past of both -/
def qZk (s : qb_M) (nw nm : Nat) (lo hi : Nat → Nat) : Prop := qs_rg s ∧ ∃ x z, x < 8 ∧ z ≤ 8 ∧ s.1 83 1 = nI x ∧ s.1 83 2 = nI z ∧ s.1 192 24 = nI z ∧ ∀ j, j < z → qZs nw nm lo hi (qs_so s (85 + 5 * ((x + 8 - z + j) % 8))) (qm_sn s j)
theorem qZk.mv {P : Nat → Nat → Prop} {s t : qb_M} {nw nm : Nat} {lo hi : Nat → Nat} (h : qZk s nw nm lo hi) (hf : qG P s t) (hd : ∀ x k, 83 ≤ x ∧ x ≤ 124 ∨ x = 192 ∧ k = 24 ∨ x = 197 → ¬ P x k) : qZk t nw nm lo hi := by
  obtain ⟨h0, x, z, hx, hz, h1, h2, h3, h4⟩ := h
  refine ⟨fun i hi => (hf.p (hd _ _ (by omega))).trans (h0 i hi), x, z, hx, hz, (hf.i (hd _ _ (by omega))).trans h1, (hf.i (hd _ _ (by omega))).trans h2, (hf.i (hd _ _ (by omega))).trans h3, fun j hj => (h4 j hj).ex (fun k hk => ?_) (fun k hk => hf.i (hd _ _ (by omega)))⟩
  have hm : (x + 8 - z + j) % 8 < 8 := Nat.mod_lt _ (by decide)
  exact qs_so_eq (fun _ => hf.i (hd _ _ (by omega))) (fun _ _ => hf.i (hd _ _ (by omega))) (fun _ _ => hf.i (hd _ _ (by omega))) (fun _ _ => hf.i (hd _ _ (by omega))) (fun _ => hf.i (hd _ _ (by omega)))
/-- what is so, and its past, behind an act: the component settles, the reference snaps -/
theorem qZk_new {s t u : qb_M} {nw nm : Nat} {lo hi : Nat → Nat} {x z : Nat} (hx : x < 8) (hz : z ≤ 8) (hrg : qs_rg u) (h4 : ∀ j, j < z → qZs nw nm lo hi (qs_so s (85 + 5 * ((x + 8 - z + j) % 8))) (qm_sn s j)) (hnew : qZs nw nm lo hi (qs_so s 73) (qm_so s)) (c1 : ∀ k, k < 40 → qs_so u (85 + 5 * x) k = qs_so s 73 k) (c2 : ∀ y, y < 8 → y ≠ x → ∀ k, k < 40 → qs_so u (85 + 5 * y) k = qs_so s (85 + 5 * y) k) (c3 : u.1 83 1 = nI ((x + 1) % 8)) (c4 : u.1 83 2 = nI (min (z + 1) 8)) (m1 : u.1 192 24 = nI (min (z + 1) 8)) (m2 : ∀ k, k < 40 → qm_sn u (min z 7) k = qm_so s k) (m3 : ∀ j, j < min z 7 → ∀ k, k < 40 → qm_sn u j k = qm_sn s (if z = 8 then j + 1 else j) k) : qZk u nw nm lo hi := by
  refine ⟨hrg, (x + 1) % 8, min (z + 1) 8, Nat.mod_lt _ (by decide), by omega, c3, c4, m1, fun j hj => ?_⟩
  by_cases h8 : z = 8
  · subst h8
    rw [show min (8 + 1) 8 = 8 from rfl] at hj ⊢
    by_cases e : j = 7
    · subst e
      rw [show ((x + 1) % 8 + 8 - 8 + 7) % 8 = x by omega]
      exact hnew.ex c1 m2
    · refine (h4 (j + 1) (by omega)).ex (fun k hk => ?_) (fun k hk => ?_)
      · rw [show ((x + 1) % 8 + 8 - 8 + j) % 8 = (x + 8 - 8 + (j + 1)) % 8 by omega]
        exact c2 _ (Nat.mod_lt _ (by decide)) (by omega) k hk
      · have := m3 j (by omega) k hk
        rw [if_pos rfl] at this
        exact this
  · rw [show min (z + 1) 8 = z + 1 by omega] at hj ⊢
    rw [show min z 7 = z by omega] at m2 m3
    by_cases e : j = z
    · subst e
      rw [show ((x + 1) % 8 + 8 - (j + 1) + j) % 8 = x by omega]
      exact hnew.ex c1 m2
    · refine (h4 j (by omega)).ex (fun k hk => ?_) (fun k hk => ?_)
      · rw [show ((x + 1) % 8 + 8 - (z + 1) + j) % 8 = (x + 8 - z + j) % 8 by omega]
        exact c2 _ (Nat.mod_lt _ (by decide)) (by omega) k hk
      · have := m3 j (by omega) k hk
        rw [if_neg h8] at this
        exact this

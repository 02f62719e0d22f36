/-! board: both -/
theorem qj_of {s t : qb_M} (h : qF (fun x => x < 192) s t) : qj t s = t := by
  have e : ∀ {α : Type} (f g : Nat → Nat → α), (∀ x, ¬ x < 192 → f x = g x) → (fun a k => if a < 192 then f a k else g a k) = f := fun f g hx => funext fun a => funext fun k => by
    by_cases q : a < 192
    · exact if_pos q
    · rw [if_neg q, hx a q]
  exact Prod.ext (e _ _ (fun x hx => (h x hx).1)) (Prod.ext (e _ _ (fun x hx => (h x hx).2.1)) (e _ _ (fun x hx => (h x hx).2.2)))
def bC (M : qb_M) : qb_M := qb_ui (qb_ui (qb_ui (qb_ui (qb_ui (qb_ui (qb_ui (qb_ui M 139 5 4) 139 6 0) 139 7 0) 139 8 1) 139 9 0) 139 10 0) 139 11 0) 139 12 0
theorem bC_G {M : qb_M} : qG (fun x k => x = 139) M (bC M) := ((((((((qG.rf (P := fun x _ => x = 139)).ui (x := 139) rfl).ui rfl).ui rfl).ui rfl).ui rfl).ui rfl).ui rfl).ui rfl
theorem sp_clearP (d : Nat) (c : Nat × Nat) (M u : qb_M) : qe (d + 1) 12 [.ref 139] (qb_hp (qj M u), 149, c) = some (none, (qb_hp (qj (bC M) u), 149, c)) := by
  refine (en_12 d 139 _).trans ?_
  refine go_ald_1_0 rfl ?_
  refine go_c rfl ?_
  refine go_puti rfl ⟨_, rfl, rfl, by decide, by decide⟩ rfl rfl ?_
  rw [qj_ui (by decide)]
  refine go_ald_1_0 rfl ?_
  refine go_c rfl ?_
  refine go_puti rfl ⟨_, rfl, rfl, by decide, by decide⟩ rfl rfl ?_
  rw [qj_ui (by decide)]
  refine go_ald_1_0 rfl ?_
  refine go_c rfl ?_
  refine go_puti rfl ⟨_, rfl, rfl, by decide, by decide⟩ rfl rfl ?_
  rw [qj_ui (by decide)]
  refine go_ald_1_0 rfl ?_
  refine go_c rfl ?_
  refine go_puti rfl ⟨_, rfl, rfl, by decide, by decide⟩ rfl rfl ?_
  rw [qj_ui (by decide)]
  refine go_ald_1_0 rfl ?_
  refine go_c rfl ?_
  refine go_puti rfl ⟨_, rfl, rfl, by decide, by decide⟩ rfl rfl ?_
  rw [qj_ui (by decide)]
  refine go_ald_1_0 rfl ?_
  refine go_c rfl ?_
  refine go_puti rfl ⟨_, rfl, rfl, by decide, by decide⟩ rfl rfl ?_
  rw [qj_ui (by decide)]
  refine go_ald_1_0 rfl ?_
  refine go_c rfl ?_
  refine go_puti rfl ⟨_, rfl, rfl, by decide, by decide⟩ rfl rfl ?_
  rw [qj_ui (by decide)]
  refine go_ald_1_0 rfl ?_
  refine go_c rfl ?_
  refine go_puti rfl ⟨_, rfl, rfl, by decide, by decide⟩ rfl rfl ?_
  rw [qj_ui (by decide)]
  exact fin_v rfl rfl
def bS (m : qb_M) : qb_M := qb_wr (qb_ui (qb_wr m 194 30 282 (fun _ => 0)) 194 31 (m.1 194 4)) 194 36 8 (fun _ => -1)
theorem sp_startSo (d : Nat) (m : qb_M) (c : Nat × Nat) : qe (d + 1) 166 [.ref 192] (qb_hp (m), 149, c) = some (none, (qb_hp (bS m), 149, c)) := by
  obtain ⟨v, hv⟩ : ∃ v, v = qb_ui (qb_wr m 194 30 282 (fun _ => 0)) 194 31 (m.1 194 4) := ⟨_, rfl⟩
  have l2 : ∀ n k, k + n = 8 → qa_lm (qe (d)) (qa_cd qc_166) (38, [.ref 192, .int (nI k)], [], (qb_hp (qb_wr v 194 36 k (fun _ => -1)), 149, c)) = some (none, (qb_hp (bS m), 149, c)) := by
    intro n
    induction n with
    | zero =>
      intro k hk
      have hk : k = 8 := by omega
      subst hk
      refine go_ild_2_1 rfl ?_
      refine go_c rfl ?_
      refine go_icge rfl (fun e => ?_) (fun e => ?_)
      · rw [hv]
        exact fin_v rfl rfl
      · exact absurd (Int32.le_refl _) e
    | succ n ih =>
      intro k hk
      have ih := ih (k + 1) (by omega)
      refine go_ild_2_1 rfl ?_
      refine go_c rfl ?_
      refine go_icge rfl (fun e => ?_) (fun e => ?_)
      · exact absurd e (nI_ge (b := 8) (by omega) (by decide))
      · refine go_ald_2_0 rfl ?_
        refine go_getr rfl ⟨_, rfl, rfl, by decide, by decide⟩ ?_
        refine go_c rfl ?_
        refine go_ild_2_1 rfl ?_
        refine go_iadd rfl ?_
        rw [show (36 : Int32) = nI 36 from rfl, nI_add]
        refine go_c rfl ?_
        refine go_iast (j := 36 + k) rfl (⟨rfl, by decide, by decide, by decide⟩) (rfl) (by omega) ?_
        rw [qb_wr_s (j := 36 + k) (n := k) (g := fun _ => -1) rfl rfl]
        refine go_inc_2_1 rfl rfl ?_
        refine go_goto rfl ?_
        rw [nI_1]
        exact ih
  have l1 : ∀ n k, k + n = 282 → qa_lm (qe (d)) (qa_cd qc_166) (3, [.ref 192, .int (nI (30 + k))], [], (qb_hp (qb_wr m 194 30 k (fun _ => 0)), 149, c)) = some (none, (qb_hp (bS m), 149, c)) := by
    intro n
    induction n with
    | zero =>
      intro k hk
      have hk : k = 282 := by omega
      subst hk
      have h := l2 8 0 (by omega)
      rw [qb_wr_0, hv] at h
      refine go_ild_2_1 rfl ?_
      refine go_c rfl ?_
      refine go_icge rfl (fun e => ?_) (fun e => ?_)
      · refine go_ald_2_0 rfl ?_
        refine go_getr rfl ⟨_, rfl, rfl, by decide, by decide⟩ ?_
        refine go_c rfl ?_
        refine go_ald_2_0 rfl ?_
        refine go_getr rfl ⟨_, rfl, rfl, by decide, by decide⟩ ?_
        refine go_c rfl ?_
        refine go_iald (j := 4) rfl ⟨rfl, by decide, by decide, by decide⟩ rfl (by decide) ?_
        rw [show (qb_wr m 194 30 282 (fun _ => 0)).1 194 4 = m.1 194 4 from qb_wr_o (Or.inr (Or.inl (by decide)))]
        refine go_iast (j := 31) rfl ⟨rfl, by decide, by decide, by decide⟩ rfl (by decide) ?_
        refine go_c rfl ?_
        refine go_ist_2_1 rfl rfl ?_
        exact h
      · exact absurd (Int32.le_refl _) e
    | succ n ih =>
      intro k hk
      have ih := ih (k + 1) (by omega)
      refine go_ild_2_1 rfl ?_
      refine go_c rfl ?_
      refine go_icge rfl (fun e => ?_) (fun e => ?_)
      · exact absurd ((nI_leI (a := 312) (by decide) (by omega)).mp e) (by omega)
      · refine go_ald_2_0 rfl ?_
        refine go_getr rfl ⟨_, rfl, rfl, by decide, by decide⟩ ?_
        refine go_ild_2_1 rfl ?_
        refine go_c rfl ?_
        refine go_iast (j := 30 + k) rfl (⟨rfl, by decide, by decide, by decide⟩) (rfl) (by omega) ?_
        rw [qb_wr_s (j := 30 + k) (n := k) (g := fun _ => 0) rfl rfl]
        refine go_inc_2_1 rfl rfl ?_
        refine go_goto rfl ?_
        rw [nI_1]
        exact ih
  refine (en_166 d 192 _).trans ?_
  have h := l1 282 0 (by omega)
  rw [qb_wr_0] at h
  refine go_c rfl ?_
  refine go_ist_2_1 rfl rfl ?_
  exact h
theorem bS_so {m : qb_M} {k : Nat} (hk : k < 40) : qm_so (bS m) k = qs_s0 (m.1 194 4) k := by
  unfold qm_so bS qs_s0
  by_cases h1 : 6 ≤ k ∧ k < 14
  · have := qb_wr_in (s := qb_ui (qb_wr m 194 30 282 (fun _ => 0)) 194 31 (m.1 194 4)) (a := 194) (i := 36) (n := 8) (k := k - 6) (g := fun _ => -1) (by omega)
    rw [show 36 + (k - 6) = 30 + k by omega] at this
    rw [this, if_neg (by omega), if_pos h1]
  · rw [qb_wr_o (by omega)]
    by_cases h2 : k = 1
    · subst h2
      rw [if_pos rfl]
      exact qb_ui_1s
    · rw [if_neg h2, if_neg h1, qb_ui_1n (by omega)]
      exact qb_wr_in (by omega)
theorem bS_70 {m : qb_M} : (bS m).1 194 70 = 0 := by
  unfold bS
  rw [qb_wr_o (by omega), qb_ui_1n (by omega)]
  exact qb_wr_in (k := 40) (by decide)
theorem bS_G {m : qb_M} : qG (fun x k => x = 194 ∧ 30 ≤ k) m (bS m) := ((qG.rf.wr (fun k h1 h2 => ⟨rfl, h1⟩)).ui ⟨rfl, by decide⟩).wr (fun k h1 h2 => ⟨rfl, by omega⟩)
theorem qs_s0_in {nw nm F0 : Nat} {lo hi : Nat → Nat} {f g : Nat → Int32} (hF : F0 < 2 ^ nm) (hf : ∀ k, k < 40 → f k = qs_s0 (nI F0) k) (hg : ∀ k, k < 40 → g k = qs_s0 (nI F0) k) : qZs nw nm lo hi f g := by
  have hno : ∀ w, w < 8 → ¬ qs_on g w = true := fun w hw h => by
    unfold qs_on at h
    rw [decide_eq_true_eq, hg _ (by omega)] at h
    exact h (by unfold qs_s0; rw [if_neg (by omega), if_pos (by omega)])
  refine ⟨⟨fun k hk _ => (hf k hk).trans (hg k hk).symm, fun w hw h => absurd h (hno w hw)⟩, 0, F0, 0, fun _ => 0, fun _ => 0, ⟨hg 0 (by decide), by decide⟩, ⟨hg 1 (by decide), hF⟩, ⟨hg 2 (by decide), Nat.two_pow_pos nm⟩, fun w hw h => absurd h (hno w hw)⟩
theorem qT_board (d : Nat) : qT (d + 20) 17 167 [] := fun s c hZ => by
  obtain ⟨⟨hT, hi0, hi1, hsl, hbk, hr⟩, nw, nm, ns, V, F0, lo, hi, se, h1, h2, h3, h4⟩ := id hZ
  obtain ⟨n, t0, t1, t2, t3⟩ := hT
  have hb : ∀ k, ∃ b, k < n → b < 256 ∧ s.1 193 k = nI b := fun k => by
    by_cases hk : k < n
    · obtain ⟨b, b1, b2⟩ := (t3 k hk).2
      exact ⟨b, fun _ => ⟨b1, b2⟩⟩
    · exact ⟨0, fun z => absurd z hk⟩
  obtain ⟨b, hB⟩ := Classical.axiomOfChoice hb
  obtain ⟨A1, a1, a2, a3, a4⟩ := pc_open (d + 14) c (M := bC s) (n := n) (l := 900) (b := b) t0 (by decide) (fun k hk => (hB k hk).1) ((bC_G.i (by decide)).trans t1) (fun k hk => (bC_G.i (by decide)).trans ((t3 k hk).1.trans (hB k hk).2))
  obtain ⟨B1, b1, b2, b3, b4, b5⟩ := pm_begin (d + 15) c (M := s) (n := n) (l := 900) (b := b) t0 (by decide) (fun k hk => (hB k hk).1) t2 (fun k hk => (hB k hk).2)
  obtain ⟨B2, hB2⟩ : ∃ B2, B2 = qb_ui (qb_ui (qb_ui (qb_ui (qb_wr B1 195 0 30 (fun _ => 0)) 203 0 0) 203 1 0) 195 0 4) 195 3 1 := ⟨_, rfl⟩
  have gB2 : qG (fun x k => x = 195 ∨ x = 203) B1 B2 := by rw [hB2]; exact ((((qG.rf.wr (fun k _ _ => Or.inl rfl)).ui (Or.inr rfl)).ui (Or.inr rfl)).ui (Or.inl rfl)).ui (Or.inl rfl)
  have h195 : ∀ k, k < 30 → k ≠ 0 → k ≠ 3 → B2.1 195 k = 0 := fun k hk q0 q3 => by
    rw [hB2, qb_ui_1n (Or.inr q3), qb_ui_1n (Or.inr q0), qb_ui_1n (Or.inl (by decide)), qb_ui_1n (Or.inl (by decide))]
    exact qb_wr_i0 hk
  have hM0 : bE (qj A1 B2) := by
    refine ⟨4, 0, 0, 1, 0, fun _ => 0, fun _ => 0, fun _ => 0, false, false, ⟨⟨by decide, by decide, by decide, by decide, by decide, by decide⟩, ⟨(a4.i (by omega)).trans rfl, (a4.i (by omega)).trans rfl, (a4.i (by omega)).trans rfl, (a4.i (by omega)).trans rfl, (a4.i (by omega)).trans rfl⟩, ⟨?_, h195 1 (by decide) (by decide) (by decide), h195 2 (by decide) (by decide) (by decide), ?_, h195 4 (by decide) (by decide) (by decide)⟩, fun k hk => absurd hk (Nat.not_lt_zero k), fun k hk => absurd hk (Nat.not_lt_zero k)⟩, ⟨(a4.i (by omega)).trans rfl, ?_⟩, (a4.i (by omega)).trans rfl, ?_⟩
    · show B2.1 195 0 = 4
      rw [hB2]; rfl
    · show B2.1 195 3 = 1
      rw [hB2]; rfl
    · show B2.1 203 0 = 0
      rw [hB2]; rfl
    · show B2.1 203 1 = 0
      rw [hB2]; rfl
  have hC0 : rC (qj A1 B2) n 900 b 0 := rC_j a2
  have hR0 : rM (qj A1 B2) n 900 b 0 := rM_j (b2.mv gB2 (fun x k h => by omega))
  have gA1 : qG (fun x k => x = 65 ∧ 2 ≤ k ∧ k ≤ 10 ∨ x = 139) s A1 := (bC_G.mo (fun x k h => Or.inr h)).tr (a4.mo (fun x k h => Or.inl h))
  have gM0 := qj_G gA1 ((b5.mo (fun x k h => by omega : ∀ x k, _ → (x = 192 ∧ (k = 0 ∨ 2 ≤ k ∧ k ≤ 10 ∨ k = 12) ∨ x = 195 ∨ x = 203))).tr (gB2.mo (fun x k h => by omega)))
  have enC : ∀ u R, qa_lm (qe (d + 18)) (qa_cd qc_18) (13, [.ref 139, .ref 65, .int (nI 0)], [], (qb_hp (qj (qj A1 B2) u), 149, c)) = R → qe (d + 19) 18 [.ref 139, .ref 65] (qb_hp (qj s u), 149, c) = R := fun u R hR => by
    rw [qj_j] at hR
    refine (en_18 (d + 18) 139 65 _).trans ?_
    refine go_ald_3_0 rfl ?_
    refine go_call1 rfl (sp_clearP (d + 17) c s u) (Nat.le_of_ble_eq_true rfl) (qb_qv rfl (by decide) (by decide)) ?_
    refine go_ald_3_1 rfl ?_
    refine go_c rfl ?_
    refine go_call2 rfl (a1 u) (Nat.le_of_ble_eq_true rfl) (qb_qv rfl (by decide) (by decide)) ?_
    refine go_c rfl ?_
    refine go_ist_3_2 rfl rfl ?_
    exact hR
  have enM : ∀ u R, qa_lm (qe (d + 19)) (qa_cd qc_167) (58, [.ref 192, .int (nI 0), .retAddr 0], [], (qb_hp (qj u (qj A1 B2)), 149, c)) = R → qe (d + 20) 167 [.ref 192] (qb_hp (qj u s), 149, c) = R := fun u R hR => by
    rw [qj_J, hB2] at hR
    have zero : ∀ m k, k + m = 30 → qa_lm (qe (d + 19)) (qa_cd qc_167) (9, [.ref 192, .int (nI k), .retAddr 0], [], (qb_hp (qj u (qb_wr B1 195 0 k (fun _ => 0))), 149, c)) = R := by
      intro m
      induction m with
      | zero =>
        intro k hk
        have hk : k = 30 := by omega
        subst hk
        refine go_ild_3_1 rfl ?_
        refine go_c rfl ?_
        refine go_icge rfl (fun e => ?_) (fun e => ?_)
        · refine go_ald_3_0 rfl ?_
          refine go_getr rfl ⟨_, rfl, rfl, by decide, by decide⟩ ?_
          refine go_c rfl ?_
          refine go_c rfl ?_
          refine go_zast (j := 0) rfl ⟨rfl, by decide, by decide, by decide⟩ rfl (by decide) rfl ?_
          rw [qj_UI (by decide)]
          refine go_ald_3_0 rfl ?_
          refine go_getr rfl ⟨_, rfl, rfl, by decide, by decide⟩ ?_
          refine go_c rfl ?_
          refine go_c rfl ?_
          refine go_zast (j := 1) rfl ⟨rfl, by decide, by decide, by decide⟩ rfl (by decide) rfl ?_
          rw [qj_UI (by decide)]
          refine go_ald_3_0 rfl ?_
          refine go_getr rfl ⟨_, rfl, rfl, by decide, by decide⟩ ?_
          refine go_c rfl ?_
          refine go_c rfl ?_
          refine go_iast (j := 0) rfl ⟨rfl, by decide, by decide, by decide⟩ rfl (by decide) ?_
          rw [qj_UI (by decide)]
          refine go_ald_3_0 rfl ?_
          refine go_getr rfl ⟨_, rfl, rfl, by decide, by decide⟩ ?_
          refine go_c rfl ?_
          refine go_c rfl ?_
          refine go_iast (j := 3) rfl ⟨rfl, by decide, by decide, by decide⟩ rfl (by decide) ?_
          rw [qj_UI (by decide)]
          refine go_c rfl ?_
          refine go_ist_3_1 rfl rfl ?_
          exact hR
        · exact absurd (Int32.le_refl _) e
      | succ m ih =>
        intro k hk
        have ih := ih (k + 1) (by omega)
        refine go_ild_3_1 rfl ?_
        refine go_c rfl ?_
        refine go_icge rfl (fun e => ?_) (fun e => ?_)
        · exact absurd e (nI_ge (b := 30) (by omega) (by decide))
        · refine go_ald_3_0 rfl ?_
          refine go_getr rfl ⟨_, rfl, rfl, by decide, by decide⟩ ?_
          refine go_ild_3_1 rfl ?_
          refine go_c rfl ?_
          refine go_iast (j := k) rfl (⟨rfl, by decide, by decide, by decide⟩) (rfl) (by omega) ?_
          rw [qj_UI (by decide), qb_wr_s (j := k) (n := k) (g := fun _ => 0) (by omega) rfl]
          refine go_inc_3_1 rfl rfl ?_
          refine go_goto rfl ?_
          rw [nI_1]
          exact ih
    have hz := zero 30 0 (by omega)
    rw [qb_wr_0] at hz
    refine (en_167 (d + 19) 192 _).trans ?_
    refine go_ald_3_0 rfl ?_
    refine go_c rfl ?_
    refine go_call2 rfl (b1 u) (Nat.le_of_ble_eq_true rfl) (qb_qv rfl (by decide) (by decide)) ?_
    refine go_c rfl ?_
    refine go_ist_3_1 rfl rfl ?_
    exact hz
  rcases br_loop (d + 10) (d + 10) c (n := n) (l := 900) (b := b) (n + 1) (qj A1 B2) 0 0 (.retAddr 0) (by omega) hC0 hR0 hM0 ((a4.i (by omega)).trans rfl) (by omega) with ⟨M', j, o1, o2, o3, o4, o5⟩ | ⟨M', pl, o1, o2, o3, o4, o5⟩
  · obtain ⟨nw', nm', ns', V', F', lo', hi', se', wt, vt, hZp, _, _⟩ := o4
    obtain ⟨s1, hs1⟩ : ∃ s1, s1 = qb_ui (qj M' s) 65 1 0 := ⟨_, rfl⟩
    obtain ⟨s2, p1, p2, p3⟩ := sp_copyP (d + 18) s1 c qP_67 qP_139 (by decide)
    obtain ⟨s3, q1, q2, q3⟩ := sp_begin (d + 17) s2 c
    obtain ⟨s5, hs5⟩ : ∃ s5, s5 = qb_ui (qb_ui (qb_ui s3 78 4 0) 78 5 0) 83 2 0 := ⟨_, rfl⟩
    have gMM : qG (fun x k => x = 65 ∧ 2 ≤ k ∧ k ≤ 10 ∨ 139 ≤ x ∧ x ≤ 144 ∨ x = 192 ∧ (k = 0 ∨ 2 ≤ k ∧ k ≤ 10 ∨ k = 12 ∨ k = 13) ∨ x = 195 ∨ x = 200 ∨ x = 203) s M' := (gM0.mo (fun x k h => by omega)).tr (o5.mo (fun x k h => by unfold bL bF at h; omega))
    have g1 : qG (fun x k => x = 65 ∧ 1 ≤ k ∧ k ≤ 10 ∨ 139 ≤ x ∧ x ≤ 144) s s1 := by
      rw [hs1]
      refine qG.ui (fun x k h => ?_) (by omega)
      by_cases hx : x < 192
      · rw [qj_i hx, qj_l hx, qj_p hx]
        exact gMM x k (by omega)
      · rw [qj_I hx, qj_L hx, qj_P hx]
        exact ⟨rfl, rfl, rfl⟩
    have g5 : qG (fun x k => 67 ≤ x ∧ x ≤ 78 ∨ x = 83 ∧ k = 2) s1 s5 := by
      rw [hs5]
      exact ((((p3.G.mo (fun x k h => by omega)).tr (q3.F.G.mo (fun x k h => by omega))).ui (by omega)).ui (by omega)).ui (by omega)
    have gs5 : qG (fun x k => x = 65 ∧ 1 ≤ k ∧ k ≤ 10 ∨ 139 ≤ x ∧ x ≤ 144 ∨ 67 ≤ x ∧ x ≤ 78 ∨ x = 83 ∧ k = 2) s s5 := (g1.mo (fun x k h => by omega)).tr (g5.mo (fun x k h => by omega))
    have hj5 : qj s5 s = s5 := qj_of ((gs5.mo (fun x k h => by omega : ∀ x k, _ → x < 192)).F)
    have hcl : qe (d + 19) 43 [.ref 78] (qb_hp (s3), 149, c) = some (none, (qb_hp (qb_ui (qb_ui s3 78 4 0) 78 5 0), 149, c)) := by
      refine (en_43 (d + 18) 78 _).trans ?_
      refine go_ald_1_0 rfl ?_
      refine go_c rfl ?_
      refine go_puti rfl ⟨_, rfl, rfl, by decide, by decide⟩ rfl rfl ?_
      refine go_ald_1_0 rfl ?_
      refine go_c rfl ?_
      refine go_puti rfl ⟨_, rfl, rfl, by decide, by decide⟩ rfl rfl ?_
      exact fin_v rfl rfl
    have hln : s5.1 67 10 = nI j := by
      rw [hs5]
      refine (qb_ui_1n (by omega)).trans ((qb_ui_1n (by omega)).trans ((qb_ui_1n (by omega)).trans ((q3.F.i (by omega)).trans ?_)))
      refine (p2.2.2 10 (by decide) (by decide)).trans ?_
      rw [hs1]
      exact (qb_ui_1n (by omega)).trans o3
    -- the reference
    obtain ⟨m, hm⟩ : ∃ m, m = qj s5 M' := ⟨_, rfl⟩
    obtain ⟨m1, hm1⟩ : ∃ m1, m1 = qb_wr m 194 0 30 (fun k => m.1 195 k) := ⟨_, rfl⟩
    obtain ⟨m2, hm2⟩ : ∃ m2, m2 = qb_wl m1 199 0 15 (fun k => m.2.1 200 k) := ⟨_, rfl⟩
    have hmod : qe (d + 20) 167 [.ref 192] (qb_hp (s5), 149, c) = some (some (.int (nI j)), (qb_hp (qb_ui (bS m2) 192 24 0), 149, c)) := by
      rw [← hj5]
      refine enM s5 _ ((o2 s5).trans ?_)
      rw [← hm]
      have e2 : ∀ i k, k + i = 15 → qa_lm (qe (d + 19)) (qa_cd qc_167) (120, [.ref 192, .int (nI j), .int (nI k)], [], (qb_hp (qb_wl m1 199 0 k (fun k => m.2.1 200 k)), 149, c)) = some (some (.int (nI j)), (qb_hp (qb_ui (bS m2) 192 24 0), 149, c)) := by
        intro i
        induction i with
        | zero =>
          intro k hk
          have hk : k = 15 := by omega
          subst hk
          rw [← hm2]
          refine go_ild_3_2 rfl ?_
          refine go_c rfl ?_
          refine go_icge rfl (fun e => ?_) (fun e => ?_)
          · refine go_ald_3_0 rfl ?_
            refine go_call1 rfl (sp_startSo (d + 18) m2 c) (Nat.le_of_ble_eq_true rfl) (qb_qv rfl (by decide) (by decide)) ?_
            refine go_ald_3_0 rfl ?_
            refine go_c rfl ?_
            refine go_puti rfl ⟨_, rfl, rfl, by decide, by decide⟩ rfl rfl ?_
            refine go_ild_3_1 rfl ?_
            exact fin_i rfl rfl rfl
          · exact absurd (Int32.le_refl _) e
        | succ i ih =>
          intro k hk
          have ih := ih (k + 1) (by omega)
          refine go_ild_3_2 rfl ?_
          refine go_c rfl ?_
          refine go_icge rfl (fun e => ?_) (fun e => ?_)
          · exact absurd e (nI_ge (b := 15) (by omega) (by decide))
          · refine go_ald_3_0 rfl ?_
            refine go_getr rfl ⟨_, rfl, rfl, by decide, by decide⟩ ?_
            refine go_ild_3_2 rfl ?_
            refine go_ald_3_0 rfl ?_
            refine go_getr rfl ⟨_, rfl, rfl, by decide, by decide⟩ ?_
            refine go_ild_3_2 rfl ?_
            refine go_lald (j := k) rfl (⟨rfl, by decide, by decide, by decide⟩) (rfl) (by omega) ?_
            rw [show (qb_wl m1 199 0 k (fun k => m.2.1 200 k)).2.1 200 k = m.2.1 200 k from (qb_wl_o (Or.inl (by decide))).trans (by rw [hm1]; rfl)]
            refine go_last (j := k) rfl (⟨rfl, by decide, by decide, by decide⟩) (rfl) (by omega) ?_
            rw [qb_wl_s (j := k) (n := k) (g := fun k => m.2.1 200 k) (by omega) rfl]
            refine go_inc_3_2 rfl rfl ?_
            refine go_goto rfl ?_
            rw [nI_1]
            exact ih
      have e1 : ∀ i k, k + i = 30 → qa_lm (qe (d + 19)) (qa_cd qc_167) (94, [.ref 192, .int (nI j), .int (nI k)], [], (qb_hp (qb_wr m 194 0 k (fun k => m.1 195 k)), 149, c)) = some (some (.int (nI j)), (qb_hp (qb_ui (bS m2) 192 24 0), 149, c)) := by
        intro i
        induction i with
        | zero =>
          intro k hk
          have hk : k = 30 := by omega
          subst hk
          have h := e2 15 0 (by omega)
          rw [qb_wl_0] at h
          rw [← hm1]
          refine go_ild_3_2 rfl ?_
          refine go_c rfl ?_
          refine go_icge rfl (fun e => ?_) (fun e => ?_)
          · refine go_c rfl ?_
            refine go_ist_3_2 rfl rfl ?_
            exact h
          · exact absurd (Int32.le_refl _) e
        | succ i ih =>
          intro k hk
          have ih := ih (k + 1) (by omega)
          refine go_ild_3_2 rfl ?_
          refine go_c rfl ?_
          refine go_icge rfl (fun e => ?_) (fun e => ?_)
          · exact absurd e (nI_ge (b := 30) (by omega) (by decide))
          · refine go_ald_3_0 rfl ?_
            refine go_getr rfl ⟨_, rfl, rfl, by decide, by decide⟩ ?_
            refine go_ild_3_2 rfl ?_
            refine go_ald_3_0 rfl ?_
            refine go_getr rfl ⟨_, rfl, rfl, by decide, by decide⟩ ?_
            refine go_ild_3_2 rfl ?_
            refine go_iald (j := k) rfl (⟨rfl, by decide, by decide, by decide⟩) (rfl) (by omega) ?_
            rw [show (qb_wr m 194 0 k (fun k => m.1 195 k)).1 195 k = m.1 195 k from qb_wr_o (Or.inl (by decide))]
            refine go_iast (j := k) rfl (⟨rfl, by decide, by decide, by decide⟩) (rfl) (by omega) ?_
            rw [qb_wr_s (j := k) (n := k) (g := fun k => m.1 195 k) (by omega) rfl]
            refine go_inc_3_2 rfl rfl ?_
            refine go_goto rfl ?_
            rw [nI_1]
            exact ih
      have h := e1 30 0 (by omega)
      rw [qb_wr_0] at h
      refine go_c rfl ?_
      refine go_ist_3_2 rfl rfl ?_
      exact h
    obtain ⟨u, hu⟩ : ∃ u, u = qb_ui (bS m2) 192 24 0 := ⟨_, rfl⟩
    rw [← hu] at hmod
    have gmu : qG (fun x k => x = 194 ∨ x = 199 ∨ x = 192 ∧ k = 24) m u := by
      rw [hu, hm2, hm1]
      exact (((qG.rf.wr (fun k _ _ => by omega)).wl (fun k _ _ => by omega)).tr (bS_G.mo (fun x k h => by omega))).ui (by omega)
    have gsu : qG (fun x k => x = 65 ∨ 67 ≤ x ∧ x ≤ 78 ∨ x = 83 ∧ k = 2 ∨ 139 ≤ x ∧ x ≤ 144 ∨ x = 192 ∧ (k ≤ 13 ∨ k = 24) ∨ x = 194 ∨ x = 195 ∨ x = 199 ∨ x = 200 ∨ x = 203) s u := by
      have gsm : qG (fun x k => x = 65 ∨ 67 ≤ x ∧ x ≤ 78 ∨ x = 83 ∧ k = 2 ∨ 139 ≤ x ∧ x ≤ 144 ∨ x = 192 ∧ (k ≤ 13 ∨ k = 24) ∨ x = 194 ∨ x = 195 ∨ x = 199 ∨ x = 200 ∨ x = 203) s m := by
        rw [hm]
        exact (qj_G gs5 gMM).mo (fun x k h => by omega)
      exact gsm.tr (gmu.mo (fun x k h => by omega))
    have hu5 : ∀ x k, x < 192 → u.1 x k = s5.1 x k ∧ u.2.1 x k = s5.2.1 x k ∧ u.2.2 x k = s5.2.2 x k := fun x k hx => by
      have := gmu x k (by omega)
      rw [hm, qj_i hx, qj_l hx, qj_p hx] at this
      exact this
    have h65 : M'.1 65 2 = 0 := (o5.i (by unfold bL bF; omega)).trans a3
    have h10 : M'.1 192 10 = 0 := (o5.i (by unfold bL bF; omega)).trans ((gB2.i (by omega)).trans b3)
    have h22 : M'.1 192 2 = 0 := (o5.i (by unfold bL bF; omega)).trans ((gB2.i (by omega)).trans b4)
    refine ⟨nI j, s5, u, ?_, hmod, ⟨⟨qZt_0 ?_ ?_, hi0.mv gsu (by decide) (Or.inl rfl) (fun x k h => by omega), hi1.mv gsu (by decide) (Or.inr rfl) (fun x k h => by omega), hsl.mv gsu (fun x k h => by omega), hbk.mv gsu (fun x k h => by omega), ?_, ?_, ?_, ?_⟩, nw', nm', ns', V', F', lo', hi', se', ?_, ?_, ?_, ?_⟩⟩
    · refine (en_17 (d + 19) 64 _).trans ?_
      have hrd := enC s _ (o1 s)
      rw [qj_self] at hrd
      refine go_ald_2_0 rfl ?_
      refine go_getr rfl ⟨_, rfl, rfl, by decide, by decide⟩ ?_
      refine go_ald_2_0 rfl ?_
      refine go_getr rfl ⟨_, rfl, rfl, by decide, by decide⟩ ?_
      refine go_call2 rfl (hrd) (Nat.le_of_ble_eq_true rfl) (qb_qv rfl (by decide) (by decide)) ?_
      refine go_ist_2_1 rfl rfl ?_
      refine go_ald_2_0 rfl ?_
      refine go_getr rfl ⟨_, rfl, rfl, by decide, by decide⟩ ?_
      refine go_c rfl ?_
      refine go_puti rfl ⟨_, rfl, rfl, by decide, by decide⟩ rfl rfl ?_
      rw [← hs1]
      refine go_ild_2_1 rfl ?_
      refine go_ifne rfl (fun e => ?_) (fun e => ?_)
      · exact absurd e (by decide)
      · refine go_ald_2_0 rfl ?_
        refine go_getr rfl ⟨_, rfl, rfl, by decide, by decide⟩ ?_
        refine go_ald_2_0 rfl ?_
        refine go_getr rfl ⟨_, rfl, rfl, by decide, by decide⟩ ?_
        refine go_call2 rfl (p1) (Nat.le_of_ble_eq_true rfl) (qb_qv rfl (by decide) (by decide)) ?_
        refine go_ald_2_0 rfl ?_
        refine go_getr rfl ⟨_, rfl, rfl, by decide, by decide⟩ ?_
        refine go_ald_2_0 rfl ?_
        refine go_getr rfl ⟨_, rfl, rfl, by decide, by decide⟩ ?_
        refine go_call2 rfl (q1) (Nat.le_of_ble_eq_true rfl) (qS_v qS_73) ?_
        refine go_ald_2_0 rfl ?_
        refine go_getr rfl ⟨_, rfl, rfl, by decide, by decide⟩ ?_
        refine go_call1 rfl (hcl) (Nat.le_of_ble_eq_true rfl) (qb_qv rfl (by decide) (by decide)) ?_
        refine go_ald_2_0 rfl ?_
        refine go_getr rfl ⟨_, rfl, rfl, by decide, by decide⟩ ?_
        refine go_c rfl ?_
        refine go_puti rfl ⟨_, rfl, rfl, by decide, by decide⟩ rfl rfl ?_
        rw [← hs5]
        refine go_ald_2_0 rfl ?_
        refine go_getr rfl ⟨_, rfl, rfl, by decide, by decide⟩ ?_
        refine go_geti rfl ⟨_, rfl, rfl, by decide, by decide⟩ ?_
        rw [hln]
        exact fin_i rfl rfl rfl
    · rw [(hu5 65 1 (by decide)).1, g5.i (by omega), hs1]
      exact qb_ui_1s
    · rw [gmu.i (by omega), hm]
      exact h22
    · rw [gsu.i (by omega), gsu.i (by omega)]
      exact hr.1
    · rw [gsu.i (by omega), gsu.i (by omega)]
      exact hr.2.1
    · rw [gsu.i (by omega), gsu.i (by omega)]
      exact hr.2.2.1
    · rw [(hu5 65 2 (by decide)).1, g5.i (by omega), hs1, qb_ui_1n (by omega), gmu.i (by omega), hm]
      exact h65.trans h10.symm
    · -- the board
      have hcp : qP_cp M' u 67 139 := by
        have hx : ∀ x k, 67 ≤ x → x ≤ 72 → u.1 x k = s2.1 x k ∧ u.2.1 x k = s2.2.1 x k := fun x k h1 h2 => by
          have e := hu5 x k (by omega)
          rw [e.1, e.2.1, hs5]
          exact ⟨(qb_ui_1n (by omega)).trans ((qb_ui_1n (by omega)).trans ((qb_ui_1n (by omega)).trans (q3.F.i (by omega)))), q3.F.l (by omega)⟩
        have hy : ∀ x k, 139 ≤ x → x ≤ 144 → s1.1 x k = M'.1 x k ∧ s1.2.1 x k = M'.2.1 x k := fun x k h1 h2 => by
          rw [hs1]
          exact ⟨(qb_ui_1n (by omega)).trans (qj_i (by omega)), qj_l (by omega)⟩
        refine ⟨fun k hk => ?_, fun k hk => ?_, fun k hk1 hk2 => ?_⟩
        · obtain ⟨c1, c2, c3⟩ := p2.1 k hk
          exact ⟨(hx _ _ (by decide) (by decide)).1.trans (c1.trans (hy _ _ (by decide) (by decide)).1), (hx _ _ (by decide) (by decide)).1.trans (c2.trans (hy _ _ (by decide) (by decide)).1), (hx _ _ (by decide) (by decide)).2.trans (c3.trans (hy _ _ (by decide) (by decide)).2)⟩
        · obtain ⟨c1, c2⟩ := p2.2.1 k hk
          exact ⟨(hx _ _ (by decide) (by decide)).2.trans (c1.trans (hy _ _ (by decide) (by decide)).2), (hx _ _ (by decide) (by decide)).1.trans (c2.trans (hy _ _ (by decide) (by decide)).1)⟩
        · exact (hx _ _ (by decide) (by decide)).1.trans ((p2.2.2 k hk1 hk2).trans (hy _ _ (by decide) (by decide)).1)
      refine hZp.cp hcp (fun k hk => ?_) (fun k hk => ?_)
      · rw [Nat.zero_add, hu, qb_ui_1n (by omega), bS_G.i (by omega), hm2]
        show m1.1 194 k = _
        rw [hm1, qb_wr_i0 hk, hm]
        rfl
      · rw [Nat.zero_add, hu]
        show (bS m2).2.1 199 k = _
        rw [bS_G.l (by omega), hm2, qb_wl_i0 hk, hm]
        rfl
    · -- what is so
      have hF9 : M'.1 139 9 = nI F' := hZp.2.1.2.2.2.2
      refine qs_s0_in hZp.1.2.2.2.2.2 (fun k hk => ?_) (fun k hk => ?_)
      · have e : qs_so u 73 k = qs_so s3 73 k := by
          have hx : ∀ x k, 73 ≤ x → x ≤ 77 → u.1 x k = s3.1 x k := fun x k h1 h2 => by
            rw [(hu5 x k (by omega)).1, hs5]
            exact (qb_ui_1n (by omega)).trans ((qb_ui_1n (by omega)).trans (qb_ui_1n (by omega)))
          exact qs_so_eq (fun _ => hx _ _ (by decide) (by decide)) (fun _ _ => hx _ _ (by decide) (by decide)) (fun _ _ => hx _ _ (by decide) (by decide)) (fun _ _ => hx _ _ (by decide) (by decide)) (fun _ => hx _ _ (by decide) (by decide))
        rw [e, q2 k hk, p2.2.2 9 (by decide) (by decide), hs1, qb_ui_1n (by omega), qj_i (by decide), hF9]
      · have e : qm_so u k = qm_so (bS m2) k := by
          unfold qm_so
          rw [hu, qb_ui_1n (by omega)]
        rw [e, bS_so hk, hm2]
        show qs_s0 (m1.1 194 4) k = _
        rw [hm1, qb_wr_i0 (by decide), hm]
        show qs_s0 (M'.1 195 4) k = _
        rw [hZp.2.2.1.2.2.2.2]
    · -- no sentence
      refine ⟨0, 0, ?_, by decide, ?_, by decide, Or.inl ⟨rfl, rfl, ?_⟩⟩
      · rw [(hu5 78 4 (by decide)).1, hs5]; rfl
      · rw [(hu5 78 5 (by decide)).1, hs5]; rfl
      · rw [Nat.zero_add, hu, qb_ui_1n (by omega)]
        exact bS_70
    · -- no past
      obtain ⟨hrg, x, z, hx, hz, k1, k2, k3, k4⟩ := h4
      refine ⟨fun i hi => (gsu.p (by omega)).trans (hrg i hi), x, 0, hx, by decide, (gsu.i (by omega)).trans k1, ?_, ?_, fun j hj => absurd hj (Nat.not_lt_zero j)⟩
      · rw [(hu5 83 2 (by decide)).1, hs5]; rfl
      · rw [hu]; rfl
  · obtain ⟨s1, hs1⟩ : ∃ s1, s1 = qb_ui (qj M' s) 65 1 0 := ⟨_, rfl⟩
    have gMM : qG (fun x k => x = 65 ∧ 2 ≤ k ∧ k ≤ 10 ∨ 139 ≤ x ∧ x ≤ 144 ∨ x = 192 ∧ (k = 0 ∨ 2 ≤ k ∧ k ≤ 13) ∨ x = 195 ∨ x = 200 ∨ x = 203) s M' := (gM0.mo (fun x k h => by omega)).tr (o5.mo (fun x k h => by unfold bN bG bF at h; omega))
    have g1 : qG (fun x k => x = 65 ∧ 1 ≤ k ∧ k ≤ 10 ∨ 139 ≤ x ∧ x ≤ 144) s s1 := by
      rw [hs1]
      refine qG.ui (fun x k h => ?_) (by omega)
      by_cases hx : x < 192
      · rw [qj_i hx, qj_l hx, qj_p hx]
        exact gMM x k (by omega)
      · rw [qj_I hx, qj_L hx, qj_P hx]
        exact ⟨rfl, rfl, rfl⟩
    have hj1 : qj s1 s = s1 := qj_of ((g1.mo (fun x k h => by omega : ∀ x k, _ → x < 192)).F)
    have h22 : M'.1 192 2 = 0 := (o5.i (by unfold bN bG bF; omega)).trans ((gB2.i (by omega)).trans b4)
    refine ⟨-1 - nI pl, s1, qj s1 M', ?_, ?_, qZ_ans hZ ((qj_G g1 gMM).mo (fun x k h => by unfold qA_P; omega)) (qZt_0 ?_ h22) ⟨?_, ?_, ?_, ?_⟩⟩
    · refine (en_17 (d + 19) 64 _).trans ?_
      have hrd := enC s _ (o1 s)
      rw [qj_self] at hrd
      refine go_ald_2_0 rfl ?_
      refine go_getr rfl ⟨_, rfl, rfl, by decide, by decide⟩ ?_
      refine go_ald_2_0 rfl ?_
      refine go_getr rfl ⟨_, rfl, rfl, by decide, by decide⟩ ?_
      refine go_call2 rfl (hrd) (Nat.le_of_ble_eq_true rfl) (qb_qv rfl (by decide) (by decide)) ?_
      refine go_ist_2_1 rfl rfl ?_
      refine go_ald_2_0 rfl ?_
      refine go_getr rfl ⟨_, rfl, rfl, by decide, by decide⟩ ?_
      refine go_c rfl ?_
      refine go_puti rfl ⟨_, rfl, rfl, by decide, by decide⟩ rfl rfl ?_
      rw [← hs1]
      refine go_ild_2_1 rfl ?_
      refine go_ifne rfl (fun e => ?_) (fun e => ?_)
      · refine go_c rfl ?_
        refine go_ald_2_0 rfl ?_
        refine go_getr rfl ⟨_, rfl, rfl, by decide, by decide⟩ ?_
        refine go_geti rfl ⟨_, rfl, rfl, by decide, by decide⟩ ?_
        rw [show s1.1 65 3 = nI pl from by rw [hs1]; exact (qb_ui_1n (by omega)).trans o3]
        refine go_isub rfl ?_
        exact fin_i rfl rfl rfl
      · exact absurd rfl e
    · rw [show qe (d + 20) 167 [.ref 192] (qb_hp (s1), 149, c) = qe (d + 20) 167 [.ref 192] (qb_hp (qj s1 s), 149, c) by rw [hj1]]
      exact enM s1 _ (o2 s1)
    · show s1.1 65 1 = 0
      rw [hs1]; exact qb_ui_1s
    · show s1.1 64 15 = M'.1 192 27
      rw [g1.i (by omega), gMM.i (by omega)]
      exact hr.1
    · show s1.1 64 16 = M'.1 192 30
      rw [g1.i (by omega), gMM.i (by omega)]
      exact hr.2.1
    · show s1.1 64 17 = M'.1 192 31
      rw [g1.i (by omega), gMM.i (by omega)]
      exact hr.2.2.1
    · show s1.1 65 2 = M'.1 192 10
      rw [hs1, qb_ui_1n (by omega)]
      exact o4

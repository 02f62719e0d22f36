/-! a line of a book is lived, in both: any line -/
def lv_D (nw nm V : Nat) (lo hi : Nat → Nat) (H : Nat) (G : Nat → Int32) (d e : Nat) (c : Nat × Nat) (s1 : qb_M) (v : Nat) (x y n h Y N Z : Int32) : Prop := ∃ (r : Int32) (t : qb_M) (G' : Nat → Int32), (r ≠ 0 → 10 * nI v + r ≠ 0) ∧ qe (d + 5) 59 [.ref 125, .ref 145, .int (nI v), .int x, .int y, .int n, .int h] (qb_hp (s1), 149, c) = some (some (.int (r)), (qb_hp (t), 149, c)) ∧ qC_fr 145 s1 t ∧ qD nw nm V lo hi H (qs_so t 145) G' ∧ (∀ k, k < 30 ∨ 70 ≤ k → G' k = G k) ∧ (r ≠ 0 → G' = G) ∧ (∀ m : qb_M, m.1 194 = G → ∃ m1, qe (e + 7) 215 [.ref 192, .int (nI v), .int x, .int Y, .int Z] (qb_hp (m), 149, c) = some (some (.int (r)), (qb_hp (m1), 149, c)) ∧ m1.1 194 = G ∧ qM_fr m m1) ∧ (r = 0 → ∀ m : qb_M, m.1 194 = G → ∃ m2, qe (e + 7) 222 [.ref 192, .int (nI v), .int x, .int Y, .int N, .int Z] (qb_hp (m), 149, c) = some (none, (qb_hp (m2), 149, c)) ∧ m2.1 194 = G' ∧ qM_fr m m2)
def lv_C (nw nm V : Nat) (lo hi : Nat → Nat) (G : Nat → Int32) (d e : Nat) (c : Nat × Nat) (M s1 : qb_M) (i : Nat) : Prop := ∃ (r : Int32) (t : qb_M) (G' : Nat → Int32) (H' : Nat), (r ≠ 0 → 10 * M.1 134 i + r ≠ 0) ∧ qe (d + 5) 59 [.ref 125, .ref 145, .int (M.1 134 i), .int (M.1 135 i), .int (M.1 136 i), .int (M.1 137 i), .int (M.1 138 i)] (qb_hp (s1), 149, c) = some (some (.int (r)), (qb_hp (t), 149, c)) ∧ qC_f s1 t ∧ qD nw nm V lo hi H' (qs_so t 145) G' ∧ (∀ k, k < 30 ∨ 70 ≤ k → G' k = G k) ∧ ∀ m : qb_M, m.1 194 = G → (∀ k, m.1 209 k = M.1 209 k) → ∃ m', qe (e + 8) 275 [.ref 192, .int (nI (5 * i))] (qb_hp (m), 149, c) = some (some (.int (if r = 0 then 0 else 10 * M.1 134 i + r)), (qb_hp (m'), 149, c)) ∧ m'.1 194 = G' ∧ qM_f m m'
theorem qC_fr.f {s t : qb_M} (h : qC_fr 145 s t) : qC_f s t := h.1.mo (fun x hx => by omega)
theorem lv_pack {nw nm V : Nat} {lo hi : Nat → Nat} {H : Nat} {G : Nat → Int32} (d e : Nat) (c : Nat × Nat) (M s1 : qb_M) (hG0 : G 0 = nI nw) (w1 : 2 ≤ nw) (w2 : nw ≤ 8) {i : Nat} (hi0 : i < 40) {v : Nat} (hv : v ≤ 4) (e4 : M.1 134 i = nI v) (e0 : M.1 209 (5 * i) = nI v) (e1 : M.1 209 (5 * i + 1) = M.1 135 i) (hw : v = 0 → (0 ≤ M.1 135 i ∧ M.1 135 i < nI nw) ∧ 0 ≤ M.1 209 (5 * i + 2) ∧ M.1 209 (5 * i + 2) < nI nw) (hw1 : v = 1 → 0 ≤ M.1 135 i ∧ M.1 135 i < nI nw) (h : lv_D nw nm V lo hi H G d e c s1 v (M.1 135 i) (M.1 136 i) (M.1 137 i) (M.1 138 i) (M.1 209 (5 * i + 2)) (M.1 209 (5 * i + 3)) (M.1 209 (5 * i + 4))) : lv_C nw nm V lo hi G d e c M s1 i := by
  obtain ⟨r, t, G', a0, a1, a2, a3, a4, a5, a6, a7⟩ := h
  refine ⟨r, t, G', H, by rw [e4]; exact a0, by rw [e4]; exact a1, a2.f, a3, a4, fun m hm h9 => ?_⟩
  obtain ⟨m1, b1, b2, b3⟩ := a6 m hm
  have hm0 : m.1 194 0 = nI nw := by rw [hm]; exact hG0
  by_cases h0 : r = 0
  · obtain ⟨m2, c1, c2, c3⟩ := a7 h0 m1 b2
    refine ⟨m2, ?_, c2, b3.f.tr c3.f⟩
    rw [if_pos h0]
    exact lv_goBy e c m hi0 hv ((h9 _).trans e0) ((h9 _).trans e1) (h9 _) (h9 _) (h9 _) hm0 w1 w2 hw hw1 b1 (fun k => b3.i (by omega)) _ (fun _ => ⟨m2, c1, rfl⟩) (fun z => absurd h0 z)
  · refine ⟨m1, ?_, by rw [a5 h0]; exact b2, b3.f⟩
    rw [if_neg h0, e4]
    exact lv_goBy e c m hi0 hv ((h9 _).trans e0) ((h9 _).trans e1) (h9 _) (h9 _) (h9 _) hm0 w1 w2 hw hw1 b1 (fun k => b3.i (by omega)) _ (fun z => absurd z h0) (fun _ => rfl)
theorem lv_line {nw nm V : Nat} {lo hi : Nat → Nat} {H : Nat} {G : Nat → Int32} (d e : Nat) (c : Nat × Nat) (M s1 : qb_M) (hp : qP_pl s1 67 nw nm lo hi) (hV : s1.1 67 8 = nI V) (hD : qD nw nm V lo hi H (qs_so s1 145) G) {i : Nat} (hi0 : i < 40) (hK : kR M i nm) : lv_C nw nm V lo hi G d e c M s1 i := by
  obtain ⟨⟨a1, a2, a3, a4, a5, a6, a7⟩, ab, hR, X, J, Lf, Sh, hI⟩ := id hD
  rcases hK with ⟨e4, e0, x, y, n, h, ⟨x7, y7, n1, n2, h1⟩, ⟨f1, f2, f3, f4⟩, g1, g2, g3, g4⟩ | ⟨e4, e0, x, x7, f1, g1⟩ | ⟨v, x, hv, e4, e0, x7, f1, g1⟩ | ⟨e4, e0, x, x1, x6, f1, g1⟩
  · by_cases hw : x < nw ∧ y < nw
    · have hwI : (0 ≤ nI x ∧ nI x < nI nw) ∧ 0 ≤ nI y ∧ nI y < nI nw := ⟨⟨(nI_leI (a := 0) (by decide) (by omega)).mpr (by omega), (nI_ltI (by omega) (by omega)).mpr hw.1⟩, (nI_leI (a := 0) (by decide) (by omega)).mpr (by omega), (nI_ltI (by omega) (by omega)).mpr hw.2⟩
      refine lv_pack (H := H) d e c M s1 a1 a5 a6 hi0 (v := 0) (by decide) e4 e0 (g1.trans f1.symm) (fun _ => by rw [f1, g2]; exact hwI) (fun z => absurd z (by decide)) ?_
      rw [f1, f2, f3, f4, g2, g3, g4]
      have hb1 : nI h = 1 ↔ decide (h = 1) = true := by
        rw [decide_eq_true_iff]
        exact nI_eq (b := 1) (by omega) (by decide)
      have hb0 : nI h = 0 ↔ decide (h = 1) = false := by
        rw [decide_eq_false_iff_not]
        exact (nI_eq (b := 0) (by omega) (by decide)).trans (by omega)
      obtain ⟨r, t, G', q1, q2, q3, q4, q5, q6, q7⟩ := dr_put d (e + 1) e s1 c hp hV hD x y n hw.1 hw.2 n1 n2 (nI h) (decide (h = 1)) hb0
      refine ⟨r, t, G', fun hr => by rw [show (10 : Int32) * nI 0 = 0 from rfl, Int32.zero_add]; exact hr, sp_perf0 d s1 c _ _ _ _ hb1 rfl q1, q2, q3, q5, q4, q6, fun h0 m hm => ?_⟩
      obtain ⟨m2, c1, c2, c3⟩ := q7 h0 m hm
      refine ⟨m2, ?_, c2, c3⟩
      refine (en_222 (e + 6) 192 (nI 0) (nI x) (nI y) (nI n) (nI h) _).trans ?_
      refine go_ild_6_1 rfl ?_
      refine go_sw2 (n := 28) rfl (by decide +kernel) ?_
      refine go_ald_6_0 rfl ?_
      refine go_ild_6_2 rfl ?_
      refine go_ild_6_3 rfl ?_
      refine go_ild_6_4 rfl ?_
      refine go_ild_6_5 rfl ?_
      refine go_call5 rfl (c1) (Nat.le_of_ble_eq_true rfl) (qb_qv rfl (by decide) (by decide)) ?_
      exact fin_v rfl rfl
    · have hwI : ¬ ((0 ≤ nI x ∧ nI x < nI nw) ∧ 0 ≤ nI y ∧ nI y < nI nw) := fun z => hw ⟨(nI_ltI (by omega) (by omega)).mp z.1.2, (nI_ltI (by omega) (by omega)).mp z.2.2⟩
      refine ⟨9, s1, G, H, fun _ => by rw [e4]; decide, ?_, qF.rf, hD, fun _ _ => rfl, fun m hm h9 => ⟨m, ?_, hm, qG.rf⟩⟩
      · rw [e4, f1, f2, f3, f4]
        refine sp_perf0 d s1 c _ _ _ _ (b := decide (nI h = 1)) (by rw [decide_eq_true_iff]) rfl ?_
        exact lv_no60 (d + 3) c s1 hp.1 _ _ hwI
      · rw [if_neg (by decide), e4]
        exact lv_no0 e c m hi0 ((h9 _).trans e0) ((h9 _).trans g1) ((h9 _).trans g2) (by rw [hm]; exact a1) a5 a6 hwI
  · by_cases hw : x < nw
    · have hwI : 0 ≤ nI x ∧ nI x < nI nw := ⟨(nI_leI (a := 0) (by decide) (by omega)).mpr (by omega), (nI_ltI (by omega) (by omega)).mpr hw⟩
      refine lv_pack (H := H) d e c M s1 a1 a5 a6 hi0 (v := 1) (by decide) e4 e0 (g1.trans f1.symm) (fun z => absurd z (by decide)) (fun _ => by rw [f1]; exact hwI) ?_
      rw [f1]
      obtain ⟨r, t, G', q0, q1, q2, q3, q4, q5, q6, q7⟩ := dr_end d e s1 c hp hD x hw (M.1 136 i) (M.1 137 i) (M.1 138 i)
      exact ⟨r, t, G', fun hr => by rcases q0 with q0 | q0 | q0 <;> subst q0 <;> first | exact absurd rfl hr | decide, q1, q2, q3, q4, q5, fun m hm => q6 m hm _ _, fun h0 m hm => q7 h0 m hm _ _ _⟩
    · have hwI : ¬ (0 ≤ nI x ∧ nI x < nI nw) := fun z => hw ((nI_ltI (by omega) (by omega)).mp z.2)
      refine ⟨9, s1, G, H, fun _ => by rw [e4]; decide, ?_, qF.rf, hD, fun _ _ => rfl, fun m hm h9 => ⟨m, ?_, hm, qG.rf⟩⟩
      · rw [e4, f1]
        exact sp_perf1 d s1 c _ _ _ _ (lv_no72 (d + 3) c s1 hp.1 hwI)
      · rw [if_neg (by decide), e4]
        exact lv_no1 e c m hi0 ((h9 _).trans e0) ((h9 _).trans g1) (by rw [hm]; exact a1) a5 a6 hwI
  · refine lv_pack (H := H) d e c M s1 a1 a5 a6 hi0 (v := v) (by omega) e4 e0 (g1.trans f1.symm) (fun z => by omega) (fun z => by omega) ?_
    rw [f1]
    rcases hv with hv | hv | hv <;> subst hv
    · obtain ⟨r, t, G', q0, q1, q2, q3, q4, q5, q6, q7⟩ := dr_turn d e s1 c hp hD x x7 (M.1 136 i) (M.1 137 i) (M.1 138 i)
      exact ⟨r, t, G', fun hr => by rcases q0 with q0 | q0 | q0 <;> subst q0 <;> first | exact absurd rfl hr | decide, q1, q2, q3, q4, q5, fun m hm => q6 m hm _ _, fun h0 m hm => q7 h0 m hm _ _ _⟩
    · obtain ⟨r, t, G', q0, q1, q2, q3, q4, q5, q6, q7⟩ := dr_jam d e s1 c hp hD x x7 (M.1 136 i) (M.1 137 i) (M.1 138 i)
      exact ⟨r, t, G', fun hr => by rcases q0 with q0 | q0 | q0 <;> subst q0 <;> first | exact absurd rfl hr | decide, q1, q2, q3, q4, q5, fun m hm => q6 m hm _ _, fun h0 m hm => q7 h0 m hm _ _ _⟩
    · obtain ⟨r, t, G', q0, q1, q2, q3, q4, q5, q6, q7⟩ := dr_free d e s1 c hp hD x x7 (M.1 136 i) (M.1 137 i) (M.1 138 i)
      exact ⟨r, t, G', fun hr => by rcases q0 with q0 | q0 | q0 <;> subst q0 <;> first | exact absurd rfl hr | decide, q1, q2, q3, q4, q5, fun m hm => q6 m hm _ _, fun h0 m hm => q7 h0 m hm _ _ _⟩
  · obtain ⟨hc, hG, hH4⟩ := hD.H
    by_cases h400 : H + x ≤ 400
    · obtain ⟨t, b1, b2, b3⟩ := sp_passS (d + 1) s1 c qS_145 (H := H) (m := x) hc hH4 x6 h400
      obtain ⟨r1, Lf', r2⟩ := qt_hours (nm := nm) (lo := lo) (hi := hi) a6 hR hI x h400
      refine ⟨0, t, qD_r G (qt_ms (fun k => G (30 + k)) nw x), H + x, fun z => absurd rfl z, ?_, b3.mo (fun x hx => by omega), hD.r (by rw [b2]; exact r1) ⟨X, J, Lf', Sh, r2⟩, fun k hk => qD_r_o hk, fun m hm h9 => ?_⟩
      · rw [e4, f1]
        exact sp_perf5 d s1 c _ _ _ _ b1
      · obtain ⟨t2, c1, c2, c3⟩ := (lv_hour e c m hi0 (hD.pl hm) (x := x) (H := H) x6 ((h9 _).trans e0) ((h9 _).trans g1) (by rw [hm]; exact hG) hH4).2 h400
        rw [if_pos rfl]
        exact ⟨t2, c1, qD_r_of hm (by rw [c2, qm_soG hm]) c3, c3.f⟩
    · refine ⟨1, s1, G, H, fun _ => by rw [e4]; decide, ?_, qF.rf, hD, fun _ _ => rfl, fun m hm h9 => ⟨m, ?_, hm, qG.rf⟩⟩
      · rw [e4, f1]
        exact sp_perf5 d s1 c _ _ _ _ (sp_passF (d + 1) s1 c qS_145 (H := H) (m := x) hc hH4 x6 h400)
      · rw [if_neg (by decide), e4]
        exact (lv_hour e c m hi0 (hD.pl hm) (x := x) (H := H) x6 ((h9 _).trans e0) ((h9 _).trans g1) (by rw [hm]; exact hG) hH4).1 h400
theorem qF_G {P : Nat → Prop} {s t : qb_M} (h : qF P s t) : qG (fun x _ => P x) s t := fun x k hx => ⟨h.i hx, h.l hx, h.p hx⟩
def lv_f (x k : Nat) : Prop := 125 ≤ x ∧ x ≤ 128 ∨ 145 ≤ x ∧ x < 150 ∨ x = 133 ∧ k = 6
theorem lv_loop {nw nm V : Nat} {lo hi : Nat → Nat} (d e : Nat) (c : Nat × Nat) (M : qb_M) {L : Nat} (hL : L ≤ 40) (hK : ∀ i, i < L → kR M i nm) (a1 : Int32) : ∀ (n j : Nat), j + n = L → ∀ (s1 : qb_M) (H : Nat) (G : Nat → Int32), s1.1 133 5 = nI L → s1.1 133 6 = nI j → (∀ x k, 134 ≤ x ∧ x ≤ 138 → s1.1 x k = M.1 x k) → qP_pl s1 67 nw nm lo hi → s1.1 67 8 = nI V → qD nw nm V lo hi H (qs_so s1 145) G → ∃ (R : Int32) (J : Nat) (t : qb_M) (G' : Nat → Int32) (H' : Nat), (∀ l3 l4 : Value, qa_lm (qe (d + 5)) (qa_cd qc_137) (5, [.ref 125, .ref 145, .ref 133, l3, l4], [], (qb_hp (s1), 149, c)) = some (some (.int (R)), (qb_hp (t), 149, c))) ∧ J ≤ L ∧ t.1 133 6 = nI J ∧ qG lv_f s1 t ∧ qD nw nm V lo hi H' (qs_so t 145) G' ∧ (∀ k, k < 30 ∨ 70 ≤ k → G' k = G k) ∧ ∀ m : qb_M, m.1 194 = G → (∀ k, m.1 209 k = M.1 209 k) → m.1 192 38 = nI L → ∃ m', qa_lm (qe (e + 8)) (qa_cd qc_269) (73, [.ref 192, .int a1, .int (nI j), .int 0], [], (qb_hp (m), 149, c)) = qa_lm (qe (e + 8)) (qa_cd qc_269) (103, [.ref 192, .int a1, .int (nI J), .int R], [], (qb_hp (m'), 149, c)) ∧ m'.1 194 = G' ∧ qM_f m m' := by
  intro n
  induction n with
  | zero =>
    intro j hj s1 H G h5 h6 hM hp hV hD
    have hj : j = L := by omega
    subst hj
    refine ⟨0, j, s1, G, H, fun l3 l4 => ?_, Nat.le_refl _, h6, qG.rf, hD, fun _ _ => rfl, fun m hm h9 h38 => ⟨m, ?_, hm, qG.rf⟩⟩
    · refine go_ald_5_2 rfl ?_
      refine go_geti rfl ⟨_, rfl, rfl, by decide, by decide⟩ ?_
      rw [h6]
      refine go_ald_5_2 rfl ?_
      refine go_geti rfl ⟨_, rfl, rfl, by decide, by decide⟩ ?_
      rw [h5]
      refine go_icge rfl (fun e1 => ?_) (fun e1 => ?_)
      · refine go_c rfl ?_
        exact fin_i rfl rfl rfl
      · exact absurd (Int32.le_refl _) e1
    · refine go_ild_4_2 rfl ?_
      refine go_ald_4_0 rfl ?_
      refine go_geti rfl ⟨_, rfl, rfl, by decide, by decide⟩ ?_
      rw [h38]
      refine go_icge rfl (fun e1 => ?_) (fun e1 => ?_)
      · rfl
      · exact absurd (Int32.le_refl _) e1
  | succ n ih =>
    intro j hj s1 H G h5 h6 hM hp hV hD
    obtain ⟨r, t, G1, H1, b0, b1, b2, b3, b4, b5⟩ := lv_line d e c M s1 hp hV hD (i := j) (by omega) (hK j (by omega))
    have pre : ∀ l3 l4 R, qa_lm (qe (d + 5)) (qa_cd qc_137) (58, [.ref 125, .ref 145, .ref 133, .int (nI j), .int r], [], (qb_hp (t), 149, c)) = R → qa_lm (qe (d + 5)) (qa_cd qc_137) (5, [.ref 125, .ref 145, .ref 133, l3, l4], [], (qb_hp (s1), 149, c)) = R := fun l3 l4 R hR => by
      refine go_ald_5_2 rfl ?_
      refine go_geti rfl ⟨_, rfl, rfl, by decide, by decide⟩ ?_
      rw [h6]
      refine go_ald_5_2 rfl ?_
      refine go_geti rfl ⟨_, rfl, rfl, by decide, by decide⟩ ?_
      rw [h5]
      refine go_icge rfl (fun e1 => ?_) (fun e1 => ?_)
      · exact absurd e1 (nI_ge (by omega) (by omega))
      · refine go_ald_5_2 rfl ?_
        refine go_geti rfl ⟨_, rfl, rfl, by decide, by decide⟩ ?_
        rw [h6]
        refine go_ist_5_3 rfl rfl ?_
        refine go_ald_5_0 rfl ?_
        refine go_ald_5_1 rfl ?_
        refine go_ald_5_2 rfl ?_
        refine go_getr rfl ⟨_, rfl, rfl, by decide, by decide⟩ ?_
        refine go_ild_5_3 rfl ?_
        refine go_iald (j := j) rfl (⟨rfl, by decide, by decide, by decide⟩) (rfl) (by omega) ?_
        rw [hM 134 j (by omega)]
        refine go_ald_5_2 rfl ?_
        refine go_getr rfl ⟨_, rfl, rfl, by decide, by decide⟩ ?_
        refine go_ild_5_3 rfl ?_
        refine go_iald (j := j) rfl (⟨rfl, by decide, by decide, by decide⟩) (rfl) (by omega) ?_
        rw [hM 135 j (by omega)]
        refine go_ald_5_2 rfl ?_
        refine go_getr rfl ⟨_, rfl, rfl, by decide, by decide⟩ ?_
        refine go_ild_5_3 rfl ?_
        refine go_iald (j := j) rfl (⟨rfl, by decide, by decide, by decide⟩) (rfl) (by omega) ?_
        rw [hM 136 j (by omega)]
        refine go_ald_5_2 rfl ?_
        refine go_getr rfl ⟨_, rfl, rfl, by decide, by decide⟩ ?_
        refine go_ild_5_3 rfl ?_
        refine go_iald (j := j) rfl (⟨rfl, by decide, by decide, by decide⟩) (rfl) (by omega) ?_
        rw [hM 137 j (by omega)]
        refine go_ald_5_2 rfl ?_
        refine go_getr rfl ⟨_, rfl, rfl, by decide, by decide⟩ ?_
        refine go_ild_5_3 rfl ?_
        refine go_iald (j := j) rfl (⟨rfl, by decide, by decide, by decide⟩) (rfl) (by omega) ?_
        rw [hM 138 j (by omega)]
        refine go_call7 rfl (b1) (Nat.le_of_ble_eq_true rfl) (qb_qv rfl (by decide) (by decide)) ?_
        refine go_ist_5_4 rfl rfl ?_
        exact hR
    have preM : ∀ m m1 : qb_M, m.1 192 38 = nI L → qe (e + 8) 275 [.ref 192, .int (nI (5 * j))] (qb_hp (m), 149, c) = some (some (.int (if r = 0 then 0 else 10 * M.1 134 j + r)), (qb_hp (m1), 149, c)) → ∀ R, qa_lm (qe (e + 8)) (qa_cd qc_269) (93, [.ref 192, .int a1, .int (nI j), .int (if r = 0 then 0 else 10 * M.1 134 j + r)], [], (qb_hp (m1), 149, c)) = R → qa_lm (qe (e + 8)) (qa_cd qc_269) (73, [.ref 192, .int a1, .int (nI j), .int 0], [], (qb_hp (m), 149, c)) = R := fun m m1 h38 hg R hR => by
      refine go_ild_4_2 rfl ?_
      refine go_ald_4_0 rfl ?_
      refine go_geti rfl ⟨_, rfl, rfl, by decide, by decide⟩ ?_
      rw [h38]
      refine go_icge rfl (fun e1 => ?_) (fun e1 => ?_)
      · exact absurd e1 (nI_ge (by omega) (by omega))
      · refine go_ild_4_3 rfl ?_
        refine go_ifne rfl (fun e2 => ?_) (fun e2 => ?_)
        · refine go_ald_4_0 rfl ?_
          refine go_c rfl ?_
          refine go_ild_4_2 rfl ?_
          refine go_imul rfl ?_
          rw [show (5 : Int32) = nI 5 from rfl, pk_mul]
          refine go_call2 rfl (hg) (Nat.le_of_ble_eq_true rfl) (qb_qv rfl (by decide) (by decide)) ?_
          refine go_ist_4_3 rfl rfl ?_
          exact hR
        · exact absurd rfl e2
    have gt : qG lv_f s1 t := (qF_G b2).mo (fun x k h => by unfold lv_f; omega)
    by_cases h0 : r = 0
    · subst h0
      simp only [if_pos] at b5 preM
      have gu : qG lv_f s1 (qb_ui t 133 6 (nI (j + 1))) := gt.ui (by unfold lv_f; omega)
      obtain ⟨R, J, u, G2, H2, o1, o2, o3, o4, o5, o6, o7⟩ := ih (j + 1) (by omega) (qb_ui t 133 6 (nI (j + 1))) H1 G1 ((gu.i (by unfold lv_f; omega)).trans h5) qb_ui_1s (fun x k hx => (gu.i (by unfold lv_f; omega)).trans (hM x k hx)) ((b2.pl hp).mv (P := fun x => x = 133) (qF.rf.ui rfl) (by omega) (by omega) (by omega)) ((gu.i (by unfold lv_f; omega)).trans hV) (by rw [qs_so_F (show qF (fun x => x = 133) t (qb_ui t 133 6 (nI (j + 1))) from qF.rf.ui rfl) (fun k hk => by omega)]; exact b3)
      refine ⟨R, J, u, G2, H2, fun l3 l4 => pre l3 l4 _ ?_, o2, o3, gu.tr o4, o5, fun k hk => (o6 k hk).trans (b4 k hk), fun m hm h9 h38 => ?_⟩
      · refine go_ild_5_4 rfl ?_
        refine go_ifeq rfl (fun e1 => ?_) (fun e1 => ?_)
        · refine go_ald_5_2 rfl ?_
          refine go_dup_ref rfl ?_
          refine go_geti rfl ⟨_, rfl, rfl, by decide, by decide⟩ ?_
          refine go_c rfl ?_
          rw [show t.1 133 6 = nI j from (b2.i (by omega)).trans h6]
          refine go_iadd rfl ?_
          rw [nI_1]
          refine go_puti rfl ⟨_, rfl, rfl, by decide, by decide⟩ rfl rfl ?_
          refine go_goto rfl ?_
          exact o1 _ _
        · exact absurd rfl e1
      · obtain ⟨m1, c1, c2, c3⟩ := b5 m hm h9
        obtain ⟨m2, d1, d2, d3⟩ := o7 m1 c2 (fun k => (c3.i (by omega)).trans (h9 k)) ((c3.i (by omega)).trans h38)
        refine ⟨m2, preM m m1 h38 c1 _ ?_, d2, c3.tr d3⟩
        refine go_ild_4_3 rfl ?_
        refine go_ifne rfl (fun e1 => ?_) (fun e1 => ?_)
        · refine go_inc_4_2 rfl rfl ?_
          refine go_goto rfl ?_
          rw [nI_1]
          exact d1
        · exact absurd rfl e1
    · simp only [if_neg h0] at b5 preM
      refine ⟨10 * M.1 134 j + r, j, t, G1, H1, fun l3 l4 => pre l3 l4 _ ?_, by omega, (b2.i (by omega)).trans h6, gt, b3, b4, fun m hm h9 h38 => ?_⟩
      · refine go_ild_5_4 rfl ?_
        refine go_ifeq rfl (fun e1 => ?_) (fun e1 => ?_)
        · exact absurd e1 h0
        · refine go_c rfl ?_
          refine go_ald_5_2 rfl ?_
          refine go_getr rfl ⟨_, rfl, rfl, by decide, by decide⟩ ?_
          refine go_ild_5_3 rfl ?_
          refine go_iald (j := j) rfl (⟨rfl, by decide, by decide, by decide⟩) (rfl) (by omega) ?_
          rw [show t.1 134 j = M.1 134 j from (b2.i (by omega)).trans (hM 134 j (by omega))]
          refine go_imul rfl ?_
          refine go_ild_5_4 rfl ?_
          refine go_iadd rfl ?_
          exact fin_i rfl rfl rfl
      · obtain ⟨m1, c1, c2, c3⟩ := b5 m hm h9
        refine ⟨m1, preM m m1 h38 c1 _ ?_, c2, c3⟩
        have hz := b0 h0
        refine go_ild_4_3 rfl ?_
        refine go_ifne rfl (fun e1 => ?_) (fun e1 => ?_)
        · exact absurd e1 hz
        · refine go_ild_4_2 rfl ?_
          refine go_ald_4_0 rfl ?_
          refine go_geti rfl ⟨_, rfl, rfl, by decide, by decide⟩ ?_
          rw [show m1.1 192 38 = nI L from (c3.i (by omega)).trans h38]
          refine go_icge rfl (fun e2 => ?_) (fun e2 => ?_)
          · exact absurd e2 (nI_ge (by omega) (by omega))
          · refine go_ild_4_3 rfl ?_
            refine go_ifne rfl (fun e3 => ?_) (fun e3 => ?_)
            · exact absurd e3 hz
            · rfl

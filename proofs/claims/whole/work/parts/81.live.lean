/-! what a line of a book comes to, in both, for every memory with that row -/
theorem qD_rr {m : qb_M} {G : Nat → Int32} (hm : m.1 194 = G) {m2 : qb_M} {g : Nat → Int32} (h : qm_so m2 = g) (hf : qM_fr m m2) : m2.1 194 = qD_r G g := qD_r_of hm h hf
theorem dr_end {nw nm V : Nat} {lo hi : Nat → Nat} {H : Nat} {G : Nat → Int32} (d e : Nat) (s1 : qb_M) (c : Nat × Nat) (hp : qP_pl s1 67 nw nm lo hi) (hD : qD nw nm V lo hi H (qs_so s1 145) G) (i : Nat) (hi0 : i < nw) (y n h : Int32) : ∃ r t G', (r = 0 ∨ r = 1 ∨ r = 2) ∧ qe (d + 5) 59 [.ref 125, .ref 145, .int 1, .int (nI i), .int y, .int n, .int h] (qb_hp (s1), 149, c) = some (some (.int (r)), (qb_hp (t), 149, c)) ∧ qC_fr 145 s1 t ∧ qD nw nm V lo hi H (qs_so t 145) G' ∧ (∀ k, k < 30 ∨ 70 ≤ k → G' k = G k) ∧ (r ≠ 0 → G' = G) ∧ (∀ m : qb_M, m.1 194 = G → ∀ Y Z : Int32, ∃ m1, qe (e + 7) 215 [.ref 192, .int 1, .int (nI i), .int Y, .int Z] (qb_hp (m), 149, c) = some (some (.int (r)), (qb_hp (m1), 149, c)) ∧ m1.1 194 = G ∧ qM_fr m m1) ∧ (r = 0 → ∀ m : qb_M, m.1 194 = G → ∀ Y N Z : Int32, ∃ m2, qe (e + 7) 222 [.ref 192, .int 1, .int (nI i), .int Y, .int N, .int Z] (qb_hp (m), 149, c) = some (none, (qb_hp (m2), 149, c)) ∧ m2.1 194 = G' ∧ qM_fr m m2) := by
  obtain ⟨⟨a1, a2, a3, a4, a5, a6, a7⟩, ab, hR, X, J, Lf, Sh, hI⟩ := id hD
  have hS := qS_145
  have hr := sp_ring (d + 2) s1 c hS hp.1 (by omega) i hi0
  have hon := hR.on (w := i) (by omega)
  by_cases ho : qs_on (fun k => G (30 + k)) i = true
  · rw [if_pos (hon.trans ho)] at hr
    refine ⟨0, _, qD_r G (qt_me (fun k => G (30 + k)) i), Or.inl rfl, sp_perf1 d s1 c _ _ _ _ hr, qC_fr.st (by decide) (qF.rf.ui (by decide)), hD.r ?_ ⟨X, J, Lf, Sh, hI.end (by omega)⟩, fun k hk => qD_r_o hk, fun z => absurd rfl z, fun m hm Y Z => ⟨m, ?_, hm, qM_fr.rf⟩, fun _ m hm Y N Z => ?_⟩
    · rw [qs_so_uo (by omega)]
      exact hR.end (by omega)
    · rw [← qm_soG hm] at ho
      refine (en_215 (e + 6) 192 1 (nI i) Y Z _).trans ?_
      refine go_ild_5_1 rfl ?_
      refine go_sw2 (n := 63) rfl (by decide +kernel) ?_
      refine go_ald_5_0 rfl ?_
      refine go_ild_5_2 rfl ?_
      refine go_call2 rfl (sp_isOn' (e + 5) m c i (by omega)) (Nat.le_of_ble_eq_true rfl) (qb_qv rfl (by decide) (by decide)) ?_
      rw [qB_t ho]
      refine go_ifeq rfl (fun e => ?_) (fun e => ?_)
      · exact absurd e (by decide)
      · refine go_c rfl ?_
        refine go_goto rfl ?_
        exact fin_i rfl rfl rfl
    · obtain ⟨m2, b1, b2, b3⟩ := sp_doEnd (e + 5) m c i (by omega)
      refine ⟨m2, ?_, qD_r_of hm (by rw [b2, qm_soG hm]) b3, b3⟩
      refine (en_222 (e + 6) 192 1 (nI i) Y N Z _).trans ?_
      refine go_ild_6_1 rfl ?_
      refine go_sw2 (n := 39) rfl (by decide +kernel) ?_
      refine go_ald_6_0 rfl ?_
      refine go_ild_6_2 rfl ?_
      refine go_call2 rfl (b1) (Nat.le_of_ble_eq_true rfl) (qb_qv rfl (by decide) (by decide)) ?_
      exact fin_v rfl rfl
  · rw [if_neg (by rw [hon]; exact ho)] at hr
    refine ⟨1, _, G, Or.inr (Or.inl rfl), sp_perf1 d s1 c _ _ _ _ hr, qC_fr.rf, hD, fun _ _ => rfl, fun _ => rfl, fun m hm Y Z => ⟨m, ?_, hm, qM_fr.rf⟩, fun z => absurd z (by decide)⟩
    rw [← qm_soG hm] at ho
    refine (en_215 (e + 6) 192 1 (nI i) Y Z _).trans ?_
    refine go_ild_5_1 rfl ?_
    refine go_sw2 (n := 63) rfl (by decide +kernel) ?_
    refine go_ald_5_0 rfl ?_
    refine go_ild_5_2 rfl ?_
    refine go_call2 rfl (sp_isOn' (e + 5) m c i (by omega)) (Nat.le_of_ble_eq_true rfl) (qb_qv rfl (by decide) (by decide)) ?_
    rw [qB_f ho]
    refine go_ifeq rfl (fun e => ?_) (fun e => ?_)
    · refine go_c rfl ?_
      exact fin_i rfl rfl rfl
    · exact absurd rfl e
theorem dr_turn {nw nm V : Nat} {lo hi : Nat → Nat} {H : Nat} {G : Nat → Int32} (d e : Nat) (s1 : qb_M) (c : Nat × Nat) (hp : qP_pl s1 67 nw nm lo hi) (hD : qD nw nm V lo hi H (qs_so s1 145) G) (k : Nat) (hk : k < nm) (y n h : Int32) : ∃ r t G', (r = 0 ∨ r = 1 ∨ r = 2) ∧ qe (d + 5) 59 [.ref 125, .ref 145, .int (nI 2), .int (nI k), .int y, .int n, .int h] (qb_hp (s1), 149, c) = some (some (.int (r)), (qb_hp (t), 149, c)) ∧ qC_fr 145 s1 t ∧ qD nw nm V lo hi H (qs_so t 145) G' ∧ (∀ k, k < 30 ∨ 70 ≤ k → G' k = G k) ∧ (r ≠ 0 → G' = G) ∧ (∀ m : qb_M, m.1 194 = G → ∀ Y Z : Int32, ∃ m1, qe (e + 7) 215 [.ref 192, .int (nI 2), .int (nI k), .int Y, .int Z] (qb_hp (m), 149, c) = some (some (.int (r)), (qb_hp (m1), 149, c)) ∧ m1.1 194 = G ∧ qM_fr m m1) ∧ (r = 0 → ∀ m : qb_M, m.1 194 = G → ∀ Y N Z : Int32, ∃ m2, qe (e + 7) 222 [.ref 192, .int (nI 2), .int (nI k), .int Y, .int N, .int Z] (qb_hp (m), 149, c) = some (none, (qb_hp (m2), 149, c)) ∧ m2.1 194 = G' ∧ qM_fr m m2) := by
  obtain ⟨⟨a1, a2, a3, a4, a5, a6, a7⟩, ab, hR, X, J, Lf, Sh, hI⟩ := id hD
  have hS := qS_145
  have hok := hp.ok
  have h10 : 2 ^ nm ≤ 2 ^ 10 := Nat.pow_le_pow_right (by decide) (by omega)
  obtain ⟨-, ⟨hX, hX2⟩, ⟨hJ, hJ2⟩, hW⟩ := id hI
  have hXc : s1.1 145 5 = nI X := (hR.1 1 (by omega) (by omega)).trans hX
  have hJc : s1.1 145 6 = nI J := (hR.1 2 (by omega) (by omega)).trans hJ
  have hJm : ∀ m : qb_M, m.1 194 = G → m.1 194 32 = nI J := fun m hm => by rw [hm]; exact hJ
  have hcb : ∀ m : qb_M, m.1 194 = G → _ := fun m hm => sp_callsBy (e + 1) m c (hD.pl hm) X (by rw [hm]; exact hX) (by omega) k hk
  have hacl : qm_ac (fun w => qs_on (fun k => G (30 + k)) w && qm_th lo hi X w k) nw < 256 := Nat.lt_of_lt_of_le (qm_ac_lt _ nw) (Nat.pow_le_pow_right (n := 2) (by decide) a6)
  have hex : (∃ w, w < nw ∧ qs_on (qs_so s1 145) w = true ∧ qm_th lo hi X w k = true) ↔ qm_ac (fun w => qs_on (fun k => G (30 + k)) w && qm_th lo hi X w k) nw ≠ 0 := by
    rw [ne_eq, qm_ac_0]
    constructor
    · rintro ⟨w, a1, a2, a3⟩ h
      rw [hR.on (by omega)] at a2
      exact h w a1 (by rw [a2, a3]; rfl)
    · intro h
      exact Classical.byContradiction fun z => h (fun w hw1 hb => z ⟨w, hw1, by
        rw [Bool.and_eq_true] at hb
        rw [hR.on (by omega)]
        exact hb⟩)
  rcases sp_turnOver d s1 c hS hp hXc (by omega) hJc (by omega) k hk with ⟨a1, a2⟩ | ⟨a1, a2, a3⟩ | ⟨a1, a2, t, a3, a4, a5⟩
  · refine ⟨1, _, G, Or.inr (Or.inl rfl), sp_perf2 d s1 c _ _ _ _ a2, qC_fr.rf, hD, fun _ _ => rfl, fun _ => rfl, fun m hm Y Z => ⟨m, ?_, hm, qM_fr.rf⟩, fun z => absurd z (by decide)⟩
    refine (en_215 (e + 6) 192 (nI 2) (nI k) Y Z _).trans ?_
    refine go_ild_5_1 rfl ?_
    refine go_sw2 (n := 77) rfl (by decide +kernel) ?_
    refine go_ald_5_0 rfl ?_
    refine go_getr rfl ⟨_, rfl, rfl, by decide, by decide⟩ ?_
    refine go_c rfl ?_
    refine go_iald (j := 32) rfl ⟨rfl, by decide, by decide, by decide⟩ rfl (by decide) ?_
    rw [hJm m hm]
    refine go_ild_5_2 rfl ?_
    refine go_call2 rfl (sp_has (e + 5) J k (by omega) (by omega) _) (Nat.le_of_ble_eq_true rfl) rfl ?_
    rw [qB_t a1]
    refine go_ifeq rfl (fun e => ?_) (fun e => ?_)
    · exact absurd e (by decide)
    · refine go_c rfl ?_
      refine go_goto rfl ?_
      exact fin_i rfl rfl rfl
  · refine ⟨2, _, G, Or.inr (Or.inr rfl), sp_perf2 d s1 c _ _ _ _ a3, qC_fr.rf, hD, fun _ _ => rfl, fun _ => rfl, fun m hm Y Z => ⟨m, ?_, hm, qM_fr.rf⟩, fun z => absurd z (by decide)⟩
    have hcb := hcb m hm
    rw [qm_soG hm] at hcb
    refine (en_215 (e + 6) 192 (nI 2) (nI k) Y Z _).trans ?_
    refine go_ild_5_1 rfl ?_
    refine go_sw2 (n := 77) rfl (by decide +kernel) ?_
    refine go_ald_5_0 rfl ?_
    refine go_getr rfl ⟨_, rfl, rfl, by decide, by decide⟩ ?_
    refine go_c rfl ?_
    refine go_iald (j := 32) rfl ⟨rfl, by decide, by decide, by decide⟩ rfl (by decide) ?_
    rw [hJm m hm]
    refine go_ild_5_2 rfl ?_
    refine go_call2 rfl (sp_has (e + 5) J k (by omega) (by omega) _) (Nat.le_of_ble_eq_true rfl) rfl ?_
    rw [qB_f a1]
    refine go_ifeq rfl (fun e => ?_) (fun e => ?_)
    · refine go_ald_5_0 rfl ?_
      refine go_ild_5_2 rfl ?_
      refine go_call2 rfl (hcb) (Nat.le_of_ble_eq_true rfl) (qb_qv rfl (by decide) (by decide)) ?_
      refine go_ifeq rfl (fun e2 => ?_) (fun e2 => ?_)
      · exact absurd ((nI_eq (b := 0) (by omega) (by decide)).mp e2) (hex.mp a2)
      · refine go_c rfl ?_
        refine go_goto rfl ?_
        exact fin_i rfl rfl rfl
    · exact absurd rfl e
  · refine ⟨0, _, qD_r G (qs_u (qt_tn (2 ^ k) (fun k => G (30 + k)) 10) 1 (nI (X ^^^ 2 ^ k))), Or.inl rfl, sp_perf2 d s1 c _ _ _ _ a3, qC_fr.st (by decide) a5, hD.r (by rw [a4]; exact hR.turn) ⟨_, J, Lf, Sh, hI.turn hok hk (fun ⟨w, z1, z2, z3⟩ => a2 ⟨w, z1, by rw [hR.on (by omega)]; exact z2, z3⟩)⟩, fun k hk => qD_r_o hk, fun z => absurd rfl z, fun m hm Y Z => ⟨m, ?_, hm, qM_fr.rf⟩, fun _ m hm Y N Z => ?_⟩
    · have hcb := hcb m hm
      rw [qm_soG hm] at hcb
      refine (en_215 (e + 6) 192 (nI 2) (nI k) Y Z _).trans ?_
      refine go_ild_5_1 rfl ?_
      refine go_sw2 (n := 77) rfl (by decide +kernel) ?_
      refine go_ald_5_0 rfl ?_
      refine go_getr rfl ⟨_, rfl, rfl, by decide, by decide⟩ ?_
      refine go_c rfl ?_
      refine go_iald (j := 32) rfl ⟨rfl, by decide, by decide, by decide⟩ rfl (by decide) ?_
      rw [hJm m hm]
      refine go_ild_5_2 rfl ?_
      refine go_call2 rfl (sp_has (e + 5) J k (by omega) (by omega) _) (Nat.le_of_ble_eq_true rfl) rfl ?_
      rw [qB_f a1]
      refine go_ifeq rfl (fun e => ?_) (fun e => ?_)
      · refine go_ald_5_0 rfl ?_
        refine go_ild_5_2 rfl ?_
        refine go_call2 rfl (hcb) (Nat.le_of_ble_eq_true rfl) (qb_qv rfl (by decide) (by decide)) ?_
        refine go_ifeq rfl (fun e2 => ?_) (fun e2 => ?_)
        · refine go_c rfl ?_
          exact fin_i rfl rfl rfl
        · exact absurd (by rw [Classical.not_not.mp (fun z => a2 (hex.mpr z))]; rfl) e2
      · exact absurd rfl e
    · obtain ⟨m2, b1, b2, b3⟩ := sp_turned (e + 5) m c k (by omega)
      refine ⟨m2, ?_, qD_r_of hm (by rw [b2, qm_soG hm]; exact qt_turn_eq (by omega) hX) b3, b3⟩
      refine (en_222 (e + 6) 192 (nI 2) (nI k) Y N Z _).trans ?_
      refine go_ild_6_1 rfl ?_
      refine go_sw2 (n := 45) rfl (by decide +kernel) ?_
      refine go_ald_6_0 rfl ?_
      refine go_ild_6_2 rfl ?_
      refine go_call2 rfl (b1) (Nat.le_of_ble_eq_true rfl) (qb_qv rfl (by decide) (by decide)) ?_
      exact fin_v rfl rfl
theorem lv_live34 (d : Nat) (m : qb_M) (c : Nat × Nat) (vb : Nat) (hv : vb = 3 ∨ vb = 4) {J k : Nat} (hJ : qm_so m 2 = nI J) (hk : k < 10) (Y N Z : Int32) : ∃ m2, qe (d + 1) 222 [.ref 192, .int (nI vb), .int (nI k), .int Y, .int N, .int Z] (qb_hp (m), 149, c) = some (none, (qb_hp (m2), 149, c)) ∧ qm_so m2 = qs_u (qm_so m) 2 (nI (J ^^^ 2 ^ k)) ∧ qM_fr m m2 := by
  refine ⟨qb_ui m 194 32 (nI (J ^^^ 2 ^ k)), ?_, qm_so_w (k := 2) (by omega), qM_fr.rf.w (by omega) (by omega)⟩
  refine (en_222 d 192 (nI vb) (nI k) Y N Z _).trans ?_
  refine go_ild_6_1 rfl ?_
  refine go_sw2 (n := 51) rfl (by rcases hv with e | e <;> subst e <;> decide +kernel) ?_
  refine go_ald_6_0 rfl ?_
  refine go_getr rfl ⟨_, rfl, rfl, by decide, by decide⟩ ?_
  refine go_c rfl ?_
  refine go_dup2 rfl ?_
  refine go_iald (j := 32) rfl (⟨rfl, by decide, by decide, by decide⟩) (rfl) (by omega) ?_
  rw [show m.1 194 32 = nI J from hJ]
  refine go_c rfl ?_
  refine go_ild_6_2 rfl ?_
  refine go_ishl rfl ?_
  refine go_ixor rfl ?_
  rw [qx_1shl k (by omega), fb_xorI]
  refine go_iast (j := 32) rfl (⟨rfl, by decide, by decide, by decide⟩) (rfl) (by omega) ?_
  exact fin_v rfl rfl
theorem dr_jam {nw nm V : Nat} {lo hi : Nat → Nat} {H : Nat} {G : Nat → Int32} (d e : Nat) (s1 : qb_M) (c : Nat × Nat) (hp : qP_pl s1 67 nw nm lo hi) (hD : qD nw nm V lo hi H (qs_so s1 145) G) (k : Nat) (hk : k < nm) (y n h : Int32) : ∃ r t G', (r = 0 ∨ r = 1 ∨ r = 2) ∧ qe (d + 5) 59 [.ref 125, .ref 145, .int (nI 3), .int (nI k), .int y, .int n, .int h] (qb_hp (s1), 149, c) = some (some (.int (r)), (qb_hp (t), 149, c)) ∧ qC_fr 145 s1 t ∧ qD nw nm V lo hi H (qs_so t 145) G' ∧ (∀ k, k < 30 ∨ 70 ≤ k → G' k = G k) ∧ (r ≠ 0 → G' = G) ∧ (∀ m : qb_M, m.1 194 = G → ∀ Y Z : Int32, ∃ m1, qe (e + 7) 215 [.ref 192, .int (nI 3), .int (nI k), .int Y, .int Z] (qb_hp (m), 149, c) = some (some (.int (r)), (qb_hp (m1), 149, c)) ∧ m1.1 194 = G ∧ qM_fr m m1) ∧ (r = 0 → ∀ m : qb_M, m.1 194 = G → ∀ Y N Z : Int32, ∃ m2, qe (e + 7) 222 [.ref 192, .int (nI 3), .int (nI k), .int Y, .int N, .int Z] (qb_hp (m), 149, c) = some (none, (qb_hp (m2), 149, c)) ∧ m2.1 194 = G' ∧ qM_fr m m2) := by
  obtain ⟨⟨a1, a2, a3, a4, a5, a6, a7⟩, ab, hR, X, J, Lf, Sh, hI⟩ := id hD
  have hS := qS_145
  have h10 : 2 ^ nm ≤ 2 ^ 10 := Nat.pow_le_pow_right (by decide) (by omega)
  obtain ⟨-, ⟨hX, hX2⟩, ⟨hJ, hJ2⟩, hW⟩ := id hI
  have hJc : s1.1 145 6 = nI J := (hR.1 2 (by omega) (by omega)).trans hJ
  have hJm : ∀ m : qb_M, m.1 194 = G → m.1 194 32 = nI J := fun m hm => by rw [hm]; exact hJ
  have hmj := sp_makeJammed (d + 3) s1 c hS hJc (by omega) k (by omega)
  by_cases hb : J.testBit k = true
  · rw [if_pos hb] at hmj
    refine ⟨1, _, G, Or.inr (Or.inl rfl), sp_perf3 d s1 c _ _ _ _ hmj, qC_fr.rf, hD, fun _ _ => rfl, fun _ => rfl, fun m hm Y Z => ⟨m, ?_, hm, qM_fr.rf⟩, fun z => absurd z (by decide)⟩
    refine (en_215 (e + 6) 192 (nI 3) (nI k) Y Z _).trans ?_
    refine go_ild_5_1 rfl ?_
    refine go_sw2 (n := 109) rfl (by decide +kernel) ?_
    refine go_ald_5_0 rfl ?_
    refine go_getr rfl ⟨_, rfl, rfl, by decide, by decide⟩ ?_
    refine go_c rfl ?_
    refine go_iald (j := 32) rfl ⟨rfl, by decide, by decide, by decide⟩ rfl (by decide) ?_
    rw [hJm m hm]
    refine go_ild_5_2 rfl ?_
    refine go_call2 rfl (sp_has (e + 5) J k (by omega) (by omega) _) (Nat.le_of_ble_eq_true rfl) rfl ?_
    rw [qB_t hb]
    refine go_ifeq rfl (fun e => ?_) (fun e => ?_)
    · exact absurd e (by decide)
    · refine go_c rfl ?_
      refine go_goto rfl ?_
      exact fin_i rfl rfl rfl
  · rw [if_neg hb, qm_xor_or hb] at hmj
    refine ⟨0, _, qD_r G (qs_u (fun k => G (30 + k)) 2 (nI (J ^^^ 2 ^ k))), Or.inl rfl, sp_perf3 d s1 c _ _ _ _ hmj, qC_fr.st (by decide) (qF.rf.ui (by decide)), hD.r (by rw [qs_so_u6]; exact hR.u (by omega)) ⟨X, _, Lf, Sh, hI.jam (Nat.xor_lt_two_pow hJ2 (Nat.pow_lt_pow_right (by decide) hk))⟩, fun k hk => qD_r_o hk, fun z => absurd rfl z, fun m hm Y Z => ⟨m, ?_, hm, qM_fr.rf⟩, fun _ m hm Y N Z => ?_⟩
    · refine (en_215 (e + 6) 192 (nI 3) (nI k) Y Z _).trans ?_
      refine go_ild_5_1 rfl ?_
      refine go_sw2 (n := 109) rfl (by decide +kernel) ?_
      refine go_ald_5_0 rfl ?_
      refine go_getr rfl ⟨_, rfl, rfl, by decide, by decide⟩ ?_
      refine go_c rfl ?_
      refine go_iald (j := 32) rfl ⟨rfl, by decide, by decide, by decide⟩ rfl (by decide) ?_
      rw [hJm m hm]
      refine go_ild_5_2 rfl ?_
      refine go_call2 rfl (sp_has (e + 5) J k (by omega) (by omega) _) (Nat.le_of_ble_eq_true rfl) rfl ?_
      rw [qB_f hb]
      refine go_ifeq rfl (fun e => ?_) (fun e => ?_)
      · refine go_c rfl ?_
        exact fin_i rfl rfl rfl
      · exact absurd rfl e
    · obtain ⟨m2, b1, b2, b3⟩ := lv_live34 (e + 6) m c 3 (Or.inl rfl) (J := J) (k := k) (by rw [qm_soG hm]; exact hJ) (by omega) Y N Z
      exact ⟨m2, b1, qD_r_of hm (by rw [b2, qm_soG hm]) b3, b3⟩
theorem dr_free {nw nm V : Nat} {lo hi : Nat → Nat} {H : Nat} {G : Nat → Int32} (d e : Nat) (s1 : qb_M) (c : Nat × Nat) (hp : qP_pl s1 67 nw nm lo hi) (hD : qD nw nm V lo hi H (qs_so s1 145) G) (k : Nat) (hk : k < nm) (y n h : Int32) : ∃ r t G', (r = 0 ∨ r = 1 ∨ r = 2) ∧ qe (d + 5) 59 [.ref 125, .ref 145, .int (nI 4), .int (nI k), .int y, .int n, .int h] (qb_hp (s1), 149, c) = some (some (.int (r)), (qb_hp (t), 149, c)) ∧ qC_fr 145 s1 t ∧ qD nw nm V lo hi H (qs_so t 145) G' ∧ (∀ k, k < 30 ∨ 70 ≤ k → G' k = G k) ∧ (r ≠ 0 → G' = G) ∧ (∀ m : qb_M, m.1 194 = G → ∀ Y Z : Int32, ∃ m1, qe (e + 7) 215 [.ref 192, .int (nI 4), .int (nI k), .int Y, .int Z] (qb_hp (m), 149, c) = some (some (.int (r)), (qb_hp (m1), 149, c)) ∧ m1.1 194 = G ∧ qM_fr m m1) ∧ (r = 0 → ∀ m : qb_M, m.1 194 = G → ∀ Y N Z : Int32, ∃ m2, qe (e + 7) 222 [.ref 192, .int (nI 4), .int (nI k), .int Y, .int N, .int Z] (qb_hp (m), 149, c) = some (none, (qb_hp (m2), 149, c)) ∧ m2.1 194 = G' ∧ qM_fr m m2) := by
  obtain ⟨⟨a1, a2, a3, a4, a5, a6, a7⟩, ab, hR, X, J, Lf, Sh, hI⟩ := id hD
  have hS := qS_145
  have h10 : 2 ^ nm ≤ 2 ^ 10 := Nat.pow_le_pow_right (by decide) (by omega)
  obtain ⟨-, ⟨hX, hX2⟩, ⟨hJ, hJ2⟩, hW⟩ := id hI
  have hJc : s1.1 145 6 = nI J := (hR.1 2 (by omega) (by omega)).trans hJ
  have hJm : ∀ m : qb_M, m.1 194 = G → m.1 194 32 = nI J := fun m hm => by rw [hm]; exact hJ
  have hmj := sp_makeFree (d + 3) s1 c hS hJc (by omega) k (by omega)
  by_cases hb : J.testBit k = true
  · rw [if_pos hb] at hmj
    refine ⟨0, _, qD_r G (qs_u (fun k => G (30 + k)) 2 (nI (J ^^^ 2 ^ k))), Or.inl rfl, sp_perf4 d s1 c _ _ _ _ hmj, qC_fr.st (by decide) (qF.rf.ui (by decide)), hD.r (by rw [qs_so_u6]; exact hR.u (by omega)) ⟨X, _, Lf, Sh, hI.jam (Nat.xor_lt_two_pow hJ2 (Nat.pow_lt_pow_right (by decide) hk))⟩, fun k hk => qD_r_o hk, fun z => absurd rfl z, fun m hm Y Z => ⟨m, ?_, hm, qM_fr.rf⟩, fun _ m hm Y N Z => ?_⟩
    · refine (en_215 (e + 6) 192 (nI 4) (nI k) Y Z _).trans ?_
      refine go_ild_5_1 rfl ?_
      refine go_sw2 (n := 129) rfl (by decide +kernel) ?_
      refine go_ald_5_0 rfl ?_
      refine go_getr rfl ⟨_, rfl, rfl, by decide, by decide⟩ ?_
      refine go_c rfl ?_
      refine go_iald (j := 32) rfl ⟨rfl, by decide, by decide, by decide⟩ rfl (by decide) ?_
      rw [hJm m hm]
      refine go_ild_5_2 rfl ?_
      refine go_call2 rfl (sp_has (e + 5) J k (by omega) (by omega) _) (Nat.le_of_ble_eq_true rfl) rfl ?_
      rw [qB_t hb]
      refine go_ifeq rfl (fun e => ?_) (fun e => ?_)
      · exact absurd e (by decide)
      · refine go_c rfl ?_
        refine go_goto rfl ?_
        exact fin_i rfl rfl rfl
    · obtain ⟨m2, b1, b2, b3⟩ := lv_live34 (e + 6) m c 4 (Or.inr rfl) (J := J) (k := k) (by rw [qm_soG hm]; exact hJ) (by omega) Y N Z
      exact ⟨m2, b1, qD_r_of hm (by rw [b2, qm_soG hm]) b3, b3⟩
  · rw [if_neg hb] at hmj
    refine ⟨1, _, G, Or.inr (Or.inl rfl), sp_perf4 d s1 c _ _ _ _ hmj, qC_fr.rf, hD, fun _ _ => rfl, fun _ => rfl, fun m hm Y Z => ⟨m, ?_, hm, qM_fr.rf⟩, fun z => absurd z (by decide)⟩
    refine (en_215 (e + 6) 192 (nI 4) (nI k) Y Z _).trans ?_
    refine go_ild_5_1 rfl ?_
    refine go_sw2 (n := 129) rfl (by decide +kernel) ?_
    refine go_ald_5_0 rfl ?_
    refine go_getr rfl ⟨_, rfl, rfl, by decide, by decide⟩ ?_
    refine go_c rfl ?_
    refine go_iald (j := 32) rfl ⟨rfl, by decide, by decide, by decide⟩ rfl (by decide) ?_
    rw [hJm m hm]
    refine go_ild_5_2 rfl ?_
    refine go_call2 rfl (sp_has (e + 5) J k (by omega) (by omega) _) (Nat.le_of_ble_eq_true rfl) rfl ?_
    rw [qB_f hb]
    refine go_ifeq rfl (fun e => ?_) (fun e => ?_)
    · refine go_c rfl ?_
      exact fin_i rfl rfl rfl
    · exact absurd rfl e

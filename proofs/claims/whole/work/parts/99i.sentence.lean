/-! sentence, in both -/
theorem wE_w {M : qb_M} {ns : Nat} : ∀ n i j, wE M ns n i j → ∀ p, i ≤ p → p < j → ∃ w, w < 23 ∧ M.2.2 151 p = some w
  | 0, _, _, h => absurd h id
  | n + 1, i, j, h => fun p h1 h2 => by
    obtain ⟨l1, l2, h3⟩ := h
    rcases h3 with ⟨h3, h4⟩ | ⟨g1, g2, g3, g4⟩ | ⟨x, g1, g2, g3, g4, g5⟩
    · have hp : p = i := by omega
      subst hp
      have e : ∀ w, (sh M).2.2 (150 + 1) p = some w → M.2.2 151 p = some w := fun w h => h
      rcases h4 with ⟨w, k1, k2⟩ | ⟨v, k1, _⟩ | ⟨v, k1, _⟩ | ⟨w, v, k0, k1, _⟩
      · exact ⟨w, by omega, e _ k2⟩
      · exact ⟨18, by decide, e _ k1⟩
      · exact ⟨19, by decide, e _ k1⟩
      · exact ⟨w, by omega, e _ k1⟩
    · by_cases hp : p = j - 1
      · subst hp; exact ⟨15, by decide, g3⟩
      · exact wE_w n i (j - 1) g4 p h1 (by omega)
    · by_cases hp : p = j - 1
      · subst hp
        rcases g1 with g1 | g1
        · exact ⟨14, by decide, g1.2⟩
        · exact ⟨13, by decide, g1.2⟩
      · by_cases hx : p < x
        · exact wE_w n i x g4 p h1 hx
        · exact wE_w n x (j - 1) g5 p (by omega) (by omega)
def wP (x k : Nat) : Prop := x = 65 ∧ 2 ≤ k ∧ k ≤ 10 ∨ 150 ≤ x ∧ x ≤ 153 ∨ x = 192 ∧ (k = 0 ∨ 2 ≤ k ∧ k ≤ 13 ∨ 41 ≤ k ∧ k ≤ 44) ∨ x = 211
/-- a sentence that can't be read -/
theorem se_fail (d : Nat) (c : Nat × Nat) {s M' : qb_M} (hZ : qZ s) {pl : Nat} (o1 : ∀ u, qe (d + 43) 140 [.ref 150, .ref 65, .ref 67] (qb_hp (qj s u), 149, c) = some (some (.int (0)), (qb_hp (qj M' u), 149, c))) (o2 : ∀ u, qe (d + 44) 278 [.ref 192] (qb_hp (qj u s), 149, c) = some (some (.int (-1 - nI pl)), (qb_hp (qj u M'), 149, c))) (o3 : M'.1 65 3 = nI pl) (o4 : M'.1 65 2 = M'.1 192 10) (h22 : M'.1 192 2 = 0) (gMM : qG wP s M') : ∃ v t u, qe (d + 44) 139 [.ref 64] (qb_hp (s), 149, c) = some (some (.int (v)), (qb_hp (t), 149, c)) ∧ qe (d + 44) 278 [.ref 192] (qb_hp (t), 149, c) = some (some (.int (v)), (qb_hp (u), 149, c)) ∧ qZ u := by
  obtain ⟨⟨hT, hi0, hi1, hsl, hbk, hr⟩, -⟩ := id hZ
  obtain ⟨s1, hs1⟩ : ∃ s1, s1 = qb_ui (qj M' s) 65 1 0 := ⟨_, rfl⟩
  have g1 : qG (fun x k => x = 65 ∧ 1 ≤ k ∧ k ≤ 10 ∨ 150 ≤ x ∧ x ≤ 153) s s1 := by
    rw [hs1]
    refine qG.ui (fun x k h => ?_) (by omega)
    by_cases hx : x < 192
    · rw [qj_i hx, qj_l hx, qj_p hx]
      exact gMM x k (by unfold wP; omega)
    · rw [qj_I hx, qj_L hx, qj_P hx]
      exact ⟨rfl, rfl, rfl⟩
  have hj1 : qj s1 s = s1 := qj_of ((g1.mo (fun x k h => by omega : ∀ x k, _ → x < 192)).F)
  refine ⟨-1 - nI pl, s1, qj s1 M', ?_, ?_, qZ_ans hZ ((qj_G g1 gMM).mo (fun x k h => by unfold wP at h; unfold qA_P; omega)) (qZt_0 ?_ h22) ⟨?_, ?_, ?_, ?_⟩⟩
  · have hrd := o1 s
    rw [qj_self] at hrd
    refine (en_139 (d + 43) 64 _).trans ?_
    refine go_ald_2_0 rfl ?_
    refine go_getr rfl ⟨_, rfl, rfl, by decide, by decide⟩ ?_
    refine go_ald_2_0 rfl ?_
    refine go_getr rfl ⟨_, rfl, rfl, by decide, by decide⟩ ?_
    refine go_ald_2_0 rfl ?_
    refine go_getr rfl ⟨_, rfl, rfl, by decide, by decide⟩ ?_
    refine go_call3 rfl (hrd) (Nat.le_of_ble_eq_true rfl) (qb_qv rfl (by decide) (by decide)) ?_
    refine go_ist_2_1 rfl rfl ?_
    refine go_ald_2_0 rfl ?_
    refine go_getr rfl ⟨_, rfl, rfl, by decide, by decide⟩ ?_
    refine go_c rfl ?_
    refine go_puti rfl ⟨_, rfl, rfl, by decide, by decide⟩ rfl rfl ?_
    rw [← hs1]
    refine go_ild_2_1 rfl ?_
    refine go_ifne rfl (fun e => ?_) (fun e => ?_)
    · refine go_c rfl ?_
      refine go_ald_2_0 rfl ?_
      refine go_getr rfl ⟨_, rfl, rfl, by decide, by decide⟩ ?_
      refine go_geti rfl ⟨_, rfl, rfl, by decide, by decide⟩ ?_
      rw [show s1.1 65 3 = nI pl from by rw [hs1]; exact (qb_ui_1n (by omega)).trans o3]
      refine go_isub rfl ?_
      exact fin_i rfl rfl rfl
    · exact absurd rfl e
  · rw [show qe (d + 44) 278 [.ref 192] (qb_hp (s1), 149, c) = qe (d + 44) 278 [.ref 192] (qb_hp (qj s1 s), 149, c) by rw [hj1]]
    exact o2 s1
  · show s1.1 65 1 = 0
    rw [hs1]; exact qb_ui_1s
  · show s1.1 64 15 = M'.1 192 27
    rw [g1.i (by omega), gMM.i (by unfold wP; omega)]
    exact hr.1
  · show s1.1 64 16 = M'.1 192 30
    rw [g1.i (by omega), gMM.i (by unfold wP; omega)]
    exact hr.2.1
  · show s1.1 64 17 = M'.1 192 31
    rw [g1.i (by omega), gMM.i (by unfold wP; omega)]
    exact hr.2.2.1
  · show s1.1 65 2 = M'.1 192 10
    rw [hs1, qb_ui_1n (by omega)]
    exact o4
theorem qT_sentence (d : Nat) : qT (d + 44) 139 278 [] := fun s c hZ => by
  obtain ⟨⟨hT, hi0, hi1, hsl, hbk, hr⟩, nw, nm, ns, V, F0, lo, hi, se, h1, h2, h3, h4⟩ := id hZ
  obtain ⟨n, t0, t1, t2, t3⟩ := hT
  have hb : ∀ k, ∃ b, k < n → b < 256 ∧ s.1 193 k = nI b := fun k => by
    by_cases hk : k < n
    · obtain ⟨b, b1, b2⟩ := (t3 k hk).2
      exact ⟨b, fun _ => ⟨b1, b2⟩⟩
    · exact ⟨0, fun z => absurd z hk⟩
  obtain ⟨b, hB⟩ := Classical.axiomOfChoice hb
  obtain ⟨A0, hA0⟩ : ∃ A0, A0 = qb_ui (qb_ui s 150 4 0) 150 5 0 := ⟨_, rfl⟩
  have gA0 : qG (fun x k => x = 150) s A0 := by rw [hA0]; exact (qG.rf.ui (by omega)).ui (by omega)
  obtain ⟨A1, a1, a2, a3, a4⟩ := pc_open (d + 38) c (M := A0) (n := n) (l := 200) (b := b) t0 (by decide) (fun k hk => (hB k hk).1) ((gA0.i (by decide)).trans t1) (fun k hk => (gA0.i (by decide)).trans ((t3 k hk).1.trans (hB k hk).2))
  obtain ⟨B1, b1, b2, b3, b4, b5⟩ := pm_begin (d + 39) c (M := s) (n := n) (l := 200) (b := b) t0 (by decide) (fun k hk => (hB k hk).1) t2 (fun k hk => (hB k hk).2)
  obtain ⟨B2, hB2⟩ : ∃ B2, B2 = qb_ui (qb_ui (qb_ui B1 192 41 0) 192 42 0) 192 43 0 := ⟨_, rfl⟩
  have gB2 : qG (fun x k => x = 192 ∧ 41 ≤ k ∧ k ≤ 43) B1 B2 := by rw [hB2]; exact ((qG.rf.ui (by omega)).ui (by omega)).ui (by omega)
  have gA1 : qG (fun x k => x = 65 ∧ 2 ≤ k ∧ k ≤ 10 ∨ x = 150) s A1 := (gA0.mo (fun x k h => Or.inr h)).tr (a4.mo (fun x k h => Or.inl h))
  have gB3 : qG (fun x k => x = 192 ∧ (k = 0 ∨ 2 ≤ k ∧ k ≤ 10 ∨ k = 12 ∨ 41 ≤ k ∧ k ≤ 43)) s B2 := (b5.mo (fun x k h => by omega)).tr (gB2.mo (fun x k h => by omega))
  have gM0 := qj_G gA1 gB3
  have hN0 : wN (qj A1 B2) (qj A1 B2) ns := by
    refine ⟨(gM0.i (by omega)).trans h1.2.1.2.2.1, (gM0.i (by omega)).trans h1.2.2.1.2.2.1, h1.1.2.2.2.1, fun k hk => ?_⟩
    rw [gM0.l (by omega), gM0.l (by omega)]
    have := (h1.2.2.2.2 k hk).2.2.2
    rw [Nat.zero_add] at this
    exact this
  have hI : wI n 200 b ns (qj A1 B2) 0 0 0 0 := by
    refine ⟨rC_j a2, rM_j (b2.mv gB2 (fun x k h => by omega)), ⟨⟨?_, ?_⟩, ⟨?_, ?_⟩, ?_⟩, by decide, by decide, by decide, hN0⟩
    · show A1.1 150 4 = nI 0
      rw [a4.i (by omega), hA0]
      rfl
    · show B2.1 192 41 = nI 0
      rw [hB2]
      exact (qb_ui_1n (by omega)).trans ((qb_ui_1n (by omega)).trans qb_ui_1s)
    · show A1.1 150 5 = nI 0
      rw [a4.i (by omega), hA0]
      rfl
    · show B2.1 192 42 = nI 0
      rw [hB2]
      exact (qb_ui_1n (by omega)).trans qb_ui_1s
    · show B2.1 192 43 = nI 0
      rw [hB2]
      exact qb_ui_1s
  obtain ⟨M', r, o1, o2, o3⟩ := sent_any (d + 7) d c hI
  have o1 : ∀ u, qe (d + 42) 141 [.ref 150, .ref 65, .ref 67, .int (nI 1)] (qb_hp (qj A1 u), 149, c) = some (some (.int (r)), (qb_hp (qj M' u), 149, c)) := fun u => by
    have := o1 u
    rw [qj_j] at this
    exact this
  have o2 : ∀ u, qe (d + 43) 279 [.ref 192] (qb_hp (qj u B2), 149, c) = some (some (.int (r)), (qb_hp (qj u M'), 149, c)) := fun u => by
    have := o2 u
    rw [qj_J] at this
    exact this
  have enC : ∀ u R, qa_lm (qe (d + 42)) (qa_cd qc_140) (18, [.ref 150, .ref 65, .ref 67], [.int r], (qb_hp (qj M' u), 149, c)) = R → qe (d + 43) 140 [.ref 150, .ref 65, .ref 67] (qb_hp (qj s u), 149, c) = R := fun u R hR => by
    have hcl : qe (d + 42) 43 [.ref 150] (qb_hp (qj s u), 149, c) = some (none, (qb_hp (qj A0 u), 149, c)) := by
      refine (en_43 (d + 41) 150 _).trans ?_
      refine go_ald_1_0 rfl ?_
      refine go_c rfl ?_
      refine go_puti rfl ⟨_, rfl, rfl, by decide, by decide⟩ rfl rfl ?_
      rw [qj_ui (by decide)]
      refine go_ald_1_0 rfl ?_
      refine go_c rfl ?_
      refine go_puti rfl ⟨_, rfl, rfl, by decide, by decide⟩ rfl rfl ?_
      rw [qj_ui (by decide), ← hA0]
      exact fin_v rfl rfl
    refine (en_140 (d + 42) 150 65 67 _).trans ?_
    refine go_ald_3_0 rfl ?_
    refine go_call1 rfl (hcl) (Nat.le_of_ble_eq_true rfl) (qb_qv rfl (by decide) (by decide)) ?_
    refine go_ald_3_1 rfl ?_
    refine go_c rfl ?_
    refine go_call2 rfl (a1 u) (Nat.le_of_ble_eq_true rfl) (qb_qv rfl (by decide) (by decide)) ?_
    refine go_ald_3_0 rfl ?_
    refine go_ald_3_1 rfl ?_
    refine go_ald_3_2 rfl ?_
    refine go_c rfl ?_
    refine go_call4 rfl (o1 u) (Nat.le_of_ble_eq_true rfl) (qb_qv rfl (by decide) (by decide)) ?_
    exact hR
  have enM : ∀ u R, qa_lm (qe (d + 43)) (qa_cd qc_278) (26, [.ref 192, .retAddr 0], [.int r], (qb_hp (qj u M'), 149, c)) = R → qe (d + 44) 278 [.ref 192] (qb_hp (qj u s), 149, c) = R := fun u R hR => by
    refine (en_278 (d + 43) 192 _).trans ?_
    refine go_ald_2_0 rfl ?_
    refine go_c rfl ?_
    refine go_call2 rfl (b1 u) (Nat.le_of_ble_eq_true rfl) (qb_qv rfl (by decide) (by decide)) ?_
    refine go_ald_2_0 rfl ?_
    refine go_c rfl ?_
    refine go_puti rfl ⟨_, rfl, rfl, by decide, by decide⟩ rfl rfl ?_
    rw [qj_UI (by decide)]
    refine go_ald_2_0 rfl ?_
    refine go_c rfl ?_
    refine go_puti rfl ⟨_, rfl, rfl, by decide, by decide⟩ rfl rfl ?_
    rw [qj_UI (by decide)]
    refine go_ald_2_0 rfl ?_
    refine go_c rfl ?_
    refine go_puti rfl ⟨_, rfl, rfl, by decide, by decide⟩ rfl rfl ?_
    rw [qj_UI (by decide), ← hB2]
    refine go_ald_2_0 rfl ?_
    refine go_call1 rfl (o2 u) (Nat.le_of_ble_eq_true rfl) (qb_qv rfl (by decide) (by decide)) ?_
    exact hR
  rcases o3 with ⟨hr1, ⟨p', hp', hC1, hM1⟩, ⟨a', o', ⟨⟨s1', s2'⟩, ⟨s3', s4'⟩, s5'⟩, w1, w2, w3, w4, w5⟩, gF⟩ | ⟨hr1, ⟨f, pl, f0, f1, f2, f3, f4⟩, gF⟩
  · subst hr1
    have gMM : qG wP s M' := (gM0.mo (fun x k h => by unfold wP; omega)).tr (gF.mo (fun x k h => by unfold wF at h; unfold wP; omega))
    have h22 : M'.1 192 2 = 0 := (gF.i (by unfold wF; omega)).trans ((gB2.i (by omega)).trans b4)
    have h652 : M'.1 65 2 = 0 := (gF.i (by unfold wF; omega)).trans a3
    have h1910 : M'.1 192 10 = 0 := (gF.i (by unfold wF; omega)).trans ((gB2.i (by omega)).trans b3)
    have hk9 := tx_k9 (n := n) (l := 200) (b := b) (p := p')
    have cK : ∀ u R, (tx_k n 200 b p' = 0 → some (some (.int (1)), (qb_hp (qj M' u), 149, c)) = R) → (tx_k n 200 b p' ≠ 0 → some (some (.int (0)), (qb_hp (qj (fC M' 1 (tx_p n 200 b p')) u), 149, c)) = R) → qe (d + 43) 140 [.ref 150, .ref 65, .ref 67] (qb_hp (qj s u), 149, c) = R := fun u R k1 k2 => enC u _ (by
      refine go_ifne rfl (fun e => ?_) (fun e => ?_)
      · exact absurd e (by decide)
      · refine go_ald_3_1 rfl ?_
        refine go_geti rfl ⟨_, rfl, rfl, by decide, by decide⟩ ?_
        rw [show (qj M' u).1 65 7 = nI (tx_k n 200 b p') from hC1.2.2.2.2.1]
        refine go_ifeq rfl (fun e2 => ?_) (fun e2 => ?_)
        · have := k1 ((nI_eq (b := 0) hk9 (by decide)).mp e2)
          refine go_c rfl ?_
          refine go_goto rfl ?_
          exact fin_i rfl rfl this
        · have := k2 (fun z => e2 (by rw [z]; rfl))
          refine go_ald_3_1 rfl ?_
          refine go_c rfl ?_
          refine go_call2 rfl (pc_fail (d + 41) c hC1 1 u) (Nat.le_of_ble_eq_true rfl) (qb_qv rfl (by decide) (by decide)) ?_
          refine go_ifeq rfl (fun e3 => ?_) (fun e3 => ?_)
          · refine go_c rfl ?_
            exact fin_i rfl rfl this
          · exact absurd rfl e3)
    have mK : ∀ u R, (tx_k n 200 b p' = 0 → qa_lm (qe (d + 43)) (qa_cd qc_278) (56, [.ref 192, .retAddr 0], [], (qb_hp (qj u M'), 149, c)) = R) → (tx_k n 200 b p' ≠ 0 → some (some (.int (-1 - nI (tx_p n 200 b p'))), (qb_hp (qj u (fM M' 1 (tx_p n 200 b p'))), 149, c)) = R) → qe (d + 44) 278 [.ref 192] (qb_hp (qj u s), 149, c) = R := fun u R k1 k2 => enM u _ (by
      have hb := pm_bad (d + 42) c hM1 1 u
      rw [ite_self] at hb
      refine go_ifne rfl (fun e => ?_) (fun e => ?_)
      · exact absurd e (by decide)
      · refine go_ald_2_0 rfl ?_
        refine go_geti rfl ⟨_, rfl, rfl, by decide, by decide⟩ ?_
        rw [show (qj u M').1 192 7 = nI (if 4 ≤ tx_k n 200 b p' then 4 else tx_k n 200 b p') from hM1.2.2.2.2.1]
        refine go_ifeq rfl (fun e2 => ?_) (fun e2 => ?_)
        · refine k1 ?_
          have := (nI_eq (b := 0) tx_m9 (by decide)).mp e2
          split at this <;> omega
        · have := k2 (fun z => e2 (by rw [z]; rfl))
          refine go_ald_2_0 rfl ?_
          refine go_c rfl ?_
          refine go_call2 rfl (hb) (Nat.le_of_ble_eq_true rfl) (qb_qv rfl (by decide) (by decide)) ?_
          refine go_pop_int rfl ?_
          refine go_c rfl ?_
          refine go_ald_2_0 rfl ?_
          refine go_geti rfl ⟨_, rfl, rfl, by decide, by decide⟩ ?_
          rw [show (qj u (fM M' 1 (tx_p n 200 b p'))).1 192 11 = nI (tx_p n 200 b p') from rfl]
          refine go_isub rfl ?_
          exact fin_i rfl rfl this)
    by_cases h0 : tx_k n 200 b p' = 0
    · have hlt := wE_lt w5
      obtain ⟨s1, hs1⟩ : ∃ s1, s1 = qb_ui (qj M' s) 65 1 0 := ⟨_, rfl⟩
      have g1 : qG (fun x k => x = 65 ∧ 1 ≤ k ∧ k ≤ 10 ∨ 150 ≤ x ∧ x ≤ 153) s s1 := by
        rw [hs1]
        refine qG.ui (fun x k h => ?_) (by omega)
        by_cases hx : x < 192
        · rw [qj_i hx, qj_l hx, qj_p hx]
          exact gMM x k (by unfold wP; omega)
        · rw [qj_I hx, qj_L hx, qj_P hx]
          exact ⟨rfl, rfl, rfl⟩
      have s1M : ∀ x k, 150 ≤ x ∧ x ≤ 153 → s1.1 x k = M'.1 x k ∧ s1.2.2 x k = M'.2.2 x k := fun x k hx => by
        rw [hs1]
        exact ⟨(qb_ui_1n (by omega)).trans (qj_i (by omega)), qj_p (by omega)⟩
      obtain ⟨s2, p1, ⟨p2, p3, p4⟩, p5⟩ := sp_copyW (d + 42) s1 c qQ_78 qQ_150 (by decide) (L := a') ((s1M _ _ (by decide)).1.trans s1') hlt.2 (fun i hi => by
        rw [show (150 : Nat) + 1 = 151 from rfl, (s1M 151 i (by decide)).2]
        exact wE_w _ 0 a' w5 i (Nat.zero_le _) hi)
      have g2 : qG (fun x k => x = 65 ∧ 1 ≤ k ∧ k ≤ 10 ∨ 150 ≤ x ∧ x ≤ 153 ∨ 78 ≤ x ∧ x < 82) s s2 := (g1.mo (fun x k h => by omega)).tr (p5.G.mo (fun x k h => by omega))
      have hj2 : qj s2 s = s2 := qj_of ((g2.mo (fun x k h => by omega : ∀ x k, _ → x < 192)).F)
      obtain ⟨m1, hm1⟩ : ∃ m1, m1 = qb_ui (qb_ui (qj s2 M') 194 70 1) 194 71 (nI (a' - 1)) := ⟨_, rfl⟩
      obtain ⟨u, hu⟩ : ∃ u, u = qb_wr m1 194 72 240 (fun k => m1.1 211 k) := ⟨_, rfl⟩
      have gm1 : qG (fun x k => x = 194 ∧ 70 ≤ k) (qj s2 M') m1 := by rw [hm1]; exact (qG.rf.ui (by omega)).ui (by omega)
      have gu : qG (fun x k => x = 194 ∧ 70 ≤ k) (qj s2 M') u := by rw [hu]; exact gm1.wr (fun k _ _ => by omega)
      have hmod : qe (d + 44) 278 [.ref 192] (qb_hp (s2), 149, c) = some (some (.int (nI o')), (qb_hp (u), 149, c)) := by
        rw [← hj2]
        refine mK s2 _ (fun _ => ?_) (fun z => absurd h0 z)
        have loop : ∀ i k, k + i = 240 → qa_lm (qe (d + 43)) (qa_cd qc_278) (77, [.ref 192, .int (nI k)], [], (qb_hp (qb_wr m1 194 72 k (fun k => m1.1 211 k)), 149, c)) = some (some (.int (nI o')), (qb_hp (u), 149, c)) := by
          intro i
          induction i with
          | zero =>
            intro k hk
            have hk : k = 240 := by omega
            subst hk
            rw [← hu]
            refine go_ild_2_1 rfl ?_
            refine go_c rfl ?_
            refine go_icge rfl (fun e => ?_) (fun e => ?_)
            · refine go_ald_2_0 rfl ?_
              refine go_geti rfl ⟨_, rfl, rfl, by decide, by decide⟩ ?_
              rw [show u.1 192 42 = nI o' from (gu.i (by omega)).trans s4']
              exact fin_i rfl rfl rfl
            · exact absurd (Int32.le_refl _) e
          | succ i ih =>
            intro k hk
            have ih := ih (k + 1) (by omega)
            refine go_ild_2_1 rfl ?_
            refine go_c rfl ?_
            refine go_icge rfl (fun e => ?_) (fun e => ?_)
            · exact absurd e (nI_ge (b := 240) (by omega) (by decide))
            · refine go_ald_2_0 rfl ?_
              refine go_getr rfl ⟨_, rfl, rfl, by decide, by decide⟩ ?_
              refine go_c rfl ?_
              refine go_ild_2_1 rfl ?_
              refine go_iadd rfl ?_
              rw [show (72 : Int32) = nI 72 from rfl, nI_add]
              refine go_ald_2_0 rfl ?_
              refine go_getr rfl ⟨_, rfl, rfl, by decide, by decide⟩ ?_
              refine go_ild_2_1 rfl ?_
              refine go_iald (j := k) rfl (⟨rfl, by decide, by decide, by decide⟩) (rfl) (by omega) ?_
              rw [show (qb_wr m1 194 72 k (fun k => m1.1 211 k)).1 211 k = m1.1 211 k from qb_wr_o (Or.inl (by decide))]
              refine go_iast (j := 72 + k) rfl (⟨rfl, by decide, by decide, by decide⟩) (rfl) (by omega) ?_
              rw [qb_wr_s (j := 72 + k) (n := k) (g := fun k => m1.1 211 k) rfl rfl]
              refine go_inc_2_1 rfl rfl ?_
              refine go_goto rfl ?_
              rw [nI_1]
              exact ih
        have h := loop 240 0 (by omega)
        rw [qb_wr_0] at h
        refine go_ald_2_0 rfl ?_
        refine go_getr rfl ⟨_, rfl, rfl, by decide, by decide⟩ ?_
        refine go_c rfl ?_
        refine go_c rfl ?_
        refine go_iast (j := 70) rfl (⟨rfl, by decide, by decide, by decide⟩) (rfl) (by omega) ?_
        refine go_ald_2_0 rfl ?_
        refine go_getr rfl ⟨_, rfl, rfl, by decide, by decide⟩ ?_
        refine go_c rfl ?_
        refine go_ald_2_0 rfl ?_
        refine go_geti rfl ⟨_, rfl, rfl, by decide, by decide⟩ ?_
        rw [show (qb_ui (qj s2 M') 194 70 1).1 192 44 = nI (a' - 1) from w4]
        refine go_iast (j := 71) rfl (⟨rfl, by decide, by decide, by decide⟩) (rfl) (by omega) ?_
        rw [← hm1]
        refine go_c rfl ?_
        refine go_ist_2_1 rfl rfl ?_
        exact h
      have gsu : qG (fun x k => x = 65 ∨ 150 ≤ x ∧ x ≤ 153 ∨ 78 ≤ x ∧ x < 82 ∨ x = 192 ∧ (k = 0 ∨ 2 ≤ k ∧ k ≤ 13 ∨ 41 ≤ k ∧ k ≤ 44) ∨ x = 194 ∧ 70 ≤ k ∨ x = 211) s u := ((qj_G g2 gMM).mo (fun x k h => by unfold wP at h; omega)).tr (gu.mo (fun x k h => by omega))
      have hu2 : ∀ x k, x < 192 → u.1 x k = s2.1 x k ∧ u.2.2 x k = s2.2.2 x k := fun x k hx => ⟨(gu.i (by omega)).trans (qj_i hx), (gu.p (by omega)).trans (qj_p hx)⟩
      have h42 : u.1 78 4 = nI a' := (hu2 78 4 (by decide)).1.trans (p2.trans ((s1M _ _ (by decide)).1.trans s1'))
      have h52 : s2.1 78 5 = nI o' := p3.trans ((s1M _ _ (by decide)).1.trans s3')
      refine ⟨nI o', s2, u, ?_, hmod, ⟨⟨qZt_0 ?_ ?_, hi0.mv gsu (by decide) (Or.inl rfl) (fun x k h => by omega), hi1.mv gsu (by decide) (Or.inr rfl) (fun x k h => by omega), hsl.mv gsu (fun x k h => by omega), hbk.mv gsu (fun x k h => by omega), ?_, ?_, ?_, ?_⟩, nw, nm, ns, V, F0, lo, hi, se, h1.mv gsu (fun x k h => by omega) (fun k _ _ => by omega) (fun k _ _ => by omega), h2.ex (fun j hj => ?_) (fun j hj => gsu.i (by omega)), ?_, h4.mv gsu (fun x k h => by omega)⟩⟩
      · have hrd := cK s _ (fun _ => rfl) (fun z => absurd h0 z)
        rw [qj_self] at hrd
        refine (en_139 (d + 43) 64 _).trans ?_
        refine go_ald_2_0 rfl ?_
        refine go_getr rfl ⟨_, rfl, rfl, by decide, by decide⟩ ?_
        refine go_ald_2_0 rfl ?_
        refine go_getr rfl ⟨_, rfl, rfl, by decide, by decide⟩ ?_
        refine go_ald_2_0 rfl ?_
        refine go_getr rfl ⟨_, rfl, rfl, by decide, by decide⟩ ?_
        refine go_call3 rfl (hrd) (Nat.le_of_ble_eq_true rfl) (qb_qv rfl (by decide) (by decide)) ?_
        refine go_ist_2_1 rfl rfl ?_
        refine go_ald_2_0 rfl ?_
        refine go_getr rfl ⟨_, rfl, rfl, by decide, by decide⟩ ?_
        refine go_c rfl ?_
        refine go_puti rfl ⟨_, rfl, rfl, by decide, by decide⟩ rfl rfl ?_
        rw [← hs1]
        refine go_ild_2_1 rfl ?_
        refine go_ifne rfl (fun e => ?_) (fun e => ?_)
        · exact absurd e (by decide)
        · refine go_ald_2_0 rfl ?_
          refine go_getr rfl ⟨_, rfl, rfl, by decide, by decide⟩ ?_
          refine go_ald_2_0 rfl ?_
          refine go_getr rfl ⟨_, rfl, rfl, by decide, by decide⟩ ?_
          refine go_call2 rfl (p1) (Nat.le_of_ble_eq_true rfl) (qb_qv rfl (by decide) (by decide)) ?_
          refine go_ald_2_0 rfl ?_
          refine go_getr rfl ⟨_, rfl, rfl, by decide, by decide⟩ ?_
          refine go_geti rfl ⟨_, rfl, rfl, by decide, by decide⟩ ?_
          rw [h52]
          exact fin_i rfl rfl rfl
      · rw [(hu2 65 1 (by decide)).1, p5.i (by omega), hs1]
        exact qb_ui_1s
      · exact (gu.i (by omega)).trans h22
      · rw [gsu.i (by omega), gsu.i (by omega)]
        exact hr.1
      · rw [gsu.i (by omega), gsu.i (by omega)]
        exact hr.2.1
      · rw [gsu.i (by omega), gsu.i (by omega)]
        exact hr.2.2.1
      · rw [(hu2 65 2 (by decide)).1, p5.i (by omega), hs1, qb_ui_1n (by omega), gu.i (by omega)]
        exact h652.trans h1910.symm
      · exact qs_so_eq (fun _ => gsu.i (by omega)) (fun _ _ => gsu.i (by omega)) (fun _ _ => gsu.i (by omega)) (fun _ _ => gsu.i (by omega)) (fun _ => gsu.i (by omega))
      · refine ⟨a', o', h42, hlt.2, (hu2 78 5 (by decide)).1.trans h52, w2, Or.inr ⟨by omega, ?_, a' - 1, a' - 0, by omega, ?_, ?_⟩⟩
        · rw [hu, qb_wr_o (Or.inr (Or.inl (by decide))), hm1]
          exact (qb_ui_1n (by omega)).trans qb_ui_1s
        · rw [hu, qb_wr_o (Or.inr (Or.inl (by decide))), hm1]
          exact qb_ui_1s
        · refine wE_q (M := M') (a := a') (fun i hi => ?_) (fun j hj => ?_) _ 0 a' (Nat.le_refl _) w5
          · obtain ⟨c1, c2, c3⟩ := p4 i hi
            refine ⟨(hu2 79 i (by decide)).2.trans (c1.trans (s1M 151 i (by decide)).2), (hu2 80 i (by decide)).1.trans (c2.trans (s1M 152 i (by decide)).1), (hu2 81 i (by decide)).1.trans (c3.trans (s1M 153 i (by decide)).1)⟩
          · rw [hu, Nat.zero_add, qb_wr_in (by omega), gm1.i (by omega)]
            rfl
    · exact se_fail d c hZ (M' := qj (fC M' 1 (tx_p n 200 b p')) (fM M' 1 (tx_p n 200 b p'))) (pl := tx_p n 200 b p') (fun u => by rw [qj_j]; exact cK u _ (fun z => absurd z h0) (fun _ => rfl)) (fun u => by rw [qj_J]; exact mK u _ (fun z => absurd z h0) (fun _ => rfl)) rfl rfl h22 ((qj_G (gMM.tr (fC_G.mo (fun x k h => by unfold wP; omega))) (gMM.tr (fM_G.mo (fun x k h => by unfold wP; omega)))).mo (fun x k h => h.elim (fun z => z.2) (fun z => z.2)))
  · subst hr1
    have gMM : qG wP s M' := (gM0.mo (fun x k h => by unfold wP; omega)).tr (gF.mo (fun x k h => by unfold wG wF at h; unfold wP; omega))
    have h22 : M'.1 192 2 = 0 := (gF.i (by unfold wG wF; omega)).trans ((gB2.i (by omega)).trans b4)
    refine se_fail d c hZ (pl := pl) (fun u => enC u _ ?_) (fun u => enM u _ ?_) f3 (f1.trans f2.symm) h22 gMM
    · refine go_ifne rfl (fun e => ?_) (fun e => ?_)
      · refine go_c rfl ?_
        exact fin_i rfl rfl rfl
      · exact absurd rfl e
    · refine go_ifne rfl (fun e => ?_) (fun e => ?_)
      · refine go_c rfl ?_
        refine go_ald_2_0 rfl ?_
        refine go_geti rfl ⟨_, rfl, rfl, by decide, by decide⟩ ?_
        rw [show (qj u M').1 192 11 = nI pl from f4]
        refine go_isub rfl ?_
        exact fin_i rfl rfl rfl
      · exact absurd rfl e

/-! a book, in both -/
def kT (x k : Nat) : Prop := x = 194 ∧ 30 ≤ k ∧ k < 70 ∨ x = 192 ∧ k ≠ 24 ∧ k ≠ 27 ∧ k ≠ 30 ∧ k ≠ 31 ∧ k ≠ 34 ∨ x = 198 ∨ x = 204 ∨ x = 209 ∨ x = 210
theorem qT_book (d : Nat) (x : Int32) : qT (d + 20) 130 269 [.int x] := fun s c hZ => by
  obtain ⟨⟨hT, hi0, hi1, hsl, hbk, hr⟩, nw, nm, ns, V, F0, lo, hi, se, h1, h2, h3, h4⟩ := id hZ
  by_cases hx : x = 0 ∨ x = 1
  · have hx01 : (0 : Int32) ≤ x ∧ x ≤ 1 := by rcases hx with e | e <;> subst e <;> decide
    obtain ⟨n, t0, t1, t2, t3⟩ := hT
    have hb : ∀ k, ∃ b, k < n → b < 256 ∧ s.1 193 k = nI b := fun k => by
      by_cases hk : k < n
      · obtain ⟨b, b1, b2⟩ := (t3 k hk).2
        exact ⟨b, fun _ => ⟨b1, b2⟩⟩
      · exact ⟨0, fun z => absurd z hk⟩
    obtain ⟨b, hB⟩ := Classical.axiomOfChoice hb
    obtain ⟨A0, hA0⟩ : ∃ A0, A0 = qb_ui (qb_ui s 133 5 0) 133 6 0 := ⟨_, rfl⟩
    have gA0 : qG (fun x k => x = 133) s A0 := by rw [hA0]; exact (qG.rf.ui (by omega)).ui (by omega)
    have gB0 : qG (fun x k => x = 192 ∧ k = 0) s (qb_ui s 192 0 0) := qG.rf.ui (by omega)
    obtain ⟨A1, a1, a2, a3, a4⟩ := pc_open (d + 14) c (M := A0) (n := n) (l := 400) (b := b) t0 (by decide) (fun k hk => (hB k hk).1) ((gA0.i (by decide)).trans t1) (fun k hk => (gA0.i (by decide)).trans ((t3 k hk).1.trans (hB k hk).2))
    obtain ⟨B1, b1, b2, b3, b4, b5⟩ := pm_begin (d + 15) c (M := qb_ui s 192 0 0) (n := n) (l := 400) (b := b) t0 (by decide) (fun k hk => (hB k hk).1) ((gB0.i (by omega)).trans t2) (fun k hk => (gB0.i (by omega)).trans (hB k hk).2)
    obtain ⟨B2, hB2⟩ : ∃ B2, B2 = qb_ui B1 192 38 0 := ⟨_, rfl⟩
    have gB2 : qG (fun x k => x = 192 ∧ k = 38) B1 B2 := by rw [hB2]; exact qG.rf.ui (by omega)
    have hC0 : rC (qj A1 B2) n 400 b 0 := rC_j a2
    have hR0 : rM (qj A1 B2) n 400 b 0 := rM_j (b2.mv gB2 (fun x k h => by omega))
    have gA1 : qG (fun x k => x = 65 ∧ 2 ≤ k ∧ k ≤ 10 ∨ x = 133) s A1 := (gA0.mo (fun x k h => Or.inr h)).tr (a4.mo (fun x k h => Or.inl h))
    have gB3 : qG (fun x k => x = 192 ∧ (k = 0 ∨ 2 ≤ k ∧ k ≤ 10 ∨ k = 12 ∨ k = 38)) s B2 := (gB0.mo (fun x k h => by omega)).tr ((b5.mo (fun x k h => by omega)).tr (gB2.mo (fun x k h => by omega)))
    have gM0 := qj_G gA1 gB3
    have hN0 : kP (qj A1 B2) (qj A1 B2) nm := by
      refine ⟨(gM0.i (by omega)).trans h1.2.1.2.1, (gM0.i (by omega)).trans h1.2.2.1.2.1, h1.1.2.2.1, fun k hk => ?_⟩
      rw [gM0.l (by omega), gM0.l (by omega)]
      have := (h1.2.2.2.1 k hk).2.2.2
      rw [Nat.zero_add] at this
      exact this
    have hl5 : (qj A1 B2).1 133 5 = nI 0 := by
      show A1.1 133 5 = nI 0
      rw [a4.i (by omega), hA0]
      rfl
    have hl38 : (qj A1 B2).1 192 38 = nI 0 := by
      show B2.1 192 38 = nI 0
      rw [hB2]
      exact qb_ui_1s
    have enC : ∀ u R, qa_lm (qe (d + 18)) (qa_cd qc_131) (19, [.ref 133, .ref 65, .ref 67, .int (nI 0)], [], (qb_hp (qj (qj A1 B2) u), 149, c)) = R → qe (d + 19) 131 [.ref 133, .ref 65, .ref 67] (qb_hp (qj s u), 149, c) = R := fun u R hR => by
      rw [qj_j] at hR
      rw [hA0] at a1
      refine (en_131 (d + 18) 133 65 67 _).trans ?_
      refine go_ald_4_0 rfl ?_
      refine go_c rfl ?_
      refine go_puti rfl ⟨_, rfl, rfl, by decide, by decide⟩ rfl rfl ?_
      refine go_ald_4_0 rfl ?_
      refine go_c rfl ?_
      refine go_puti rfl ⟨_, rfl, rfl, by decide, by decide⟩ rfl rfl ?_
      rw [qj_ui (by decide), qj_ui (by decide)]
      refine go_ald_4_1 rfl ?_
      refine go_c rfl ?_
      refine go_call2 rfl (a1 u) (Nat.le_of_ble_eq_true rfl) (qb_qv rfl (by decide) (by decide)) ?_
      refine go_c rfl ?_
      refine go_ist_4_3 rfl rfl ?_
      exact hR
    have enM : ∀ u R, qa_lm (qe (d + 19)) (qa_cd qc_269) (30, [.ref 192, .int x, .retAddr 0, .retAddr 0], [], (qb_hp (qj u (qj A1 B2)), 149, c)) = R → qe (d + 20) 269 [.ref 192, .int x] (qb_hp (qj u s), 149, c) = R := fun u R hR => by
      rw [qj_J, hB2] at hR
      refine (en_269 (d + 19) 192 x _).trans ?_
      refine go_ald_4_0 rfl ?_
      refine go_c rfl ?_
      refine go_puti rfl ⟨_, rfl, rfl, by decide, by decide⟩ rfl rfl ?_
      rw [qj_UI (by decide)]
      refine go_ild_4_1 rfl ?_
      refine go_c rfl ?_
      refine go_c rfl ?_
      refine go_call3 rfl (sp_isIn (d + 18) _ _ _ _) (Nat.le_of_ble_eq_true rfl) rfl ?_
      rw [qB_t hx01]
      refine go_ifne rfl (fun e => ?_) (fun e => ?_)
      · exact absurd e (by decide)
      · refine go_ald_4_0 rfl ?_
        refine go_c rfl ?_
        refine go_call2 rfl (b1 u) (Nat.le_of_ble_eq_true rfl) (qb_qv rfl (by decide) (by decide)) ?_
        refine go_ald_4_0 rfl ?_
        refine go_c rfl ?_
        refine go_puti rfl ⟨_, rfl, rfl, by decide, by decide⟩ rfl rfl ?_
        rw [qj_UI (by decide)]
        exact hR
    have enB : ∀ R, qa_lm (qe (d + 19)) (qa_cd qc_130) (13, [.ref 64, .int x, .retAddr 0, .retAddr 0], [], (qb_hp (s), 149, c)) = R → qe (d + 20) 130 [.ref 64, .int x] (qb_hp (s), 149, c) = R := fun R hR => by
      refine (en_130 (d + 19) 64 x _).trans ?_
      refine go_ild_4_1 rfl ?_
      refine go_ifeq rfl (fun e => ?_) (fun e => ?_)
      · exact hR
      · refine go_ild_4_1 rfl ?_
        refine go_c rfl ?_
        refine go_iceq rfl (fun e2 => ?_) (fun e2 => ?_)
        · exact hR
        · exact absurd hx (fun z => z.elim e e2)
    rcases bk_loop (d + 10) (d + 11) c (n := n) (l := 400) (b := b) (nm := nm) (.int x) (.retAddr 0) (.retAddr 0) (n + 1) (qj A1 B2) 0 0 (by omega) hC0 hR0 hl5 hl38 (by decide) hN0 (fun i hi => absurd hi (Nat.not_lt_zero i)) with ⟨M', L, o1, o2, o3, o4, o5, o6, o7⟩ | ⟨M', pl, o1, o2, o3, o4, o5⟩
    · obtain ⟨hR, H, X, J0, Lf, Sh, hI⟩ := id h2
      obtain ⟨s1, hs1⟩ : ∃ s1, s1 = qb_ui (qj M' s) 65 1 0 := ⟨_, rfl⟩
      have gMM : qG (fun x k => x = 65 ∧ 2 ≤ k ∧ k ≤ 10 ∨ 133 ≤ x ∧ x ≤ 138 ∨ x = 192 ∧ (k = 0 ∨ 2 ≤ k ∧ k ≤ 10 ∨ k = 12 ∨ k = 13 ∨ k = 38) ∨ x = 209) s M' := (gM0.mo (fun x k h => by omega)).tr (o7.mo (fun x k h => by unfold kL kF at h; omega))
      have g1 : qG (fun x k => x = 65 ∧ 1 ≤ k ∧ k ≤ 10 ∨ 133 ≤ x ∧ x ≤ 138) s s1 := by
        rw [hs1]
        refine qG.ui (fun x k h => ?_) (by omega)
        by_cases hx : x < 192
        · rw [qj_i hx, qj_l hx, qj_p hx]
          exact gMM x k (by omega)
        · rw [qj_I hx, qj_L hx, qj_P hx]
          exact ⟨rfl, rfl, rfl⟩
      have s1M : ∀ x k, x < 192 → (x ≠ 65 ∨ k ≠ 1) → s1.1 x k = M'.1 x k := fun x k hx hk => by
        rw [hs1, qb_ui_1n hk, qj_i hx]
      have h22 : M'.1 192 2 = 0 := (o7.i (by unfold kL kF; omega)).trans ((gB2.i (by omega)).trans b4)
      have h652 : M'.1 65 2 = 0 := (o7.i (by unfold kL kF; omega)).trans a3
      have h1910 : M'.1 192 10 = 0 := (o7.i (by unfold kL kF; omega)).trans ((gB2.i (by omega)).trans b3)
      obtain ⟨s2, c1, c2, c3⟩ := sp_copyS (d + 18) s1 c qS_145 qS_73 (by decide)
      obtain ⟨s3, hs3⟩ : ∃ s3, s3 = qb_ui s2 133 6 0 := ⟨_, rfl⟩
      have f3 : qF (fun x => 145 ≤ x ∧ x < 150 ∨ x = 133) s1 s3 := by rw [hs3]; exact (c3.F.mo (fun x h => Or.inl h)).ui (Or.inr rfl)
      have gs3 : qG (fun x k => x = 65 ∧ 1 ≤ k ∧ k ≤ 10 ∨ 133 ≤ x ∧ x ≤ 138 ∨ 145 ≤ x ∧ x < 150) s s3 := (g1.mo (fun x k h => by omega)).tr (f3.G.mo (fun x k h => by omega))
      have so3 : ∀ k, k < 40 → qs_so s3 145 k = qs_so s 73 k := fun k hk => by
        rw [hs3, qs_so_F (show qF (fun x => x = 133) s2 (qb_ui s2 133 6 0) from qF.rf.ui rfl) (fun k hk => by omega), c2 k hk, qs_so_G g1 (fun x k hx => by omega)]
      have hD : qD nw nm V lo hi H (qs_so s3 145) (s.1 194) := qD.of h1 (hR.ex so3 (fun _ _ => rfl)) hI
      have hp3 : qP_pl s3 67 nw nm lo hi := h1.c.mv (P := fun x => x = 65 ∨ 133 ≤ x ∧ x ≤ 138 ∨ 145 ≤ x ∧ x < 150) (gs3.mo (fun x k h => by omega)).F (by omega) (by omega) (by omega)
      obtain ⟨R, J, t, G', H', p1, p2, p3, p4, p5, p6, p7⟩ := lv_loop (d + 13) (d + 11) c M' o3 o6 x L 0 (by omega) s3 H (s.1 194) (by
        rw [hs3, qb_ui_1n (by omega)]
        exact (c3.F.i (by omega)).trans ((s1M _ _ (by decide) (by omega)).trans o4)) (by rw [hs3]; exact qb_ui_1s) (fun y k hy => by
        rw [hs3, qb_ui_1n (by omega)]
        exact (c3.F.i (by omega)).trans (s1M _ _ (by omega) (by omega))) hp3 ((gs3.i (by omega)).trans h1.2.1.2.2.2.1) hD
      obtain ⟨pH1, pH2, pH3⟩ := p5.H
      obtain ⟨-, -, pR, X', J', Lf', Sh', pI⟩ := id p5
      have hup : qs_up (qs_so t 145) = qs_up (fun k => G' (30 + k)) := pR.up
      obtain ⟨T, hT⟩ : ∃ T, T = qb_ui (qb_ui (qb_ui (qb_ui t 191 0 R) 191 1 (nI J)) 191 2 (nI H')) 191 3 (nI (qs_up (qs_so t 145))) := ⟨_, rfl⟩
      have gtT : qG (fun x k => x = 191) t T := by rw [hT]; exact (((qG.rf.ui (by omega)).ui (by omega)).ui (by omega)).ui (by omega)
      have gT : qG (fun x k => x = 65 ∧ 1 ≤ k ∧ k ≤ 10 ∨ 125 ≤ x ∧ x ≤ 128 ∨ 133 ≤ x ∧ x ≤ 138 ∨ 145 ≤ x ∧ x < 150 ∨ x = 191) s T := (gs3.mo (fun x k h => by omega)).tr ((p4.mo (fun x k h => by unfold lv_f at h; omega)).tr (gtT.mo (fun x k h => by omega)))
      have soT : qs_so T 145 = qs_so t 145 := qs_so_G gtT (fun x k hx => by omega)
      have toldT : T.1 191 0 = R ∧ T.1 191 1 = nI J ∧ T.1 191 2 = nI H' ∧ T.1 191 3 = nI (qs_up (qs_so t 145)) := by
        rw [hT]
        exact ⟨(qb_ui_1n (by omega)).trans ((qb_ui_1n (by omega)).trans ((qb_ui_1n (by omega)).trans qb_ui_1s)), (qb_ui_1n (by omega)).trans ((qb_ui_1n (by omega)).trans qb_ui_1s), (qb_ui_1n (by omega)).trans qb_ui_1s, qb_ui_1s⟩
      have hJT : T.1 133 6 = nI J := (gtT.i (by omega)).trans p3
      have h651 : T.1 65 1 = 0 := by
        rw [gtT.i (by omega), p4.i (by unfold lv_f; omega), f3.i (by omega), hs1]
        exact qb_ui_1s
      have h652T : T.1 65 2 = 0 := by
        rw [gtT.i (by omega), p4.i (by unfold lv_f; omega), f3.i (by omega)]
        exact (s1M _ _ (by decide) (by omega)).trans h652
      have enL : ∀ R', qa_lm (qe (d + 19)) (qa_cd qc_130) (125, [.ref 64, .int x, .int 1, .int R], [], (qb_hp (T), 149, c)) = R' → qe (d + 20) 130 [.ref 64, .int x] (qb_hp (s), 149, c) = R' := fun R' hR' => enB _ (by
        have hrd := enC s _ (o1 s)
        rw [qj_self] at hrd
        have hlv : qe (d + 19) 137 [.ref 125, .ref 145, .ref 133] (qb_hp (s2), 149, c) = some (some (.int (R)), (qb_hp (t), 149, c)) := by
          refine (en_137 (d + 18) 125 145 133 _).trans ?_
          refine go_ald_5_2 rfl ?_
          refine go_c rfl ?_
          refine go_puti rfl ⟨_, rfl, rfl, by decide, by decide⟩ rfl rfl ?_
          rw [← hs3]
          exact p1 _ _
        refine go_ald_4_0 rfl ?_
        refine go_getr rfl ⟨_, rfl, rfl, by decide, by decide⟩ ?_
        refine go_ald_4_0 rfl ?_
        refine go_getr rfl ⟨_, rfl, rfl, by decide, by decide⟩ ?_
        refine go_ald_4_0 rfl ?_
        refine go_getr rfl ⟨_, rfl, rfl, by decide, by decide⟩ ?_
        refine go_call3 rfl (hrd) (Nat.le_of_ble_eq_true rfl) (qb_qv rfl (by decide) (by decide)) ?_
        refine go_ist_4_2 rfl rfl ?_
        refine go_ald_4_0 rfl ?_
        refine go_getr rfl ⟨_, rfl, rfl, by decide, by decide⟩ ?_
        refine go_c rfl ?_
        refine go_puti rfl ⟨_, rfl, rfl, by decide, by decide⟩ rfl rfl ?_
        rw [← hs1]
        refine go_ild_4_2 rfl ?_
        refine go_ifne rfl (fun e => ?_) (fun e => ?_)
        · exact absurd e (by decide)
        · have hS := qS_145
          refine go_ald_4_0 rfl ?_
          refine go_getr rfl ⟨_, rfl, rfl, by decide, by decide⟩ ?_
          refine go_ald_4_0 rfl ?_
          refine go_getr rfl ⟨_, rfl, rfl, by decide, by decide⟩ ?_
          refine go_call2 rfl (c1) (Nat.le_of_ble_eq_true rfl) (qS_v hS) ?_
          refine go_ald_4_0 rfl ?_
          refine go_getr rfl ⟨_, rfl, rfl, by decide, by decide⟩ ?_
          refine go_ald_4_0 rfl ?_
          refine go_getr rfl ⟨_, rfl, rfl, by decide, by decide⟩ ?_
          refine go_ald_4_0 rfl ?_
          refine go_getr rfl ⟨_, rfl, rfl, by decide, by decide⟩ ?_
          refine go_call3 rfl (hlv) (Nat.le_of_ble_eq_true rfl) (qb_qv rfl (by decide) (by decide)) ?_
          refine go_ist_4_3 rfl rfl ?_
          refine go_ald_4_0 rfl ?_
          refine go_getr rfl ⟨_, rfl, rfl, by decide, by decide⟩ ?_
          refine go_c rfl ?_
          refine go_ild_4_3 rfl ?_
          refine go_iast (j := 0) rfl (⟨rfl, by decide, by decide, by decide⟩) (rfl) (by omega) ?_
          refine go_ald_4_0 rfl ?_
          refine go_getr rfl ⟨_, rfl, rfl, by decide, by decide⟩ ?_
          refine go_c rfl ?_
          refine go_ald_4_0 rfl ?_
          refine go_getr rfl ⟨_, rfl, rfl, by decide, by decide⟩ ?_
          refine go_geti rfl ⟨_, rfl, rfl, by decide, by decide⟩ ?_
          rw [show (qb_ui t 191 0 R).1 133 6 = nI J from p3]
          refine go_iast (j := 1) rfl (⟨rfl, by decide, by decide, by decide⟩) (rfl) (by omega) ?_
          refine go_ald_4_0 rfl ?_
          refine go_getr rfl ⟨_, rfl, rfl, by decide, by decide⟩ ?_
          refine go_c rfl ?_
          refine go_ald_4_0 rfl ?_
          refine go_getr rfl ⟨_, rfl, rfl, by decide, by decide⟩ ?_
          refine go_geti rfl (qS_f hS rfl) ?_
          rw [show (qb_ui (qb_ui t 191 0 R) 191 1 (nI J)).1 145 4 = nI H' from pH1]
          have hw := sp_wiresUp (d + 17) (qb_ui (qb_ui (qb_ui t 191 0 R) 191 1 (nI J)) 191 2 (nI H')) c qS_145
          rw [qs_so_G (show qG (fun x k => x = 191) t (qb_ui (qb_ui (qb_ui t 191 0 R) 191 1 (nI J)) 191 2 (nI H')) from ((qG.rf.ui (by omega)).ui (by omega)).ui (by omega)) (fun x k hx => by omega)] at hw
          refine go_iast (j := 2) rfl (⟨rfl, by decide, by decide, by decide⟩) (rfl) (by omega) ?_
          refine go_ald_4_0 rfl ?_
          refine go_getr rfl ⟨_, rfl, rfl, by decide, by decide⟩ ?_
          refine go_c rfl ?_
          refine go_ald_4_0 rfl ?_
          refine go_getr rfl ⟨_, rfl, rfl, by decide, by decide⟩ ?_
          refine go_call1 rfl (hw) (Nat.le_of_ble_eq_true rfl) (qS_v hS) ?_
          refine go_iast (j := 3) rfl (⟨rfl, by decide, by decide, by decide⟩) (rfl) (by omega) ?_
          rw [← hT]
          exact hR')
      have fin : ∀ N : qb_M, N.1 133 6 = nI J → qa_lm (qe (d + 19)) (qa_cd qc_130) (144, [.ref 64, .int x, .int 1, .int R], [], (qb_hp (N), 149, c)) = some (some (.int (if R = 0 then -1 else nI J)), (qb_hp (N), 149, c)) := fun N hN => by
        refine go_ild_4_3 rfl ?_
        refine go_ifne rfl (fun e => ?_) (fun e => ?_)
        · rw [if_pos e]
          refine go_c rfl ?_
          refine go_goto rfl ?_
          exact fin_i rfl rfl rfl
        · rw [if_neg e]
          refine go_ald_4_0 rfl ?_
          refine go_getr rfl ⟨_, rfl, rfl, by decide, by decide⟩ ?_
          refine go_geti rfl ⟨_, rfl, rfl, by decide, by decide⟩ ?_
          rw [hN]
          exact fin_i rfl rfl rfl
      have finM : ∀ N : qb_M, qa_lm (qe (d + 19)) (qa_cd qc_269) (163, [.ref 192, .int x, .int (nI J), .int R], [], (qb_hp (N), 149, c)) = some (some (.int (if R = 0 then -1 else nI J)), (qb_hp (N), 149, c)) := fun N => by
        refine go_ild_4_3 rfl ?_
        refine go_ifne rfl (fun e => ?_) (fun e => ?_)
        · rw [if_pos e]
          refine go_c rfl ?_
          refine go_goto rfl ?_
          exact fin_i rfl rfl rfl
        · rw [if_neg e]
          refine go_ild_4_2 rfl ?_
          exact fin_i rfl rfl rfl
      have mod : ∀ C : qb_M, qF (fun x => x < 192) s C → ∃ m : qb_M, (∀ R', qa_lm (qe (d + 19)) (qa_cd qc_269) (145, [.ref 192, .int x, .int (nI J), .int R], [], (qb_hp (m), 149, c)) = R' → qe (d + 20) 269 [.ref 192, .int x] (qb_hp (C), 149, c) = R') ∧ m.1 194 = G' ∧ (∀ k, k < 40 → m.1 198 k = s.1 194 (30 + k)) ∧ m.1 192 39 = 1 ∧ (m.1 210 0 = R ∧ m.1 210 1 = nI J ∧ m.1 210 2 = nI H' ∧ m.1 210 3 = nI (qs_up (qs_so t 145))) ∧ m.1 192 2 = 0 ∧ m.1 192 10 = 0 ∧ qG kT C m := fun C hC => by
        have hjC : qj C s = C := qj_of hC
        have gC : qG (fun x k => x = 192 ∧ (k = 0 ∨ 2 ≤ k ∧ k ≤ 10 ∨ k = 12 ∨ k = 13 ∨ k = 38) ∨ x = 209) C (qj C M') := fun y k hy => by
          by_cases hlt : y < 192
          · rw [qj_i hlt, qj_l hlt, qj_p hlt]
            exact ⟨rfl, rfl, rfl⟩
          · rw [qj_I hlt, qj_L hlt, qj_P hlt]
            have := gMM y k (by omega)
            exact ⟨this.1.trans (hC.i hlt).symm, this.2.1.trans (hC.l hlt).symm, this.2.2.trans (hC.p hlt).symm⟩
        have hla := sp_layAside (d + 18) (qj C M') c
        obtain ⟨m0, hm0⟩ : ∃ m0, m0 = qb_wr (qj C M') 198 0 40 (fun k => (qj C M').1 194 (30 + k)) := ⟨_, rfl⟩
        rw [← hm0] at hla
        have g0 : qG (fun x k => x = 198) (qj C M') m0 := by rw [hm0]; exact qG.rf.wr (fun k _ _ => rfl)
        have h194 : m0.1 194 = s.1 194 := funext fun k => (g0.i (by omega)).trans ((gC.i (by omega)).trans (hC.i (by omega)))
        obtain ⟨m1, q1, q2, q3⟩ := p7 m0 h194 (fun k => (g0.i (by omega)).trans (qj_I (by decide))) ((g0.i (by omega)).trans ((qj_I (by decide)).trans o5))
        obtain ⟨m2, hm2⟩ : ∃ m2, m2 = qb_ui (qb_ui (qb_ui m1 210 0 R) 210 1 (nI J)) 210 2 (nI H') := ⟨_, rfl⟩
        have g2 : qG (fun x k => x = 210) m1 m2 := by rw [hm2]; exact ((qG.rf.ui (by omega)).ui (by omega)).ui (by omega)
        have hon := sp_onWires (d + 17) m2 c
        rw [show qm_so m2 = fun k => G' (30 + k) from (qm_so_G g2 (fun k hk => by omega)).trans (qm_soG q2), ← hup] at hon
        obtain ⟨m, hm⟩ : ∃ m, m = qb_ui (qb_ui m2 210 3 (nI (qs_up (qs_so t 145)))) 192 39 1 := ⟨_, rfl⟩
        have g3 : qG (fun x k => x = 210 ∨ x = 192 ∧ k = 39) m1 m := by rw [hm]; exact ((g2.mo (fun x k h => Or.inl h)).ui (by omega)).ui (by omega)
        refine ⟨m, fun R' hR' => ?_, ?_, fun k hk => ?_, ?_, ⟨?_, ?_, ?_, ?_⟩, ?_, ?_, ?_⟩
        · rw [← hjC]
          refine enM C _ ((o2 C).trans ?_)
          refine go_ald_4_0 rfl ?_
          refine go_call1 rfl (hla) (Nat.le_of_ble_eq_true rfl) (qb_qv rfl (by decide) (by decide)) ?_
          refine go_c rfl ?_
          refine go_ist_4_2 rfl rfl ?_
          refine go_c rfl ?_
          refine go_ist_4_3 rfl rfl ?_
          refine q1.trans ?_
          refine go_ald_4_0 rfl ?_
          refine go_getr rfl ⟨_, rfl, rfl, by decide, by decide⟩ ?_
          refine go_c rfl ?_
          refine go_ild_4_3 rfl ?_
          refine go_iast (j := 0) rfl (⟨rfl, by decide, by decide, by decide⟩) (rfl) (by omega) ?_
          refine go_ald_4_0 rfl ?_
          refine go_getr rfl ⟨_, rfl, rfl, by decide, by decide⟩ ?_
          refine go_c rfl ?_
          refine go_ild_4_2 rfl ?_
          refine go_iast (j := 1) rfl (⟨rfl, by decide, by decide, by decide⟩) (rfl) (by omega) ?_
          refine go_ald_4_0 rfl ?_
          refine go_getr rfl ⟨_, rfl, rfl, by decide, by decide⟩ ?_
          refine go_c rfl ?_
          refine go_ald_4_0 rfl ?_
          refine go_getr rfl ⟨_, rfl, rfl, by decide, by decide⟩ ?_
          refine go_c rfl ?_
          refine go_iald (j := 30) rfl (⟨rfl, by decide, by decide, by decide⟩) (rfl) (by omega) ?_
          rw [show (qb_ui (qb_ui m1 210 0 R) 210 1 (nI J)).1 194 30 = nI H' from by rw [show (qb_ui (qb_ui m1 210 0 R) 210 1 (nI J)).1 194 = m1.1 194 from rfl, q2]; exact pH2]
          refine go_iast (j := 2) rfl (⟨rfl, by decide, by decide, by decide⟩) (rfl) (by omega) ?_
          rw [← hm2]
          refine go_ald_4_0 rfl ?_
          refine go_getr rfl ⟨_, rfl, rfl, by decide, by decide⟩ ?_
          refine go_c rfl ?_
          refine go_ald_4_0 rfl ?_
          refine go_call1 rfl (hon) (Nat.le_of_ble_eq_true rfl) (qb_qv rfl (by decide) (by decide)) ?_
          refine go_iast (j := 3) rfl (⟨rfl, by decide, by decide, by decide⟩) (rfl) (by omega) ?_
          refine go_ald_4_0 rfl ?_
          refine go_c rfl ?_
          refine go_puti rfl ⟨_, rfl, rfl, by decide, by decide⟩ rfl rfl ?_
          rw [← hm]
          exact hR'
        · exact (funext fun k => g3.i (by omega)).trans q2
        · rw [g3.i (by omega), q3.i (by omega), hm0, qb_wr_i0 hk]
          exact (gC.i (by omega)).trans (hC.i (by omega))
        · rw [hm]; exact qb_ui_1s
        · rw [hm, qb_ui_1n (by omega), qb_ui_1n (by omega), hm2, qb_ui_1n (by omega), qb_ui_1n (by omega)]; exact qb_ui_1s
        · rw [hm, qb_ui_1n (by omega), qb_ui_1n (by omega), hm2, qb_ui_1n (by omega)]; exact qb_ui_1s
        · rw [hm, qb_ui_1n (by omega), qb_ui_1n (by omega), hm2]; exact qb_ui_1s
        · rw [hm, qb_ui_1n (by omega)]; exact qb_ui_1s
        · rw [g3.i (by omega), q3.i (by omega), g0.i (by omega)]
          exact h22
        · rw [g3.i (by omega), q3.i (by omega), g0.i (by omega)]
          exact h1910
        · exact (gC.mo (fun x k h => by unfold kT; omega)).tr ((g0.mo (fun x k h => by unfold kT; omega)).tr ((q3.mo (fun x k h => by unfold kT; omega)).tr (g3.mo (fun x k h => by unfold kT; omega))))
      have hbk : ∀ U m : qb_M, (∀ k, U.1 191 k = T.1 191 k) → U.1 192 39 = 1 → (∀ k, U.1 210 k = m.1 210 k) → (m.1 210 0 = R ∧ m.1 210 1 = nI J ∧ m.1 210 2 = nI H' ∧ m.1 210 3 = nI (qs_up (qs_so t 145))) → qZb U := fun U m u1 u2 u3 u4 => Or.inr ⟨u2, fun j hj => by
        rw [u1, u3]
        have hh : j = 0 ∨ j = 1 ∨ j = 2 ∨ j = 3 := by omega
        rcases hh with e | e | e | e <;> subst e
        · exact toldT.1.trans u4.1.symm
        · exact toldT.2.1.trans u4.2.1.symm
        · exact toldT.2.2.1.trans u4.2.2.1.symm
        · exact toldT.2.2.2.trans u4.2.2.2.symm⟩
      by_cases hst : x = 1 ∧ 0 < J
      · obtain ⟨hrg, xx, z, hxx, hz, e1, e2, e3, h5⟩ := id h4
        obtain ⟨C, k1, k2, k3, k4, k5, k6, k7, k8⟩ := sp_settle (d + 16) T c (x := xx) (z := z) (fun i hi => (gT.p (by omega)).trans (hrg i hi)) hxx hz ((gT.i (by omega)).trans e1) ((gT.i (by omega)).trans e2)
        have gTC : qG (fun x k => 73 ≤ x ∧ x < 78 ∨ 83 ≤ x ∧ x ≤ 124) T C := fun y k hy => ⟨k8 y k (by omega), by rw [k7], by rw [k7]⟩
        have gsC : qG (fun x k => x = 65 ∧ 1 ≤ k ∧ k ≤ 10 ∨ 73 ≤ x ∧ x < 78 ∨ 83 ≤ x ∧ x ≤ 128 ∨ 133 ≤ x ∧ x ≤ 138 ∨ 145 ≤ x ∧ x < 150 ∨ x = 191) s C := (gT.mo (fun x k h => by omega)).tr (gTC.mo (fun x k h => by omega))
        obtain ⟨m, n1, n2, n3, n4, n5, n6, n7, n8⟩ := mod C ((gsC.mo (fun x k h => by omega : ∀ x k, _ → x < 192)).F)
        obtain ⟨u, u1, u2, u3, u4, u5, u6⟩ := sp_stay1 (d + 17) c m hz (by rw [n8.i (by unfold kT; omega), gsC.i (by omega)]; exact e3)
        have gCu : qG (fun x k => x = 194 ∧ 30 ≤ k ∧ k < 70 ∨ x = 192 ∧ k ≠ 27 ∧ k ≠ 30 ∧ k ≠ 31 ∧ k ≠ 34 ∨ x = 197 ∨ x = 198 ∨ x = 204 ∨ x = 209 ∨ x = 210) C u := (n8.mo (fun x k h => by unfold kT at h; omega)).tr (u6.mo (fun x k h => by omega))
        have gsu := (gsC.mo (fun x k h => Or.inl h)).tr (gCu.mo (fun x k h => Or.inr h))
        have hso : ∀ a, a + 5 ≤ 192 → qs_so u a = qs_so C a := fun a ha => qs_so_G gCu (fun x k hx => by omega)
        refine ⟨if R = 0 then -1 else nI J, C, u, enL _ ?_, n1 _ ?_, ⟨⟨qZt_0 ?_ ?_, hi0.mv gsu (by decide) (Or.inl rfl) (fun x k hx => by omega), hi1.mv gsu (by decide) (Or.inr rfl) (fun x k hx => by omega), hsl.mv gsu (fun x k hx => by omega), hbk u m (fun k => (gCu.i (by omega)).trans (gTC.i (by omega))) ((u6.i (by omega)).trans n4) (fun k => u6.i (by omega)) n5, ⟨?_, ?_, ?_, ?_⟩⟩, nw, nm, ns, V, F0, lo, hi, se, h1.mv gsu (fun x k hx => by omega) (fun k _ _ => by omega) (fun k _ _ => by omega), ⟨?_, H', X', J', Lf', Sh', ?_⟩, h3.mv gsu (fun x k hx => by omega) (fun k _ _ => by omega), qZk_new (s := s) (t := C) hxx hz (fun i hi => (gCu.p (by omega)).trans (by rw [k7]; exact (gT.p (by omega)).trans (hrg i hi))) h5 h2 (fun k hk => ?_) (fun y hy hyx k hk => ?_) ((gCu.i (by omega)).trans k5) ((gCu.i (by omega)).trans k6) u3 (fun k hk => (u4 k hk).trans (n3 k hk)) (fun j hj k hk => ?_)⟩⟩
        · refine go_ild_4_1 rfl ?_
          refine go_c rfl ?_
          refine go_icne rfl (fun e => ?_) (fun e => ?_)
          · refine go_ald_4_0 rfl ?_
            refine go_getr rfl ⟨_, rfl, rfl, by decide, by decide⟩ ?_
            refine go_geti rfl ⟨_, rfl, rfl, by decide, by decide⟩ ?_
            rw [hJT]
            refine go_ifle rfl (fun e2 => ?_) (fun e2 => ?_)
            · exact absurd e2 (nI_nle (by omega) (by omega))
            · refine go_ald_4_0 rfl ?_
              refine go_call1 rfl (k1) (Nat.le_of_ble_eq_true rfl) (qb_qv rfl (by decide) (by decide)) ?_
              exact fin C ((gTC.i (by omega)).trans hJT)
          · exact absurd hst.1 e
        · refine go_ald_4_0 rfl ?_
          refine go_ild_4_1 rfl ?_
          refine go_c rfl ?_
          refine go_icne rfl (fun e => ?_) (fun e => ?_)
          · refine go_ild_4_2 rfl ?_
            refine go_ifle rfl (fun e2 => ?_) (fun e2 => ?_)
            · exact absurd e2 (nI_nle (by omega) (by omega))
            · refine go_c rfl ?_
              refine go_goto rfl ?_
              refine go_call2 rfl (u1) (Nat.le_of_ble_eq_true rfl) (qb_qv rfl (by decide) (by decide)) ?_
              exact finM u
          · exact absurd hst.1 e
        · exact (gCu.i (by omega)).trans ((gTC.i (by omega)).trans h651)
        · exact (u6.i (by omega)).trans n6
        · rw [gsu.i (by omega), gsu.i (by omega)]; exact hr.1
        · rw [gsu.i (by omega), gsu.i (by omega)]; exact hr.2.1
        · rw [gsu.i (by omega), gsu.i (by omega)]; exact hr.2.2.1
        · rw [gCu.i (by omega), gTC.i (by omega), h652T, u6.i (by omega), n7]
        · rw [hso 73 (by decide)]
          exact pR.ex (fun k hk => (k3 k hk).trans (by rw [soT])) (fun k hk => (u2 k hk).trans (by rw [n2]))
        · exact pI.ex (fun k hk => (u2 k hk).trans (by rw [n2]))
        · rw [hso _ (by omega), k2 k hk, qs_so_G gT (fun x k hx => by omega)]
        · rw [hso _ (by omega), k4 y hy hyx k, qs_so_G gT (fun x k hx => by omega)]
        · refine (u5 j hj k hk).trans ?_
          exact (n8.i (by unfold kT; omega)).trans (gsC.i (by omega))
      · obtain ⟨m, n1, n2, n3, n4, n5, n6, n7, n8⟩ := mod T ((gT.mo (fun x k h => by omega : ∀ x k, _ → x < 192)).F)
        obtain ⟨u, u1, u2, u3⟩ := sp_stay0 (d + 18) c m
        have gCu : qG (fun x k => x = 194 ∧ 30 ≤ k ∧ k < 70 ∨ x = 192 ∧ k ≠ 24 ∧ k ≠ 27 ∧ k ≠ 30 ∧ k ≠ 31 ∧ k ≠ 34 ∨ x = 198 ∨ x = 204 ∨ x = 209 ∨ x = 210) T u := (n8.mo (fun x k h => by unfold kT at h; omega)).tr (u3.mo (fun x k h => by omega))
        have gsu := (gT.mo (fun x k h => Or.inl h)).tr (gCu.mo (fun x k h => Or.inr h))
        refine ⟨if R = 0 then -1 else nI J, T, u, enL _ ?_, n1 _ ?_, ⟨⟨qZt_0 ?_ ?_, hi0.mv gsu (by decide) (Or.inl rfl) (fun x k hx => by omega), hi1.mv gsu (by decide) (Or.inr rfl) (fun x k hx => by omega), hsl.mv gsu (fun x k hx => by omega), hbk u m (fun k => gCu.i (by omega)) ((u3.i (by omega)).trans n4) (fun k => u3.i (by omega)) n5, ⟨?_, ?_, ?_, ?_⟩⟩, nw, nm, ns, V, F0, lo, hi, se, h1.mv gsu (fun x k hx => by omega) (fun k _ _ => by omega) (fun k _ _ => by omega), h2.ex (fun k hk => by rw [qs_so_G gsu (fun x k hx => by omega)]) (fun k hk => (u2 k hk).trans (n3 k hk)), h3.mv gsu (fun x k hx => by omega) (fun k _ _ => by omega), h4.mv gsu (fun x k hx => by omega)⟩⟩
        · refine go_ild_4_1 rfl ?_
          refine go_c rfl ?_
          refine go_icne rfl (fun e => ?_) (fun e => ?_)
          · refine go_ald_4_0 rfl ?_
            refine go_getr rfl ⟨_, rfl, rfl, by decide, by decide⟩ ?_
            refine go_geti rfl ⟨_, rfl, rfl, by decide, by decide⟩ ?_
            rw [hJT]
            refine go_ifle rfl (fun e2 => ?_) (fun e2 => ?_)
            · exact fin T hJT
            · exact absurd ⟨e, Classical.byContradiction fun z => e2 ((nI_leI (b := 0) (by omega) (by decide)).mpr (by omega))⟩ hst
          · exact fin T hJT
        · have go : ∀ R', qa_lm (qe (d + 19)) (qa_cd qc_269) (163, [.ref 192, .int x, .int (nI J), .int R], [], (qb_hp (u), 149, c)) = R' → qa_lm (qe (d + 19)) (qa_cd qc_269) (145, [.ref 192, .int x, .int (nI J), .int R], [], (qb_hp (m), 149, c)) = R' := fun R' hR' => by
            refine go_ald_4_0 rfl ?_
            refine go_ild_4_1 rfl ?_
            refine go_c rfl ?_
            refine go_icne rfl (fun e => ?_) (fun e => ?_)
            · refine go_ild_4_2 rfl ?_
              refine go_ifle rfl (fun e2 => ?_) (fun e2 => ?_)
              · refine go_c rfl ?_
                refine go_call2 rfl (u1) (Nat.le_of_ble_eq_true rfl) (qb_qv rfl (by decide) (by decide)) ?_
                exact hR'
              · exact absurd ⟨e, Classical.byContradiction fun z => e2 ((nI_leI (b := 0) (by omega) (by decide)).mpr (by omega))⟩ hst
            · refine go_c rfl ?_
              refine go_call2 rfl (u1) (Nat.le_of_ble_eq_true rfl) (qb_qv rfl (by decide) (by decide)) ?_
              exact hR'
          exact go _ (finM u)
        · exact (gCu.i (by omega)).trans h651
        · exact (u3.i (by omega)).trans n6
        · rw [gsu.i (by omega), gsu.i (by omega)]; exact hr.1
        · rw [gsu.i (by omega), gsu.i (by omega)]; exact hr.2.1
        · rw [gsu.i (by omega), gsu.i (by omega)]; exact hr.2.2.1
        · rw [gCu.i (by omega), h652T, u3.i (by omega), n7]
    · obtain ⟨s1, hs1⟩ : ∃ s1, s1 = qb_ui (qj M' s) 65 1 0 := ⟨_, rfl⟩
      have gMM : qG (fun x k => x = 65 ∧ 2 ≤ k ∧ k ≤ 10 ∨ 133 ≤ x ∧ x ≤ 138 ∨ x = 192 ∧ (k = 0 ∨ 2 ≤ k ∧ k ≤ 13 ∨ k = 38) ∨ x = 209) s M' := (gM0.mo (fun x k h => by omega)).tr (o5.mo (fun x k h => by unfold kM kG kF at h; omega))
      have g1 : qG (fun x k => x = 65 ∧ 1 ≤ k ∧ k ≤ 10 ∨ 133 ≤ x ∧ x ≤ 138) s s1 := by
        rw [hs1]
        refine qG.ui (fun x k h => ?_) (by omega)
        by_cases hx : x < 192
        · rw [qj_i hx, qj_l hx, qj_p hx]
          exact gMM x k (by omega)
        · rw [qj_I hx, qj_L hx, qj_P hx]
          exact ⟨rfl, rfl, rfl⟩
      have hj1 : qj s1 s = s1 := qj_of ((g1.mo (fun x k h => by omega : ∀ x k, _ → x < 192)).F)
      have h22 : M'.1 192 2 = 0 := (o5.i (by unfold kM kG kF; omega)).trans ((gB2.i (by omega)).trans b4)
      refine ⟨-2 - nI pl, s1, qj s1 M', enB _ ?_, ?_, qZ_ans hZ ((qj_G g1 gMM).mo (fun x k h => by unfold qA_P; omega)) (qZt_0 ?_ h22) ⟨?_, ?_, ?_, ?_⟩⟩
      · have hrd := enC s _ (o1 s)
        rw [qj_self] at hrd
        refine go_ald_4_0 rfl ?_
        refine go_getr rfl ⟨_, rfl, rfl, by decide, by decide⟩ ?_
        refine go_ald_4_0 rfl ?_
        refine go_getr rfl ⟨_, rfl, rfl, by decide, by decide⟩ ?_
        refine go_ald_4_0 rfl ?_
        refine go_getr rfl ⟨_, rfl, rfl, by decide, by decide⟩ ?_
        refine go_call3 rfl (hrd) (Nat.le_of_ble_eq_true rfl) (qb_qv rfl (by decide) (by decide)) ?_
        refine go_ist_4_2 rfl rfl ?_
        refine go_ald_4_0 rfl ?_
        refine go_getr rfl ⟨_, rfl, rfl, by decide, by decide⟩ ?_
        refine go_c rfl ?_
        refine go_puti rfl ⟨_, rfl, rfl, by decide, by decide⟩ rfl rfl ?_
        rw [← hs1]
        refine go_ild_4_2 rfl ?_
        refine go_ifne rfl (fun e => ?_) (fun e => ?_)
        · refine go_c rfl ?_
          refine go_ald_4_0 rfl ?_
          refine go_getr rfl ⟨_, rfl, rfl, by decide, by decide⟩ ?_
          refine go_geti rfl ⟨_, rfl, rfl, by decide, by decide⟩ ?_
          rw [show s1.1 65 3 = nI pl from by rw [hs1]; exact (qb_ui_1n (by omega)).trans o3]
          refine go_isub rfl ?_
          exact fin_i rfl rfl rfl
        · exact absurd rfl e
      · rw [show qe (d + 20) 269 [.ref 192, .int x] (qb_hp (s1), 149, c) = qe (d + 20) 269 [.ref 192, .int x] (qb_hp (qj s1 s), 149, c) by rw [hj1]]
        exact enM s1 _ (o2 s1)
      · show s1.1 65 1 = 0
        rw [hs1]; exact qb_ui_1s
      · show s1.1 64 15 = M'.1 192 27
        rw [g1.i (by omega), gMM.i (by omega)]
        exact hr.1
      · show s1.1 64 16 = M'.1 192 30
        rw [g1.i (by omega), gMM.i (by omega)]
        exact hr.2.1
      · show s1.1 64 17 = M'.1 192 31
        rw [g1.i (by omega), gMM.i (by omega)]
        exact hr.2.2.1
      · show s1.1 65 2 = M'.1 192 10
        rw [hs1, qb_ui_1n (by omega)]
        exact o4
  · refine ⟨-1000, s, qb_ui s 192 0 0, ?_, ?_, hZ.thr 0⟩
    · refine (en_130 (d + 19) 64 x _).trans ?_
      refine go_ild_4_1 rfl ?_
      refine go_ifeq rfl (fun e => ?_) (fun e => ?_)
      · exact absurd (Or.inl e) hx
      · refine go_ild_4_1 rfl ?_
        refine go_c rfl ?_
        refine go_iceq rfl (fun e2 => ?_) (fun e2 => ?_)
        · exact absurd (Or.inr e2) hx
        · refine go_c rfl ?_
          exact fin_i rfl rfl rfl
    · have hn : ¬ ((0 : Int32) ≤ x ∧ x ≤ 1) := fun z => hx (by
        obtain ⟨j, j1, j2, rfl⟩ := qx_in1 (a := 0) (b := 1) (by decide) z.1 z.2 (by decide)
        have : j = 0 ∨ j = 1 := by omega
        rcases this with e | e <;> subst e
        · exact Or.inl rfl
        · exact Or.inr rfl)
      refine (en_269 (d + 19) 192 x _).trans ?_
      refine go_ald_4_0 rfl ?_
      refine go_c rfl ?_
      refine go_puti rfl ⟨_, rfl, rfl, by decide, by decide⟩ rfl rfl ?_
      refine go_ild_4_1 rfl ?_
      refine go_c rfl ?_
      refine go_c rfl ?_
      refine go_call3 rfl (sp_isIn (d + 18) _ _ _ _) (Nat.le_of_ble_eq_true rfl) rfl ?_
      rw [qB_f hn]
      refine go_ifne rfl (fun e => ?_) (fun e => ?_)
      · refine go_c rfl ?_
        exact fin_i rfl rfl rfl
      · exact absurd rfl e

/-! key, in both -/
def ky_b (cnt : Nat → Nat) : Nat → Int32 × Int32
  | 0 => (-1, -1)
  | l + 1 => if (ky_b cnt l).1 < nI (cnt l) then (nI (cnt l), nI l) else ky_b cnt l
theorem ky_b_cong {c1 c2 : Nat → Nat} : ∀ n, (∀ l, l < n → c1 l = c2 l) → ky_b c1 n = ky_b c2 n
  | 0, _ => rfl
  | n + 1, h => by
    unfold ky_b
    rw [ky_b_cong n (fun l hl => h l (by omega)), h n (by omega)]
theorem sp_keySwitch (d : Nat) (s : qb_M) (c : Nat × Nat) {nw nm : Nat} {lo hi : Nat → Nat} (hp : qP_pl s 67 nw nm lo hi) {X J : Nat} (hX : s.1 73 5 = nI X) (hX2 : X < 2 ^ nm) (hJ : s.1 73 6 = nI J) : ∃ t, qe (d + 4) 103 [.ref 129, .ref 73] (qb_hp (s), 149, c) = some (some (.int ((ky_b (fun l => fa_cnt (df_p nw (qs_so s 73) (qm_fo (qm_S X (df_F lo hi nw nm X J (qs_so s 73))) (df_g (fun Y => !(Y ^^^ X).testBit l) (fun Y => df_pr lo hi nm Y nw)) 0 (2 ^ nm)).testBit) 64) nm).2)), (qb_hp (t), 149, c)) ∧ qF (fun x => x = 127 ∨ x = 128 ∨ x = 129 ∨ x = 131) s t := by
  have hS := qS_73
  have hok := hp.ok
  obtain ⟨p1, p2, ⟨p3, p4, p5⟩, p6⟩ := id hp
  have h10 : 2 ^ nm ≤ 2 ^ 10 := Nat.pow_le_pow_right (by decide) p5
  obtain ⟨F, hF⟩ : ∃ F, F = df_F lo hi nw nm X J (qs_so s 73) := ⟨_, rfl⟩
  rw [← hF]
  obtain ⟨K, hK⟩ : ∃ K : Nat → Nat → Nat, ∀ j l, K j l = qm_fo (qm_S X F) (df_g (fun Y => !(Y ^^^ X).testBit l) (fun Y => df_pr lo hi nm Y nw)) 0 (qm_yy nm X F j) := ⟨_, fun _ _ => rfl⟩
  have hK0 : ∀ l, K 0 l = 0 := fun l => by rw [hK]; exact qm_sw_0 (by omega) hX2
  have hKs : ∀ j l, j < qm_N nm F → K (j + 1) l = if (qm_y nm X F j ^^^ X).testBit l = true then K j l else K j l ||| df_pr lo hi nm (qm_y nm X F j) nw := fun j l hj => by
    rw [hK, hK, qm_sw_s (by omega) hX2 hj]
    show (if (!(qm_y nm X F j ^^^ X).testBit l) = true then _ else _) = _
    by_cases q : (qm_y nm X F j ^^^ X).testBit l = true
    · rw [if_pos q, if_neg (by rw [q]; decide)]
    · rw [if_neg q, if_pos (by rw [eq_false_of_ne_true q]; rfl)]
  have hKN : ∀ l, qm_fo (qm_S X F) (df_g (fun Y => !(Y ^^^ X).testBit l) (fun Y => df_pr lo hi nm Y nw)) 0 (2 ^ nm) = K (qm_N nm F) l := fun l => by rw [hK, qm_sw_e]
  have hK64 : ∀ l, K (qm_N nm F) l < 2 ^ 64 := fun l => by rw [← hKN]; exact df_fo_lt (fun Y => qm_ac_lt _ 64) _
  have hN := qm_N_le (nm := nm) (F := F) p5
  simp only [hKN]
  obtain ⟨k, hk⟩ : ∃ k, k = ky_b (fun l => fa_cnt (df_p nw (qs_so s 73) (K (qm_N nm F) l).testBit) 64) := ⟨_, rfl⟩
  have hks : ∀ l, k (l + 1) = if (k l).1 < nI (fa_cnt (df_p nw (qs_so s 73) (K (qm_N nm F) l).testBit) 64) then (nI (fa_cnt (df_p nw (qs_so s 73) (K (qm_N nm F) l).testBit) 64), nI l) else k l := fun l => by rw [hk]; rfl
  have hk0 : k 0 = (-1, -1) := by rw [hk]; rfl
  rw [← hk]
  -- the second loop
  have two : ∀ m l (t : qb_M) (l2 : Int32) l6 l7, l + m = nm → qF (fun x => x = 127 ∨ x = 128 ∨ x = 129 ∨ x = 131) s t → (∀ x, x < nm → t.2.1 131 x = lN (K (qm_N nm F) x)) → ∃ z, qa_lm (qe (d + 3)) (qa_cd qc_103) (124, [.ref 129, .ref 73, .int l2, .int (k l).1, .int (k l).2, .int (nI l), l6, l7], [], (qb_hp (t), 149, c)) = some (some (.int ((k nm).2)), (qb_hp (z), 149, c)) ∧ qF (fun x => x = 127 ∨ x = 128 ∨ x = 129 ∨ x = 131) s z := by
    intro m
    induction m with
    | zero =>
      intro l t l2 l6 l7 hl hf hm
      have hl : l = nm := by omega
      subst hl
      refine ⟨t, ?_, hf⟩
      refine go_ild_8_5 rfl ?_
      refine go_ald_8_0 rfl ?_
      refine go_getr rfl ⟨_, rfl, rfl, by decide, by decide⟩ ?_
      refine go_geti rfl ⟨_, rfl, rfl, by decide, by decide⟩ ?_
      rw [show t.1 67 6 = nI l from (hf.i (by decide)).trans p2]
      refine go_icge rfl (fun e => ?_) (fun e => ?_)
      · refine go_ild_8_4 rfl ?_
        exact fin_i rfl rfl rfl
      · exact absurd (Int32.le_refl _) e
    | succ m ih =>
      intro l t l2 l6 l7 hl hf hm
      have hpt : qP_pl t 67 nw nm lo hi := hp.mv hf (by decide) (by decide) (by decide)
      obtain ⟨v, b1, b2, b3⟩ := sp_countDeaf d t c hpt (K (qm_N nm F) l) (hK64 l)
      rw [show qs_so t 73 = qs_so s 73 from qs_so_F hf (fun k hk => by omega)] at b1
      have hs := hks l
      have hfv : qF (fun x => x = 127 ∨ x = 128 ∨ x = 129 ∨ x = 131) s v := hf.tr ((b3.mo (fun x k h => by omega : ∀ x k, _ → (x = 127 ∨ x = 128 ∨ x = 129 ∨ x = 131))).F)
      have hmv : ∀ x, x < nm → v.2.1 131 x = lN (K (qm_N nm F) x) := fun x hx => (b3.l (by omega)).trans (hm x hx)
      generalize fa_cnt (df_p nw (qs_so s 73) (K (qm_N nm F) l).testBit) 64 = C at b1 hs
      by_cases hc : (k l).1 < nI C
      · rw [if_pos hc] at hs
        obtain ⟨z, z1, z2⟩ := ih (l + 1) v l2 (.int (nI C)) l7 (by omega) hfv hmv
        refine ⟨z, ?_, z2⟩
        rw [hs] at z1
        refine go_ild_8_5 rfl ?_
        refine go_ald_8_0 rfl ?_
        refine go_getr rfl ⟨_, rfl, rfl, by decide, by decide⟩ ?_
        refine go_geti rfl ⟨_, rfl, rfl, by decide, by decide⟩ ?_
        rw [show t.1 67 6 = nI nm from (hf.i (by decide)).trans p2]
        refine go_icge rfl (fun e => ?_) (fun e => ?_)
        · exact absurd e (nI_ge (by omega) (by omega))
        · refine go_ald_8_0 rfl ?_
          refine go_ald_8_1 rfl ?_
          refine go_ald_8_0 rfl ?_
          refine go_getr rfl ⟨_, rfl, rfl, by decide, by decide⟩ ?_
          refine go_ild_8_5 rfl ?_
          refine go_lald (j := l) rfl (⟨rfl, by decide, by decide, by decide⟩) (rfl) (by omega) ?_
          rw [hm l (by omega)]
          refine go_call3 rfl (b1) (Nat.le_of_ble_eq_true rfl) (qb_qv rfl (by decide) (by decide)) ?_
          refine go_ist_8_6 rfl rfl ?_
          refine go_ild_8_6 rfl ?_
          refine go_ild_8_3 rfl ?_
          refine go_icle rfl (fun e2 => ?_) (fun e2 => ?_)
          · exact absurd hc (Int32.not_lt.mpr e2)
          · refine go_ild_8_6 rfl ?_
            refine go_ist_8_3 rfl rfl ?_
            refine go_ild_8_5 rfl ?_
            refine go_ist_8_4 rfl rfl ?_
            refine go_inc_8_5 rfl rfl ?_
            refine go_goto rfl ?_
            rw [nI_1]
            exact z1
      · rw [if_neg hc] at hs
        obtain ⟨z, z1, z2⟩ := ih (l + 1) v l2 (.int (nI C)) l7 (by omega) hfv hmv
        refine ⟨z, ?_, z2⟩
        rw [hs] at z1
        refine go_ild_8_5 rfl ?_
        refine go_ald_8_0 rfl ?_
        refine go_getr rfl ⟨_, rfl, rfl, by decide, by decide⟩ ?_
        refine go_geti rfl ⟨_, rfl, rfl, by decide, by decide⟩ ?_
        rw [show t.1 67 6 = nI nm from (hf.i (by decide)).trans p2]
        refine go_icge rfl (fun e => ?_) (fun e => ?_)
        · exact absurd e (nI_ge (by omega) (by omega))
        · refine go_ald_8_0 rfl ?_
          refine go_ald_8_1 rfl ?_
          refine go_ald_8_0 rfl ?_
          refine go_getr rfl ⟨_, rfl, rfl, by decide, by decide⟩ ?_
          refine go_ild_8_5 rfl ?_
          refine go_lald (j := l) rfl (⟨rfl, by decide, by decide, by decide⟩) (rfl) (by omega) ?_
          rw [hm l (by omega)]
          refine go_call3 rfl (b1) (Nat.le_of_ble_eq_true rfl) (qb_qv rfl (by decide) (by decide)) ?_
          refine go_ist_8_6 rfl rfl ?_
          refine go_ild_8_6 rfl ?_
          refine go_ild_8_3 rfl ?_
          refine go_icle rfl (fun e2 => ?_) (fun e2 => ?_)
          · refine go_inc_8_5 rfl rfl ?_
            refine go_goto rfl ?_
            rw [nI_1]
            exact z1
          · exact absurd (Int32.not_le.mp e2) hc
  obtain ⟨u, hu⟩ : ∃ u, u = qb_wl s 131 0 10 (fun _ => 0) := ⟨_, rfl⟩
  have fu : qF (fun x => x = 127 ∨ x = 128 ∨ x = 129 ∨ x = 131) s u := by
    rw [hu]
    exact fun x hx => ⟨rfl, funext fun j => qb_wl_o (Or.inl (fun z => hx (by omega))), rfl⟩
  have hul : ∀ w, w < nm → u.2.1 131 w = lN (K 0 w) := fun w hw => by
    rw [hu, hK0]
    have := qb_wl_in (s := s) (a := 131) (i := 0) (n := 10) (k := w) (g := fun _ => 0) (by omega)
    rw [Nat.zero_add] at this
    rw [this]
    rfl
  have hpu : qP_pl u 67 nw nm lo hi := hp.mv fu (by decide) (by decide) (by decide)
  obtain ⟨t, k1, k2, k3⟩ := sp_start (d + 1) u c hpu X F hX2
  have loop : ∀ m j (t : qb_M) l4 l5 l6 l7, j + m = qm_N nm F → qW t nm lo hi X F j → qF (fun x => x = 127 ∨ x = 128 ∨ x = 129 ∨ x = 131) s t → (∀ x, x < nm → t.2.1 131 x = lN (K j x)) → ∃ z, qa_lm (qe (d + 3)) (qa_cd qc_103) (35, [.ref 129, .ref 73, .int (nI (qm_N nm F)), .int (nI j), l4, l5, l6, l7], [], (qb_hp (t), 149, c)) = some (some (.int ((k nm).2)), (qb_hp (z), 149, c)) ∧ qF (fun x => x = 127 ∨ x = 128 ∨ x = 129 ∨ x = 131) s z := by
    intro m
    induction m with
    | zero =>
      intro j t l4 l5 l6 l7 hj hW hf hm
      have hj : j = qm_N nm F := by omega
      rw [hj] at hm
      obtain ⟨z, z1, z2⟩ := two nm 0 t (nI (qm_N nm F)) l6 l7 (by omega) hf hm
      refine ⟨z, ?_, z2⟩
      rw [hk0] at z1
      refine go_ild_8_3 rfl ?_
      refine go_ild_8_2 rfl ?_
      refine go_icge rfl (fun e => ?_) (fun e => ?_)
      · refine go_c rfl ?_
        refine go_ist_8_3 rfl rfl ?_
        refine go_c rfl ?_
        refine go_ist_8_4 rfl rfl ?_
        refine go_c rfl ?_
        refine go_ist_8_5 rfl rfl ?_
        exact z1
      · exact absurd (by rw [hj]; exact Int32.le_refl _) e
    | succ m ih =>
      intro j t l4 l5 l6 l7 hj hW hf hm
      have hpt : qP_pl t 67 nw nm lo hi := hp.mv hf (by decide) (by decide) (by decide)
      obtain ⟨w1, w2, w3, w4⟩ := id hW
      have hylt := qm_y_lt (nm := nm) (X := X) (F := F) (i := j)
      have hxl : qm_y nm X F j ^^^ X < 2 ^ nm := Nat.xor_lt_two_pow hylt hX2
      have inner : ∀ m2 l (t : qb_M), l + m2 = nm → qW t nm lo hi X F j → qF (fun x => x = 127 ∨ x = 128 ∨ x = 129 ∨ x = 131) s t → (∀ x, x < nm → t.2.1 131 x = lN (K (if x < l then j + 1 else j) x)) → ∃ z, qa_lm (qe (d + 3)) (qa_cd qc_103) (63, [.ref 129, .ref 73, .int (nI (qm_N nm F)), .int (nI j), .int (nI (qm_y nm X F j ^^^ X)), .long (lN (df_pr lo hi nm (qm_y nm X F j) nw)), .retAddr 0, .int (nI l)], [], (qb_hp (t), 149, c)) = some (some (.int ((k nm).2)), (qb_hp (z), 149, c)) ∧ qF (fun x => x = 127 ∨ x = 128 ∨ x = 129 ∨ x = 131) s z := by
        intro m2
        induction m2 with
        | zero =>
          intro l t hl hW hf hm
          have hl : l = nm := by omega
          have hpt : qP_pl t 67 nw nm lo hi := hp.mv hf (by decide) (by decide) (by decide)
          obtain ⟨t2, a1, a2, a3⟩ := sp_advance (d + 1) t c hpt X F j hW
          obtain ⟨z, z1, z2⟩ := ih (j + 1) t2 (.int (nI (qm_y nm X F j ^^^ X))) (.long (lN (df_pr lo hi nm (qm_y nm X F j) nw))) (.retAddr 0) (.int (nI l)) (by omega) a2 (hf.tr (a3.mo (fun x h => by omega))) (fun x hx => by rw [a3.l (by decide), hm x hx, if_pos (by omega)])
          refine ⟨z, ?_, z2⟩
          refine go_ild_8_7 rfl ?_
          refine go_ald_8_0 rfl ?_
          refine go_getr rfl ⟨_, rfl, rfl, by decide, by decide⟩ ?_
          refine go_geti rfl ⟨_, rfl, rfl, by decide, by decide⟩ ?_
          rw [show t.1 67 6 = nI nm from (hf.i (by decide)).trans p2]
          refine go_icge rfl (fun e => ?_) (fun e => ?_)
          · refine go_ald_8_0 rfl ?_
            refine go_getr rfl ⟨_, rfl, rfl, by decide, by decide⟩ ?_
            refine go_call1 rfl (a1) (Nat.le_of_ble_eq_true rfl) (qb_qv rfl (by decide) (by decide)) ?_
            refine go_inc_8_3 rfl rfl ?_
            refine go_goto rfl ?_
            rw [nI_1]
            exact z1
          · exact absurd (by rw [hl]; exact Int32.le_refl _) e
        | succ m2 ih2 =>
          intro l t hl hW hf hm
          have hml := hm l (by omega)
          rw [if_neg (Nat.lt_irrefl l)] at hml
          have hs := hKs j l (by omega)
          have hbit := qx_bit (X := qm_y nm X F j ^^^ X) (k := l) (by omega) (by omega)
          by_cases hb : (qm_y nm X F j ^^^ X).testBit l = true
          · rw [if_pos hb] at hs
            obtain ⟨z, z1, z2⟩ := ih2 (l + 1) t (by omega) hW hf (fun x hx => by
              rw [hm x hx]
              by_cases e : x = l
              · subst e
                rw [if_neg (Nat.lt_irrefl x), if_pos (Nat.lt_succ_self x), hs]
              · by_cases e2 : x < l
                · rw [if_pos e2, if_pos (by omega)]
                · rw [if_neg e2, if_neg (by omega)])
            refine ⟨z, ?_, z2⟩
            refine go_ild_8_7 rfl ?_
            refine go_ald_8_0 rfl ?_
            refine go_getr rfl ⟨_, rfl, rfl, by decide, by decide⟩ ?_
            refine go_geti rfl ⟨_, rfl, rfl, by decide, by decide⟩ ?_
            rw [show t.1 67 6 = nI nm from (hf.i (by decide)).trans p2]
            refine go_icge rfl (fun e => ?_) (fun e => ?_)
            · exact absurd e (nI_ge (by omega) (by omega))
            · refine go_ild_8_4 rfl ?_
              refine go_ild_8_7 rfl ?_
              refine go_ishr rfl ?_
              refine go_c rfl ?_
              refine go_iand rfl ?_
              rw [hbit]
              refine go_ifne rfl (fun e2 => ?_) (fun e2 => ?_)
              · exact absurd hb (qx_bit0.mp e2)
              · refine go_inc_8_7 rfl rfl ?_
                refine go_goto rfl ?_
                rw [nI_1]
                exact z1
          · rw [if_neg hb] at hs
            obtain ⟨z, z1, z2⟩ := ih2 (l + 1) (qb_ul t 131 l (lN (K (j + 1) l))) (by omega) hW (hf.ul (by decide)) (fun x hx => by
              by_cases e : x = l
              · subst e
                rw [if_pos (Nat.lt_succ_self x)]
                exact qb_ul_1s
              · rw [qb_ul_1n (Or.inr e), hm x hx]
                by_cases e2 : x < l
                · rw [if_pos e2, if_pos (by omega)]
                · rw [if_neg e2, if_neg (by omega)])
            refine ⟨z, ?_, z2⟩
            rw [hs] at z1
            refine go_ild_8_7 rfl ?_
            refine go_ald_8_0 rfl ?_
            refine go_getr rfl ⟨_, rfl, rfl, by decide, by decide⟩ ?_
            refine go_geti rfl ⟨_, rfl, rfl, by decide, by decide⟩ ?_
            rw [show t.1 67 6 = nI nm from (hf.i (by decide)).trans p2]
            refine go_icge rfl (fun e => ?_) (fun e => ?_)
            · exact absurd e (nI_ge (by omega) (by omega))
            · refine go_ild_8_4 rfl ?_
              refine go_ild_8_7 rfl ?_
              refine go_ishr rfl ?_
              refine go_c rfl ?_
              refine go_iand rfl ?_
              rw [hbit]
              refine go_ifne rfl (fun e2 => ?_) (fun e2 => ?_)
              · refine go_ald_8_0 rfl ?_
                refine go_getr rfl ⟨_, rfl, rfl, by decide, by decide⟩ ?_
                refine go_ild_8_7 rfl ?_
                refine go_dup2 rfl ?_
                refine go_lald (j := l) rfl (⟨rfl, by decide, by decide, by decide⟩) (rfl) (by omega) ?_
                rw [hml]
                refine go_lld_8_5 rfl ?_
                refine go_lor rfl ?_
                rw [fb_orL]
                refine go_last (j := l) rfl (⟨rfl, by decide, by decide, by decide⟩) (rfl) (by omega) ?_
                refine go_inc_8_7 rfl rfl ?_
                refine go_goto rfl ?_
                rw [nI_1]
                exact z1
              · exact absurd (qx_bit0.mpr hb) e2
      obtain ⟨z, z1, z2⟩ := inner nm 0 t (by omega) hW hf (fun x hx => by rw [if_neg (Nat.not_lt_zero x)]; exact hm x hx)
      refine ⟨z, ?_, z2⟩
      refine go_ild_8_3 rfl ?_
      refine go_ild_8_2 rfl ?_
      refine go_icge rfl (fun e => ?_) (fun e => ?_)
      · exact absurd e (nI_ge (by omega) (by omega))
      · refine go_ald_8_0 rfl ?_
        refine go_getr rfl ⟨_, rfl, rfl, by decide, by decide⟩ ?_
        refine go_geti rfl ⟨_, rfl, rfl, by decide, by decide⟩ ?_
        refine go_ald_8_1 rfl ?_
        refine go_geti rfl (qS_f hS rfl) ?_
        rw [w3, show t.1 73 5 = nI X from (hf.i (by decide)).trans hX]
        refine go_ixor rfl ?_
        rw [fb_xorI]
        refine go_ist_8_4 rfl rfl ?_
        refine go_ald_8_0 rfl ?_
        refine go_call1 rfl (sp_pairsNow (d + 1) t c hpt (qm_y nm X F j) (w4 0 (Nat.le_refl _) (Nat.zero_le _))) (Nat.le_of_ble_eq_true rfl) (qb_qv rfl (by decide) (by decide)) ?_
        refine go_lst_8_5 rfl rfl ?_
        refine go_c rfl ?_
        refine go_ist_8_7 rfl rfl ?_
        exact z1
  obtain ⟨z, z1, z2⟩ := loop (qm_N nm F) 0 t (.retAddr 0) (.retAddr 0) (.retAddr 0) (.retAddr 0) (by omega) k2 (fu.tr (k3.mo (fun x h => by omega))) (fun x hx => (k3.l (by decide)).trans (hul x hx))
  refine ⟨z, ?_, z2⟩
  have hfl := sp_fillL (d + 2) s c (a := 131) (N := 10) ⟨rfl, by decide, by decide, by decide⟩ 0
  rw [← hu] at hfl
  have hXu : u.1 73 5 = nI X := (fu.i (by decide)).trans hX
  have hin := sp_inUse d u c qS_73 hpu hXu (by omega)
  rw [show qs_so u 73 = qs_so s 73 from qs_so_F fu (fun k hk => by omega)] at hin
  refine (en_103 (d + 3) 129 73 _).trans ?_
  refine go_ald_8_0 rfl ?_
  refine go_getr rfl ⟨_, rfl, rfl, by decide, by decide⟩ ?_
  refine go_c rfl ?_
  refine go_call2 rfl (hfl) (Nat.le_of_ble_eq_true rfl) rfl ?_
  refine go_ald_8_0 rfl ?_
  refine go_getr rfl ⟨_, rfl, rfl, by decide, by decide⟩ ?_
  refine go_ald_8_1 rfl ?_
  refine go_geti rfl (qS_f hS rfl) ?_
  rw [hXu]
  refine go_ald_8_1 rfl ?_
  refine go_geti rfl (qS_f hS rfl) ?_
  rw [show u.1 73 6 = nI J from (fu.i (by decide)).trans hJ]
  refine go_ald_8_0 rfl ?_
  refine go_getr rfl ⟨_, rfl, rfl, by decide, by decide⟩ ?_
  refine go_ald_8_1 rfl ?_
  refine go_call2 rfl (hin) (Nat.le_of_ble_eq_true rfl) (qb_qv rfl (by decide) (by decide)) ?_
  refine go_ior rfl ?_
  rw [fa_or, show J ||| qk_F 0 (fun c => qm_ac (qm_th lo hi X c) nm) (qs_on (qs_so s 73)) nw = F from hF.symm]
  refine go_call3 rfl (k1) (Nat.le_of_ble_eq_true rfl) (qb_qv rfl (by decide) (by decide)) ?_
  refine go_ist_8_2 rfl rfl ?_
  refine go_c rfl ?_
  refine go_ist_8_3 rfl rfl ?_
  exact z1
theorem qT_key (d : Nat) : qT (d + 20) 102 247 [] := fun s c hZ => by
  obtain ⟨⟨hT, _, _, _, _, hr⟩, nw, nm, ns, V, F0, lo, hi, se, h1, h2, h3, h4⟩ := id hZ
  obtain ⟨hR, H, X, J, Lf, Sh, hI⟩ := id h2
  have hok := h1.c.ok
  have hn8 : nw ≤ 8 := h1.1.2.1
  have hm10 : nm ≤ 10 := h1.1.2.2.1
  have hIc := hR.in hI
  have hX5 : s.1 73 5 = nI X := by rw [← qs_so_h (s := s) (a := 73) (k := 1) (by decide)]; exact hIc.2.1.1
  have hJ5 : s.1 73 6 = nI J := by rw [← qs_so_h (s := s) (a := 73) (k := 2) (by decide)]; exact hIc.2.2.1.1
  obtain ⟨t, a1, a2⟩ := sp_keySwitch (d + 15) s c h1.c hX5 hI.2.1.2 hJ5
  rw [df_F_R (g := qm_so s) (fun w hw => hR.on (by omega))] at a1
  obtain ⟨cnt, hcnt⟩ : ∃ cnt : Nat → Nat, cnt = fun l => fa_cnt (df_p nw (qm_so s) (fun j => (df_C lo hi nm (qm_S X (df_F lo hi nw nm X (J ||| 2 ^ l) (qm_so s))) (2 ^ nm) (j / 8)).testBit (j % 8))) 64 := ⟨_, rfl⟩
  rw [ky_b_cong (c2 := cnt) nm (fun l hl => by
    rw [hcnt]
    refine congrArg (fun p => fa_cnt p 64) (df_p_cong hn8 (fun i o hi0 _ => hR.bz (by omega)) (fun i o hi0 ho => ?_))
    rw [show (8 * i + o) / 8 = i by omega, show (8 * i + o) % 8 = o by omega, Bool.eq_iff_iff]
    unfold df_C
    rw [df_fo, df_fo]
    have hbit : ∀ Y, qm_S X (df_F lo hi nw nm X (J ||| 2 ^ l) (qm_so s)) Y = true ↔ qm_S X (df_F lo hi nw nm X J (qm_so s)) Y = true ∧ (!(Y ^^^ X).testBit l) = true := fun Y => by
      rw [df_S, df_S]
      have : qm_S X (J ||| 2 ^ l) Y = true ↔ qm_S X J Y = true ∧ (!(Y ^^^ X).testBit l) = true := by
        rw [qm_S_bit, qm_S_bit, Bool.not_eq_true', Nat.testBit_xor]
        constructor
        · intro h
          refine ⟨fun j hj => h j (by rw [Nat.testBit_or, hj]; rfl), ?_⟩
          rw [h l (by rw [Nat.testBit_or, Nat.testBit_two_pow_self, Bool.or_true])]
          exact Bool.xor_self _
        · rintro ⟨h1, h2⟩ j hj
          rw [Nat.testBit_or, Bool.or_eq_true, Nat.testBit_two_pow, decide_eq_true_eq] at hj
          rcases hj with hj | hj
          · exact h1 j hj
          · subst hj
            revert h2
            cases Y.testBit l <;> cases X.testBit l <;> decide
      rw [this]
      constructor
      · rintro ⟨⟨a, b⟩, c⟩; exact ⟨⟨a, c⟩, b⟩
      · rintro ⟨⟨a, c⟩, b⟩; exact ⟨⟨a, b⟩, c⟩
    constructor
    · rintro ⟨Y, y1, y2, y3, y4⟩
      refine ⟨Y, y1, (hbit Y).mpr ⟨y2, y3⟩, rfl, ?_⟩
      rw [(df_pr_bit hi0 hn8 (by omega)).mp y4, Nat.testBit_two_pow]
      exact decide_eq_true rfl
    · rintro ⟨Y, y1, y2, _, y4⟩
      obtain ⟨y5, y6⟩ := (hbit Y).mp y2
      refine ⟨Y, y1, y5, y6, (df_pr_bit hi0 hn8 (by omega)).mpr ?_⟩
      rw [Nat.testBit_two_pow, decide_eq_true_eq] at y4
      exact y4)] at a1
  have ft : qF (fun x => x < 193) s (qb_ui t 192 0 0) := (a2.mo (fun x h => by omega)).ui (by decide)
  have loop : ∀ m l (v : qb_M) l4, l + m = nm → qF (fun x => x = 204 ∨ x = 206) (qb_ui t 192 0 0) v → ∃ z, qa_lm (qe (d + 19)) (qa_cd qc_247) (11, [.ref 192, .int (ky_b cnt l).2, .int (ky_b cnt l).1, .int (nI l), l4], [], (qb_hp (v), 149, c)) = some (some (.int ((ky_b cnt nm).2)), (qb_hp (z), 149, c)) ∧ qF (fun x => x = 204 ∨ x = 206) (qb_ui t 192 0 0) z := by
    intro m
    induction m with
    | zero =>
      intro l v l4 hl hf
      have hl : l = nm := by omega
      subst hl
      refine ⟨v, ?_, hf⟩
      refine go_ild_5_3 rfl ?_
      refine go_ald_5_0 rfl ?_
      refine go_getr rfl ⟨_, rfl, rfl, by decide, by decide⟩ ?_
      refine go_c rfl ?_
      refine go_iald (j := 1) rfl ⟨rfl, by decide, by decide, by decide⟩ rfl (by decide) ?_
      rw [show v.1 194 1 = nI l from (hf.i (by decide)).trans ((ft.i (by decide)).trans h1.2.2.1.2.1)]
      refine go_icge rfl (fun e => ?_) (fun e => ?_)
      · refine go_ild_5_1 rfl ?_
        exact fin_i rfl rfl rfl
      · exact absurd (Int32.le_refl _) e
    | succ m ih =>
      intro l v l4 hl hf
      have hsv : qm_so v = qm_so s := funext fun k => (hf.i (by decide)).trans (ft.i (by decide))
      have hpv : qm_pl v nw nm lo hi := (h1.m.mv ft (by decide)).mv hf (by decide)
      obtain ⟨y, y1, y2, y3⟩ := sp_layComes (d + 14) v c (V := V) (H := H) (X := X) (J := J) (Lf := Lf) (Sh := Sh) hpv ⟨(hf.i (by decide)).trans ((ft.i (by decide)).trans h1.2.2.1.2.2.2.1), h1.1.2.2.2.2.1⟩ (by rw [hsv]; exact hI) (J ||| 2 ^ l)
      rw [hsv] at y2
      have hsy : qm_so y = qm_so s := (funext fun k => y3.i (by decide)).trans hsv
      have hdp := sp_deafPairs (d + 14) y c (nw := nw) (C := fun w => df_C lo hi nm (qm_S X (df_F lo hi nw nm X (J ||| 2 ^ l) (qm_so s))) (2 ^ nm) w) ((y3.i (by decide)).trans hpv.1) (fun w hw => ⟨y2 w hw, df_C8 hok hw⟩) hn8
      rw [hsy] at hdp
      have hdp : qe (d + 19) 244 [.ref 192] (qb_hp (y), 149, c) = some (some (.int (nI (cnt l))), (qb_hp (y), 149, c)) := by rw [hcnt]; exact hdp
      obtain ⟨z, z1, z2⟩ := ih (l + 1) y (.int (nI (cnt l))) (by omega) (hf.tr y3)
      refine ⟨z, ?_, z2⟩
      have hs : ky_b cnt (l + 1) = if (ky_b cnt l).1 < nI (cnt l) then (nI (cnt l), nI l) else ky_b cnt l := rfl
      refine go_ild_5_3 rfl ?_
      refine go_ald_5_0 rfl ?_
      refine go_getr rfl ⟨_, rfl, rfl, by decide, by decide⟩ ?_
      refine go_c rfl ?_
      refine go_iald (j := 1) rfl ⟨rfl, by decide, by decide, by decide⟩ rfl (by decide) ?_
      rw [show v.1 194 1 = nI nm from hpv.2.1]
      refine go_icge rfl (fun e => ?_) (fun e => ?_)
      · exact absurd e (nI_ge (by omega) (by omega))
      · refine go_ald_5_0 rfl ?_
        refine go_ald_5_0 rfl ?_
        refine go_getr rfl ⟨_, rfl, rfl, by decide, by decide⟩ ?_
        refine go_c rfl ?_
        refine go_iald (j := 32) rfl ⟨rfl, by decide, by decide, by decide⟩ rfl (by decide) ?_
        rw [show v.1 194 32 = nI J from (hf.i (by decide)).trans ((ft.i (by decide)).trans hI.2.2.1.1)]
        refine go_c rfl ?_
        refine go_ild_5_3 rfl ?_
        refine go_ishl rfl ?_
        rw [qx_1shl l (by omega)]
        refine go_ior rfl ?_
        rw [fa_or]
        refine go_call2 rfl (y1) (Nat.le_of_ble_eq_true rfl) (qb_qv rfl (by decide) (by decide)) ?_
        refine go_ald_5_0 rfl ?_
        refine go_call1 rfl (hdp) (Nat.le_of_ble_eq_true rfl) (qb_qv rfl (by decide) (by decide)) ?_
        refine go_ist_5_4 rfl rfl ?_
        refine go_ild_5_4 rfl ?_
        refine go_ild_5_2 rfl ?_
        refine go_icgt rfl (fun e2 => ?_) (fun e2 => ?_)
        · rw [hs, if_pos e2] at z1
          refine go_ild_5_4 rfl ?_
          refine go_ist_5_2 rfl rfl ?_
          refine go_ild_5_3 rfl ?_
          refine go_ist_5_1 rfl rfl ?_
          refine go_inc_5_3 rfl rfl ?_
          refine go_goto rfl ?_
          rw [nI_1]
          exact z1
        · rw [hs, if_neg e2] at z1
          refine go_goto rfl ?_
          refine go_inc_5_3 rfl rfl ?_
          refine go_goto rfl ?_
          rw [nI_1]
          exact z1
  obtain ⟨z, z1, z2⟩ := loop nm 0 (qb_ui t 192 0 0) (.retAddr 0) (by omega) qF.rf
  have f1 : qG (fun x k => 127 ≤ x ∧ x ≤ 131) s t := a2.G.mo (fun x k h => by omega)
  have f2 : qG (fun x k => x = 192 ∧ k = 0 ∨ x = 204 ∨ x = 206) t z := (qG.rf.ui (Or.inl ⟨rfl, rfl⟩)).tr (z2.G.mo (fun x k h => Or.inr h))
  refine ⟨(ky_b cnt nm).2, t, z, ?_, ?_, qZ_ans hZ ((f1.mo (fun x k h => by unfold qA_P; omega)).tr (f2.mo (fun x k h => by unfold qA_P; omega))) ((hT.mv f1 (fun x k h => by omega)).mv f2 (fun x k h => by omega)) ((hr.mv f1 (fun x k h => by omega)).mv f2 (fun x k h => by omega))⟩
  · refine (en_102 (d + 19) 64 _).trans ?_
    refine go_ald_1_0 rfl ?_
    refine go_getr rfl ⟨_, rfl, rfl, by decide, by decide⟩ ?_
    refine go_ald_1_0 rfl ?_
    refine go_getr rfl ⟨_, rfl, rfl, by decide, by decide⟩ ?_
    refine go_call2 rfl (a1) (Nat.le_of_ble_eq_true rfl) (qb_qv rfl (by decide) (by decide)) ?_
    exact fin_i rfl rfl rfl
  · refine (en_247 (d + 19) 192 _).trans ?_
    refine go_ald_5_0 rfl ?_
    refine go_c rfl ?_
    refine go_puti rfl ⟨_, rfl, rfl, by decide, by decide⟩ rfl rfl ?_
    refine go_c rfl ?_
    refine go_ist_5_1 rfl rfl ?_
    refine go_c rfl ?_
    refine go_ist_5_2 rfl rfl ?_
    refine go_c rfl ?_
    refine go_ist_5_3 rfl rfl ?_
    exact z1

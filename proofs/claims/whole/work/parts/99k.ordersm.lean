/-! orders: the reference, in a row by size -/
def so_I (a : Nat → Int32) (ls : List Nat) (b : Nat → Nat) : Prop := (∀ k, k < ls.length → a k = nI (b k)) ∧ (∀ i j, i < j → j < ls.length → b i < b j) ∧ (∀ k, k < ls.length → b k ∈ ls) ∧ (∀ x, x ∈ ls → ∃ k, k < ls.length ∧ b k = x)
def so_b (b : Nat → Nat) (k x j : Nat) : Nat := if j < k then b j else if j = k then x else b (j - 1)
theorem so_in {a a' : Nat → Int32} {ls : List Nat} {b : Nat → Nat} {k x : Nat} (h : so_I a ls b) (hk : k ≤ ls.length) (h1 : ∀ j, j < k → b j < x) (h2 : ∀ j, k ≤ j → j < ls.length → x < b j) (ha : ∀ j, j ≤ ls.length → a' j = if j < k then a j else if j = k then nI x else a (j - 1)) : so_I a' (x :: ls) (so_b b k x) := by
  obtain ⟨g1, g2, g3, g4⟩ := h
  rw [show so_I a' (x :: ls) (so_b b k x) = ((∀ j, j < ls.length + 1 → a' j = nI (so_b b k x j)) ∧ (∀ i j, i < j → j < ls.length + 1 → so_b b k x i < so_b b k x j) ∧ (∀ j, j < ls.length + 1 → so_b b k x j ∈ x :: ls) ∧ (∀ y, y ∈ x :: ls → ∃ j, j < ls.length + 1 ∧ so_b b k x j = y)) from rfl]
  refine ⟨fun j hj => ?_, fun i j hij hj => ?_, fun j hj => ?_, fun y hy => ?_⟩
  · rw [ha j (by omega)]
    unfold so_b
    by_cases e1 : j < k
    · rw [if_pos e1, if_pos e1]; exact g1 j (by omega)
    · rw [if_neg e1, if_neg e1]
      by_cases e2 : j = k
      · rw [if_pos e2, if_pos e2]
      · rw [if_neg e2, if_neg e2]; exact g1 (j - 1) (by omega)
  · unfold so_b
    by_cases e1 : j < k
    · rw [if_pos e1, if_pos (by omega)]; exact g2 i j hij (by omega)
    · rw [if_neg e1]
      by_cases e2 : j = k
      · rw [if_pos e2, if_pos (by omega)]; exact h1 i (by omega)
      · rw [if_neg e2]
        by_cases e3 : i < k
        · rw [if_pos e3]
          exact Nat.lt_trans (h1 i e3) (h2 (j - 1) (by omega) (by omega))
        · rw [if_neg e3]
          by_cases e4 : i = k
          · rw [if_pos e4]; exact h2 (j - 1) (by omega) (by omega)
          · rw [if_neg e4]; exact g2 (i - 1) (j - 1) (by omega) (by omega)
  · unfold so_b
    by_cases e1 : j < k
    · rw [if_pos e1]; exact List.mem_cons_of_mem _ (g3 j (by omega))
    · rw [if_neg e1]
      by_cases e2 : j = k
      · rw [if_pos e2]; exact List.mem_cons_self
      · rw [if_neg e2]; exact List.mem_cons_of_mem _ (g3 (j - 1) (by omega))
  · rcases List.mem_cons.mp hy with e | e
    · exact ⟨k, by omega, by unfold so_b; rw [if_neg (Nat.lt_irrefl _), if_pos rfl, e]⟩
    · obtain ⟨i, i1, i2⟩ := g4 y e
      by_cases e1 : i < k
      · exact ⟨i, by omega, by unfold so_b; rw [if_pos e1]; exact i2⟩
      · exact ⟨i + 1, by omega, by unfold so_b; rw [if_neg (by omega), if_neg (by omega), Nat.add_sub_cancel]; exact i2⟩
theorem sp_isNewM (d : Nat) (s : qb_M) (c : Nat × Nat) {ls : List Nat} {b : Nat → Nat} (h : so_I (s.1 205) ls b) (hl : ls.length < 1024) (hls : ∀ y, y ∈ ls → y < 2 ^ 31) {x : Nat} (hx : x < 2 ^ 31) : ∃ t b', qe (d + 1) 241 [.ref 192, .int (nI x), .int (nI ls.length)] (qb_hp (s), 149, c) = some (some (.int (if x ∈ ls then 0 else 1)), (qb_hp (t), 149, c)) ∧ so_I (t.1 205) (if x ∈ ls then ls else x :: ls) b' ∧ qF (fun y => y = 205) s t := by
  obtain ⟨g1, g2, g3, g4⟩ := id h
  have hb31 : ∀ k, k < ls.length → b k < 2 ^ 31 := fun k hk => hls _ (g3 k hk)
  -- the row moves up
  have shift : ∀ k, k ≤ ls.length → (∀ j, j < k → b j < x) → (∀ j, k ≤ j → j < ls.length → x < b j) → ∃ t, qa_lm (qe (d)) (qa_cd qc_241) (38, [.ref 192, .int (nI x), .int (nI ls.length), .int (nI k), .retAddr 0], [], (qb_hp (s), 149, c)) = some (some (.int (1)), (qb_hp (t), 149, c)) ∧ so_I (t.1 205) (x :: ls) (so_b b k x) ∧ qF (fun y => y = 205) s t := fun k hk h1 h2 => by
    have loop : ∀ m i (t : qb_M), i = k + m → i ≤ ls.length → (∀ j, t.1 205 j = if i < j ∧ j ≤ ls.length then s.1 205 (j - 1) else s.1 205 j) → qF (fun y => y = 205) s t → ∃ z, qa_lm (qe (d)) (qa_cd qc_241) (41, [.ref 192, .int (nI x), .int (nI ls.length), .int (nI k), .int (nI i)], [], (qb_hp (t), 149, c)) = some (some (.int (1)), (qb_hp (z), 149, c)) ∧ so_I (z.1 205) (x :: ls) (so_b b k x) ∧ qF (fun y => y = 205) s z := by
      intro m
      induction m with
      | zero =>
        intro i t hi hil ht hF
        have hi : i = k := by omega
        subst hi
        refine ⟨qb_ui t 205 i (nI x), ?_, so_in h hk h1 h2 (fun j hj => ?_), hF.ui rfl⟩
        · refine go_ild_5_4 rfl ?_
          refine go_ild_5_3 rfl ?_
          refine go_icle rfl (fun e => ?_) (fun e => ?_)
          · refine go_ald_5_0 rfl ?_
            refine go_getr rfl ⟨_, rfl, rfl, by decide, by decide⟩ ?_
            refine go_ild_5_3 rfl ?_
            refine go_ild_5_1 rfl ?_
            refine go_iast (j := i) rfl ⟨rfl, by decide, by decide, by decide⟩ rfl (by omega) ?_
            refine go_c rfl ?_
            exact fin_i rfl rfl rfl
          · exact absurd (Int32.le_refl _) e
        · by_cases e1 : j < i
          · rw [if_pos e1, qb_ui_1n (Or.inr (by omega)), ht j, if_neg (by omega)]
          · rw [if_neg e1]
            by_cases e2 : j = i
            · rw [if_pos e2, e2]; exact qb_ui_1s
            · rw [if_neg e2, qb_ui_1n (Or.inr e2), ht j, if_pos (by omega)]
      | succ m ih =>
        intro i t hi hil ht hF
        obtain ⟨i', rfl⟩ : ∃ i', i = i' + 1 := ⟨k + m, by omega⟩
        obtain ⟨z, z1, z2⟩ := ih i' (qb_ui t 205 (i' + 1) (s.1 205 i')) (by omega) (by omega) (fun j => by
          by_cases e : j = i' + 1
          · subst e
            rw [if_pos (by omega), Nat.add_sub_cancel]
            exact qb_ui_1s
          · rw [qb_ui_1n (Or.inr e), ht j]
            by_cases e2 : i' < j ∧ j ≤ ls.length
            · rw [if_pos e2, if_pos (by omega)]
            · rw [if_neg e2, if_neg (by omega)]) (hF.ui rfl)
        refine ⟨z, ?_, z2⟩
        refine go_ild_5_4 rfl ?_
        refine go_ild_5_3 rfl ?_
        refine go_icle rfl (fun e => ?_) (fun e => ?_)
        · exact absurd ((nI_leI (by omega) (by omega)).mp e) (by omega)
        · refine go_ald_5_0 rfl ?_
          refine go_getr rfl ⟨_, rfl, rfl, by decide, by decide⟩ ?_
          refine go_ild_5_4 rfl ?_
          refine go_ald_5_0 rfl ?_
          refine go_getr rfl ⟨_, rfl, rfl, by decide, by decide⟩ ?_
          refine go_ild_5_4 rfl ?_
          refine go_c rfl ?_
          refine go_isub rfl ?_
          rw [nI_p1]
          refine go_iald (j := i') rfl ⟨rfl, by decide, by decide, by decide⟩ rfl (by omega) ?_
          rw [ht i', if_neg (by omega)]
          refine go_iast (j := i' + 1) rfl ⟨rfl, by decide, by decide, by decide⟩ rfl (by omega) ?_
          refine go_inc_5_4 rfl rfl ?_
          refine go_goto rfl ?_
          rw [pk_m1]
          exact z1
    obtain ⟨t, t1, t2⟩ := loop (ls.length - k) ls.length s (by omega) (Nat.le_refl _) (fun j => by rw [if_neg (by omega)]) qF.rf
    refine ⟨t, ?_, t2⟩
    refine go_ild_5_2 rfl ?_
    refine go_ist_5_4 rfl rfl ?_
    exact t1
  have seek : ∀ k, k ≤ ls.length → (∀ j, k ≤ j → j < ls.length → x < b j) → ∃ t b', qa_lm (qe (d)) (qa_cd qc_241) (2, [.ref 192, .int (nI x), .int (nI ls.length), .int (nI k), .retAddr 0], [], (qb_hp (s), 149, c)) = some (some (.int (if x ∈ ls then 0 else 1)), (qb_hp (t), 149, c)) ∧ so_I (t.1 205) (if x ∈ ls then ls else x :: ls) b' ∧ qF (fun y => y = 205) s t := by
    intro k
    induction k with
    | zero =>
      intro hk h2
      have hn : x ∉ ls := fun z => by
        obtain ⟨j, j1, j2⟩ := g4 x z
        have := h2 j (Nat.zero_le _) j1
        omega
      obtain ⟨t, t1, t2, t3⟩ := shift 0 hk (fun j hj => absurd hj (Nat.not_lt_zero j)) h2
      rw [if_neg hn, if_neg hn]
      refine ⟨t, _, ?_, t2, t3⟩
      refine go_ild_5_3 rfl ?_
      refine go_ifle rfl (fun e => ?_) (fun e => ?_)
      · exact t1
      · exact absurd (by decide) e
    | succ k ih =>
      intro hk h2
      have ha : s.1 205 k = nI (b k) := g1 k (by omega)
      have hbk := hb31 k (by omega)
      have head : ∀ R, (b k < x → qa_lm (qe (d)) (qa_cd qc_241) (38, [.ref 192, .int (nI x), .int (nI ls.length), .int (nI (k + 1)), .retAddr 0], [], (qb_hp (s), 149, c)) = R) → (b k = x → some (some (.int (0)), (qb_hp (s), 149, c)) = R) → (x < b k → qa_lm (qe (d)) (qa_cd qc_241) (2, [.ref 192, .int (nI x), .int (nI ls.length), .int (nI k), .retAddr 0], [], (qb_hp (s), 149, c)) = R) → qa_lm (qe (d)) (qa_cd qc_241) (2, [.ref 192, .int (nI x), .int (nI ls.length), .int (nI (k + 1)), .retAddr 0], [], (qb_hp (s), 149, c)) = R := fun R k1 k2 k3 => by
        refine go_ild_5_3 rfl ?_
        refine go_ifle rfl (fun e => ?_) (fun e => ?_)
        · exact absurd e (nI_nle (by omega) (by omega))
        · refine go_ald_5_0 rfl ?_
          refine go_getr rfl ⟨_, rfl, rfl, by decide, by decide⟩ ?_
          refine go_ild_5_3 rfl ?_
          refine go_c rfl ?_
          refine go_isub rfl ?_
          rw [nI_p1]
          refine go_iald (j := k) rfl ⟨rfl, by decide, by decide, by decide⟩ rfl (by omega) ?_
          rw [ha]
          refine go_ild_5_1 rfl ?_
          refine go_iclt rfl (fun e2 => ?_) (fun e2 => ?_)
          · exact k1 ((nI_ltI hbk hx).mp e2)
          · have e2 : ¬ b k < x := fun z => e2 ((nI_ltI hbk hx).mpr z)
            refine go_ald_5_0 rfl ?_
            refine go_getr rfl ⟨_, rfl, rfl, by decide, by decide⟩ ?_
            refine go_ild_5_3 rfl ?_
            refine go_c rfl ?_
            refine go_isub rfl ?_
            rw [nI_p1]
            refine go_iald (j := k) rfl ⟨rfl, by decide, by decide, by decide⟩ rfl (by omega) ?_
            rw [ha]
            refine go_ild_5_1 rfl ?_
            refine go_icne rfl (fun e3 => ?_) (fun e3 => ?_)
            · have := k2 ((nI_eq hbk hx).mp e3)
              refine go_c rfl ?_
              exact fin_i rfl rfl this
            · have e3 : ¬ b k = x := fun z => e3 (by rw [z])
              have := k3 (by omega)
              refine go_inc_5_3 rfl rfl ?_
              refine go_goto rfl ?_
              rw [pk_m1]
              exact this
      by_cases e1 : b k < x
      · have hn : x ∉ ls := fun z => by
          obtain ⟨j, j1, j2⟩ := g4 x z
          by_cases e : j < k
          · have := g2 j k e (by omega); omega
          · by_cases e' : j = k
            · subst e'; omega
            · have := h2 j (by omega) j1; omega
        obtain ⟨t, t1, t2, t3⟩ := shift (k + 1) hk (fun j hj => by
          by_cases e : j = k
          · subst e; exact e1
          · exact Nat.lt_trans (g2 j k (by omega) (by omega)) e1) h2
        rw [if_neg hn, if_neg hn]
        exact ⟨t, _, head _ (fun _ => t1) (fun z => absurd z (by omega)) (fun z => absurd z (by omega)), t2, t3⟩
      · by_cases e2 : b k = x
        · have hy : x ∈ ls := by rw [← e2]; exact g3 k (by omega)
          rw [if_pos hy, if_pos hy]
          exact ⟨s, b, head _ (fun z => absurd z e1) (fun _ => rfl) (fun z => absurd z (by omega)), h, qF.rf⟩
        · obtain ⟨t, b', t1, t2⟩ := ih (by omega) (fun j hj hj2 => by
            by_cases e : j = k
            · subst e; omega
            · exact h2 j (by omega) hj2)
          exact ⟨t, b', head _ (fun z => absurd z e1) (fun z => absurd z e2) (fun _ => t1), t2⟩
  obtain ⟨t, b', t1, t2⟩ := seek ls.length (Nat.le_refl _) (fun j hj hj2 => absurd hj2 (by omega))
  refine ⟨t, b', ?_, t2⟩
  refine (en_241 d 192 (nI x) (nI ls.length) _).trans ?_
  refine go_ild_5_2 rfl ?_
  refine go_ist_5_3 rfl rfl ?_
  exact t1
theorem sp_orderOf (d : Nat) (s : qb_M) (c : Nat × Nat) {nw nm : Nat} {lo hi : Nat → Nat} (hp : qm_pl s nw nm lo hi) (Y : Nat) (hY : Y < 1024) : qe (d + 5) 240 [.ref 192, .int (nI Y)] (qb_hp (s), 149, c) = some (some (.int (nI (od_m lo hi nm Y nw))), (qb_hp (s), 149, c)) := by
  obtain ⟨p1, p2, ⟨p3, p4, p5⟩, p6⟩ := id hp
  have loop : ∀ m w, w + m = nw → qa_lm (qe (d + 4)) (qa_cd qc_240) (4, [.ref 192, .int (nI Y), .int (nI (od_m lo hi nm Y w)), .int (nI w)], [], (qb_hp (s), 149, c)) = some (some (.int (nI (od_m lo hi nm Y nw))), (qb_hp (s), 149, c)) := by
    intro m
    induction m with
    | zero =>
      intro w hw
      have hw : w = nw := by omega
      subst hw
      refine go_ild_4_3 rfl ?_
      refine go_ald_4_0 rfl ?_
      refine go_getr rfl ⟨_, rfl, rfl, by decide, by decide⟩ ?_
      refine go_c rfl ?_
      refine go_iald (j := 0) rfl ⟨rfl, by decide, by decide, by decide⟩ rfl (by decide) ?_
      rw [p1]
      refine go_icge rfl (fun e => ?_) (fun e => ?_)
      · refine go_ild_4_2 rfl ?_
        exact fin_i rfl rfl rfl
      · exact absurd (Int32.le_refl _) e
    | succ m ih =>
      intro w hw
      have ih := ih (w + 1) (by omega)
      refine go_ild_4_3 rfl ?_
      refine go_ald_4_0 rfl ?_
      refine go_getr rfl ⟨_, rfl, rfl, by decide, by decide⟩ ?_
      refine go_c rfl ?_
      refine go_iald (j := 0) rfl ⟨rfl, by decide, by decide, by decide⟩ rfl (by decide) ?_
      rw [p1]
      refine go_icge rfl (fun e => ?_) (fun e => ?_)
      · exact absurd e (nI_ge (by omega) (by omega))
      · refine go_ild_4_2 rfl ?_
        refine go_c rfl ?_
        refine go_imul rfl ?_
        rw [show (8 : Int32) = nI 8 from rfl, pk_mul]
        refine go_ald_4_0 rfl ?_
        refine go_ild_4_3 rfl ?_
        refine go_ild_4_1 rfl ?_
        refine go_call3 rfl (sp_outOf d s c hp Y w hY (by omega)) (Nat.le_of_ble_eq_true rfl) (qb_qv rfl (by decide) (by decide)) ?_
        refine go_iadd rfl ?_
        rw [nI_add]
        refine go_ist_4_2 rfl rfl ?_
        refine go_inc_4_3 rfl rfl ?_
        refine go_goto rfl ?_
        rw [nI_1]
        exact ih
  refine (en_240 (d + 4) 192 (nI Y) _).trans ?_
  refine go_c rfl ?_
  refine go_ist_4_2 rfl rfl ?_
  refine go_c rfl ?_
  refine go_ist_4_3 rfl rfl ?_
  exact loop nw 0 (by omega)
theorem sp_ordersM (d : Nat) (s : qb_M) (c : Nat × Nat) {nw nm : Nat} {lo hi : Nat → Nat} (hp : qm_pl s nw nm lo hi) {X J : Nat} (hX : s.1 194 31 = nI X) (hX2 : X < 2 ^ nm) (hJ : s.1 194 32 = nI J) : ∃ u, qe (d + 6) 239 [.ref 192] (qb_hp (s), 149, c) = some (some (.int (nI (qm_fo (qm_S X J) (od_g (fun Y => od_m lo hi nm Y nw)) [] (2 ^ nm)).length)), (qb_hp (u), 149, c)) ∧ qG (fun x k => x = 192 ∧ k = 0 ∨ x = 205) s u := by
  have hok := hp.ok
  obtain ⟨p1, p2, ⟨p3, p4, p5⟩, p6⟩ := id hp
  have h10 : 2 ^ nm ≤ 2 ^ 10 := Nat.pow_le_pow_right (by decide) p5
  obtain ⟨f, hf⟩ : ∃ f : Nat → Nat, f = fun Y => od_m lo hi nm Y nw := ⟨_, rfl⟩
  rw [← hf]
  have hfp : ∀ Y, f Y < 2 ^ 31 := fun Y => by
    rw [hf]
    have h1 := od_m_lt (lo := lo) (hi := hi) (nm := nm) (Y := Y) nw (fun i hi => Nat.lt_of_lt_of_le (qm_wr_lt hok Y hi nm (Nat.le_refl _)) p4)
    have h2 : 8 ^ nw ≤ 8 ^ 8 := Nat.pow_le_pow_right (by decide) p4
    show od_m lo hi nm Y nw < 2 ^ 31
    omega
  obtain ⟨q, hq⟩ : ∃ q : Nat → List Nat, ∀ n, q n = qm_fo (qm_S X J) (od_g f) [] n := ⟨_, fun _ => rfl⟩
  have hq0 : q 0 = [] := hq 0
  have hqs : ∀ n, q (n + 1) = if qm_S X J n = true then od_g f n (q n) else q n := fun n => by rw [hq, hq]; rfl
  rw [← hq]
  have hqp : ∀ j x, x ∈ q j → x < 2 ^ 31 := fun j x hx => by
    rw [hq] at hx
    exact od_all (P := fun x => x < 2 ^ 31) hfp _ x hx
  have hql : ∀ j, (q j).length ≤ j := fun j => by rw [hq]; exact od_len _
  obtain ⟨T, hT⟩ : ∃ T, T = 2 ^ nm := ⟨_, rfl⟩
  rw [← hT] at h10 hX2 ⊢
  have loop : ∀ m n (t : qb_M) (b : Nat → Nat), n + m = T → so_I (t.1 205) (q n) b → qG (fun x k => x = 192 ∧ k = 0 ∨ x = 205) s t → ∃ u, qa_lm (qe (d + 5)) (qa_cd qc_239) (9, [.ref 192, .int (nI (q n).length), .int (nI n)], [], (qb_hp (t), 149, c)) = some (some (.int (nI (q T).length)), (qb_hp (u), 149, c)) ∧ qG (fun x k => x = 192 ∧ k = 0 ∨ x = 205) s u := by
    intro m
    induction m with
    | zero =>
      intro n t b hn hI hF
      have hn : n = T := by omega
      refine ⟨t, ?_, hF⟩
      refine go_ild_3_2 rfl ?_
      refine go_c rfl ?_
      refine go_ald_3_0 rfl ?_
      refine go_getr rfl ⟨_, rfl, rfl, by decide, by decide⟩ ?_
      refine go_c rfl ?_
      refine go_iald (j := 1) rfl ⟨rfl, by decide, by decide, by decide⟩ rfl (by decide) ?_
      rw [show t.1 194 1 = nI nm from (hF.i (by omega)).trans p2]
      refine go_ishl rfl ?_
      rw [qx_1shl nm (by omega), ← hT, hn]
      refine go_icge rfl (fun e => ?_) (fun e => ?_)
      · refine go_ild_3_1 rfl ?_
        exact fin_i rfl rfl rfl
      · exact absurd (Int32.le_refl _) e
    | succ m ih =>
      intro n t b hn hI hF
      have hpt : qm_pl t nw nm lo hi := by
        unfold qm_pl
        rw [show t.1 194 = s.1 194 from funext fun k => hF.i (by omega)]
        exact hp
      have hX1 : t.1 194 31 = nI X := (hF.i (by omega)).trans hX
      have hJ1 : t.1 194 32 = nI J := (hF.i (by omega)).trans hJ
      have head : ∀ R, (qm_S X J n = true → qa_lm (qe (d + 5)) (qa_cd qc_239) (36, [.ref 192, .int (nI (q n).length), .int (nI n)], [], (qb_hp (t), 149, c)) = R) → (¬ qm_S X J n = true → qa_lm (qe (d + 5)) (qa_cd qc_239) (52, [.ref 192, .int (nI (q n).length), .int (nI n)], [], (qb_hp (t), 149, c)) = R) → qa_lm (qe (d + 5)) (qa_cd qc_239) (9, [.ref 192, .int (nI (q n).length), .int (nI n)], [], (qb_hp (t), 149, c)) = R := fun R k1 k2 => by
        refine go_ild_3_2 rfl ?_
        refine go_c rfl ?_
        refine go_ald_3_0 rfl ?_
        refine go_getr rfl ⟨_, rfl, rfl, by decide, by decide⟩ ?_
        refine go_c rfl ?_
        refine go_iald (j := 1) rfl ⟨rfl, by decide, by decide, by decide⟩ rfl (by decide) ?_
        rw [show t.1 194 1 = nI nm from hpt.2.1]
        refine go_ishl rfl ?_
        rw [qx_1shl nm (by omega), ← hT]
        refine go_icge rfl (fun e => ?_) (fun e => ?_)
        · exact absurd e (nI_ge (by omega) (by omega))
        · refine go_ald_3_0 rfl ?_
          refine go_ild_3_2 rfl ?_
          refine go_ald_3_0 rfl ?_
          refine go_getr rfl ⟨_, rfl, rfl, by decide, by decide⟩ ?_
          refine go_c rfl ?_
          refine go_iald (j := 32) rfl ⟨rfl, by decide, by decide, by decide⟩ rfl (by decide) ?_
          rw [hJ1]
          refine go_call3 rfl (sp_isFixed (d + 4) t c (J := J) hX1 (by omega) (by omega)) (Nat.le_of_ble_eq_true rfl) (qb_qv rfl (by decide) (by decide)) ?_
          refine go_ifeq rfl (fun e2 => ?_) (fun e2 => ?_)
          · exact k2 (qB_0.mp e2)
          · exact k1 (Classical.byContradiction fun z => e2 (qB_f z))
      by_cases hS : qm_S X J n = true
      · have ho := sp_orderOf d t c hpt n (by omega)
        rw [show nI (od_m lo hi nm n nw) = nI (f n) from by rw [hf]] at ho
        obtain ⟨t1, b1, n1, n2, n3⟩ := sp_isNewM (d + 4) t c hI (by have := hql n; omega) (hqp n) (hfp n)
        have hF1 := hF.tr (n3.G.mo (fun x k h => Or.inr h))
        have hI1 : so_I (t1.1 205) (q (n + 1)) b1 := by
          rw [hqs, if_pos hS]
          exact n2
        obtain ⟨u, u1, u2⟩ := ih (n + 1) t1 b1 (by omega) hI1 hF1
        refine ⟨u, head _ (fun _ => ?_) (fun z => absurd hS z), u2⟩
        rw [hqs, if_pos hS] at u1
        unfold od_g at u1
        by_cases hm : f n ∈ q n
        · rw [if_pos hm] at n1 u1
          refine go_ald_3_0 rfl ?_
          refine go_ald_3_0 rfl ?_
          refine go_ild_3_2 rfl ?_
          refine go_call2 rfl (ho) (Nat.le_of_ble_eq_true rfl) (qb_qv rfl (by decide) (by decide)) ?_
          refine go_ild_3_1 rfl ?_
          refine go_call3 rfl (n1) (Nat.le_of_ble_eq_true rfl) (qb_qv rfl (by decide) (by decide)) ?_
          refine go_ifeq rfl (fun e2 => ?_) (fun e2 => ?_)
          · refine go_inc_3_2 rfl rfl ?_
            refine go_goto rfl ?_
            rw [nI_1]
            exact u1
          · exact absurd rfl e2
        · rw [if_neg hm] at n1 u1
          rw [List.length_cons] at u1
          refine go_ald_3_0 rfl ?_
          refine go_ald_3_0 rfl ?_
          refine go_ild_3_2 rfl ?_
          refine go_call2 rfl (ho) (Nat.le_of_ble_eq_true rfl) (qb_qv rfl (by decide) (by decide)) ?_
          refine go_ild_3_1 rfl ?_
          refine go_call3 rfl (n1) (Nat.le_of_ble_eq_true rfl) (qb_qv rfl (by decide) (by decide)) ?_
          refine go_ifeq rfl (fun e2 => ?_) (fun e2 => ?_)
          · exact absurd e2 (by decide)
          · refine go_inc_3_1 rfl rfl ?_
            refine go_inc_3_2 rfl rfl ?_
            refine go_goto rfl ?_
            rw [nI_1, nI_1]
            exact u1
      · have hI1 : so_I (t.1 205) (q (n + 1)) b := by
          rw [hqs, if_neg hS]
          exact hI
        obtain ⟨u, u1, u2⟩ := ih (n + 1) t b (by omega) hI1 hF
        refine ⟨u, head _ (fun z => absurd z hS) (fun _ => ?_), u2⟩
        rw [hqs, if_neg hS] at u1
        refine go_inc_3_2 rfl rfl ?_
        refine go_goto rfl ?_
        rw [nI_1]
        exact u1
  obtain ⟨u, u1, u2⟩ := loop T 0 (qb_ui s 192 0 0) (fun _ => 0) (by omega) (by
    rw [hq0]
    exact ⟨fun k hk => absurd hk (Nat.not_lt_zero k), fun i j _ hj => absurd hj (Nat.not_lt_zero j), fun k hk => absurd hk (Nat.not_lt_zero k), fun x hx => by cases hx⟩) (qG.rf.ui (by omega))
  refine ⟨u, ?_, u2⟩
  rw [hq0] at u1
  refine (en_239 (d + 5) 192 _).trans ?_
  refine go_ald_3_0 rfl ?_
  refine go_c rfl ?_
  refine go_puti rfl ⟨_, rfl, rfl, by decide, by decide⟩ rfl rfl ?_
  refine go_c rfl ?_
  refine go_ist_3_1 rfl rfl ?_
  refine go_c rfl ?_
  refine go_ist_3_2 rfl rfl ?_
  exact u1
theorem qT_orders (d : Nat) : qT (d + 20) 94 239 [] := fun s c hZ => by
  obtain ⟨⟨hT, _, _, _, _, hr⟩, nw, nm, ns, V, F0, lo, hi, se, h1, h2, h3, h4⟩ := id hZ
  obtain ⟨hR, H, X, J, Lf, Sh, hI⟩ := id h2
  have hIc := hR.in hI
  have hX5 : s.1 73 5 = nI X := by rw [← qs_so_h (s := s) (a := 73) (k := 1) (by decide)]; exact hIc.2.1.1
  have hJ5 : s.1 73 6 = nI J := by rw [← qs_so_h (s := s) (a := 73) (k := 2) (by decide)]; exact hIc.2.2.1.1
  obtain ⟨t, a1, a2⟩ := sp_countOrders (d + 16) s c h1.c hX5 hI.2.1.2 hJ5
  have hf : qF (fun x => x < 192) s t := a2.mo (fun x h => by omega)
  obtain ⟨u, b1, b2⟩ := sp_ordersM (d + 14) t c (X := X) (J := J) (h1.m.mv hf (by decide)) ((hf.i (by decide)).trans hI.2.1.1) hI.2.1.2 ((hf.i (by decide)).trans hI.2.2.1.1)
  obtain ⟨rs, e1, e2⟩ := od_same (S := qm_S X J) (f := fun Y => qm_pk (qm_te lo hi Y nm nm)) (g := fun Y => od_m lo hi nm Y nw) (fun Y Z => od_both h1.c.ok Y Z) (2 ^ nm)
  rw [e1, List.length_map] at a1
  rw [e2, List.length_map] at b1
  refine ⟨nI rs.length, t, u, ?_, b1, hZ.mv ((a2.G.mo (fun x k h => Or.inl h)).tr (b2.mo (fun x k h => Or.inr h)) : qG (fun x k => (x = 127 ∨ x = 128 ∨ x = 130) ∨ (x = 192 ∧ k = 0 ∨ x = 205)) s u) (fun x k hx => by unfold qZ_no qZx_no at hx; omega)⟩
  refine (en_94 (d + 19) 64 _).trans ?_
  refine go_ald_1_0 rfl ?_
  refine go_getr rfl ⟨_, rfl, rfl, by decide, by decide⟩ ?_
  refine go_ald_1_0 rfl ?_
  refine go_getr rfl ⟨_, rfl, rfl, by decide, by decide⟩ ?_
  refine go_call2 rfl (a1) (Nat.le_of_ble_eq_true rfl) (qb_qv rfl (by decide) (by decide)) ?_
  exact fin_i rfl rfl rfl

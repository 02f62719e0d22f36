/-! sets, in both -/
/-- what a question may change -/
def qA_P (x k : Nat) : Prop := x = 64 ∧ 15 ≤ k ∧ k ≤ 17 ∨ x = 65 ∨ x = 82 ∨ 125 ≤ x ∧ x ≤ 154 ∨ x = 192 ∧ k ≠ 24 ∧ k ≠ 34 ∧ k ≠ 39 ∨ x = 195 ∨ x = 198 ∨ x = 200 ∨ 203 ≤ x ∧ x ≤ 207 ∨ x = 209 ∨ x = 211 ∨ x = 212
theorem qZ_ans {s u : qb_M} (hZ : qZ s) (hf : qG qA_P s u) (ht : qZt u) (hr : qZr u) : qZ u := by
  obtain ⟨⟨_, a2, a3, a4, a5, _⟩, nw, nm, ns, V, F0, lo, hi, se, h1, h2, h3, h4⟩ := hZ
  refine ⟨⟨ht, a2.mv hf (by decide) (Or.inl rfl) (fun x k hx => by unfold qA_P; omega), a3.mv hf (by decide) (Or.inr rfl) (fun x k hx => by unfold qA_P; omega), a4.mv hf (fun x k hx => by unfold qA_P; omega), a5.mv hf (fun x k hx => by unfold qA_P; omega), hr⟩, nw, nm, ns, V, F0, lo, hi, se, h1.mv hf (fun x k hx => by unfold qA_P; omega) (fun k _ _ => by unfold qA_P; omega) (fun k _ _ => by unfold qA_P; omega), ?_, h3.mv hf (fun x k hx => by unfold qA_P; omega) (fun k _ _ => by unfold qA_P; omega), h4.mv hf (fun x k hx => by unfold qA_P; omega)⟩
  rw [qs_so_G hf (fun x k hx => by unfold qA_P; omega), qm_so_G hf (fun k hk => by unfold qA_P; omega)]
  exact h2
theorem qZt_0 {u : qb_M} (h1 : u.1 65 1 = 0) (h2 : u.1 192 2 = 0) : qZt u := ⟨0, by decide, h1, h2, fun k hk => absurd hk (Nat.not_lt_zero k)⟩
theorem nI_p1 (m : Nat) : nI (m + 1) - 1 = nI m := by rw [← nI_1, Int32.add_sub_cancel]
def st_ok (lo hi : Nat → Nat) (nw nm : Nat) (B : Nat → Nat) (Z : Nat) : Bool := !qm_any (fun w => decide (B w ≠ 255) && decide (qm_wr lo hi Z w nm ≠ B w)) nw
def st_p (lo hi : Nat → Nat) (nw nm X J : Nat) (B : Nat → Nat) (Z : Nat) : Bool := qm_S X J Z && st_ok lo hi nw nm B Z
theorem st_ok_iff {lo hi : Nat → Nat} {nw nm : Nat} {B : Nat → Nat} {Z : Nat} : st_ok lo hi nw nm B Z = true ↔ ∀ w, w < nw → B w ≠ 255 → qm_wr lo hi Z w nm = B w := by
  unfold st_ok
  rw [Bool.not_eq_true', Bool.eq_false_iff, Ne, qm_any_t]
  constructor
  · intro h w hw hb
    exact Classical.byContradiction fun z => h ⟨w, hw, by rw [decide_eq_true hb, decide_eq_true z]; rfl⟩
  · rintro h ⟨w, hw, q⟩
    rw [Bool.and_eq_true, decide_eq_true_eq, decide_eq_true_eq] at q
    exact q.2 (h w hw q.1)
def st_D (B : Nat → Nat) (k w : Nat) : Bool := decide (w < k) && decide (B w ≠ 255)
theorem st_D_0 {B : Nat → Nat} : st_D B 0 = fun _ => false := funext fun w => by unfold st_D; rw [decide_eq_false (Nat.not_lt_zero w)]; rfl
theorem st_D_n {B : Nat → Nat} {k : Nat} (h : B k = 255) : st_D B (k + 1) = st_D B k := funext fun w => by
  unfold st_D
  by_cases e : w = k
  · subst e; simp [h]
  · by_cases e2 : w < k
    · simp [e2, show w < k + 1 by omega]
    · simp [e2, show ¬ w < k + 1 by omega]
theorem st_D_y {B : Nat → Nat} {k : Nat} (h : B k ≠ 255) (w : Nat) : st_D B (k + 1) w = (st_D B k w || decide (w = k)) := by
  unfold st_D
  by_cases e : w = k
  · subst e; simp [h]
  · by_cases e2 : w < k
    · simp [e2, e, show w < k + 1 by omega]
    · simp [e2, e, show ¬ w < k + 1 by omega]
theorem st_pack {nw nm : Nat} {lo hi : Nat → Nat} (hok : qm_ok nw nm lo hi) {B : Nat → Nat} (hB : ∀ w, w < nw → B w < nw ∨ B w = 255) (Y : Nat) : qm_pk (qm_te lo hi Y nm nm) &&& qm_mk (st_D B nw) = qm_wt (st_D B nw) B ↔ st_ok lo hi nw nm B Y = true := by
  have h8 := hok.1
  rw [qm_mk_eq (fun w hw => qm_te_lt hok Y nm (Nat.le_refl _) w hw) (fun w hw q => by
    unfold st_D at q
    rw [Bool.and_eq_true, decide_eq_true_eq, decide_eq_true_eq] at q
    rcases hB w q.1 with z | z
    · omega
    · exact absurd z q.2), st_ok_iff]
  constructor
  · intro h w hw hb
    rw [← qm_te_end]
    exact h w (by omega) (by unfold st_D; rw [decide_eq_true hw, decide_eq_true hb]; rfl)
  · intro h w hw q
    unfold st_D at q
    rw [Bool.and_eq_true, decide_eq_true_eq, decide_eq_true_eq] at q
    rw [qm_te_end]
    exact h w q.1 q.2
def st_g (ok : Nat → Bool) (Z : Nat) (p : Nat × Int32) : Nat × Int32 := if ok Z = true then (p.1 + 1, if p.1 = 0 then nI Z else p.2) else p
theorem st_fo {S ok : Nat → Bool} {f0 : Int32} : ∀ n, (qm_fo S (st_g ok) (0, f0) n).1 = fa_cnt (fun Z => S Z && ok Z) n ∧ (fa_cnt (fun Z => S Z && ok Z) n ≠ 0 → ∃ z, z < n ∧ (S z && ok z) = true ∧ (∀ j, j < z → ¬ (S j && ok j) = true) ∧ (qm_fo S (st_g ok) (0, f0) n).2 = nI z) ∧ (fa_cnt (fun Z => S Z && ok Z) n = 0 → ∀ j, j < n → ¬ (S j && ok j) = true)
  | 0 => ⟨rfl, fun h => absurd rfl h, fun _ j hj => absurd hj (Nat.not_lt_zero j)⟩
  | n + 1 => by
    obtain ⟨i1, i2, i3⟩ := st_fo (S := S) (ok := ok) (f0 := f0) n
    show (if S n = true then st_g ok n (qm_fo S (st_g ok) (0, f0) n) else qm_fo S (st_g ok) (0, f0) n).1 = _ ∧ (_ → ∃ z, _ ∧ _ ∧ _ ∧ (if S n = true then st_g ok n (qm_fo S (st_g ok) (0, f0) n) else qm_fo S (st_g ok) (0, f0) n).2 = nI z) ∧ _
    by_cases hp : (S n && ok n) = true
    · have hp2 := hp
      rw [Bool.and_eq_true] at hp2
      rw [fa_cnt_yes (p := fun Z => S Z && ok Z) hp, if_pos hp2.1]
      rw [show st_g ok n (qm_fo S (st_g ok) (0, f0) n) = ((qm_fo S (st_g ok) (0, f0) n).1 + 1, if (qm_fo S (st_g ok) (0, f0) n).1 = 0 then nI n else (qm_fo S (st_g ok) (0, f0) n).2) from if_pos hp2.2]
      refine ⟨by dsimp only; rw [← i1], fun _ => ?_, fun h => absurd h (by omega)⟩
      by_cases h0 : fa_cnt (fun Z => S Z && ok Z) n = 0
      · refine ⟨n, by omega, hp, i3 h0, ?_⟩
        dsimp only
        rw [if_pos (i1.trans h0)]
      · obtain ⟨z, z1, z2, z3, z4⟩ := i2 h0
        refine ⟨z, by omega, z2, z3, ?_⟩
        dsimp only
        rw [if_neg (fun q => h0 (i1.symm.trans q))]
        exact z4
    · have e : (if S n = true then st_g ok n (qm_fo S (st_g ok) (0, f0) n) else qm_fo S (st_g ok) (0, f0) n) = qm_fo S (st_g ok) (0, f0) n := by
        by_cases hs : S n = true
        · rw [if_pos hs]
          unfold st_g
          rw [if_neg]
          intro q
          exact hp (by rw [hs, q]; rfl)
        · rw [if_neg hs]
      rw [e, fa_cnt_no (p := fun Z => S Z && ok Z) (eq_false_of_ne_true hp)]
      refine ⟨i1, fun h => ?_, fun h j hj => ?_⟩
      · obtain ⟨z, z1, z2, z3, z4⟩ := i2 h
        exact ⟨z, by omega, z2, z3, z4⟩
      · by_cases q : j = n
        · subst q; exact hp
        · exact i3 h j (by omega)
theorem sp_countSets (d : Nat) (s : qb_M) (c : Nat × Nat) {nw nm : Nat} {lo hi : Nat → Nat} (hp : qP_pl s 67 nw nm lo hi) {X J n : Nat} {B : Nat → Nat} (hX : s.1 73 5 = nI X) (hX2 : X < 2 ^ nm) (hJ : s.1 73 6 = nI J) (hn : s.1 65 1 = nI n) (hn9 : n ≤ 940) (hB : ∀ k, k < n → s.1 66 k = nI (B k) ∧ B k < 256) : ∃ r t, qe (d + 4) 92 [.ref 129, .ref 73, .ref 65] (qb_hp (s), 149, c) = some (some (.int (r)), (qb_hp (t), 149, c)) ∧ qF (fun x => x = 127 ∨ x = 128 ∨ x = 129) s t ∧ ((n = nw ∧ ∀ w, w < nw → B w < nw ∨ B w = 255) → r = nI (fa_cnt (st_p lo hi nw nm X J B) (2 ^ nm)) ∧ (fa_cnt (st_p lo hi nw nm X J B) (2 ^ nm) ≠ 0 → ∃ z, z < 2 ^ nm ∧ st_p lo hi nw nm X J B z = true ∧ (∀ j, j < z → ¬ st_p lo hi nw nm X J B j = true) ∧ t.1 129 6 = nI z)) ∧ (¬ (n = nw ∧ ∀ w, w < nw → B w < nw ∨ B w = 255) → r = -1) := by
  have hS := qS_73
  have hok := hp.ok
  obtain ⟨p1, p2, ⟨p3, p4, p5⟩, p6⟩ := id hp
  by_cases hnw : n = nw
  · subst hnw
    have l1 : ∀ R, ((∀ w, w < n → B w < n ∨ B w = 255) → ∀ l6, qa_lm (qe (d + 3)) (qa_cd qc_92) (110, [.ref 129, .ref 73, .ref 65, .int (nI (qm_mk (st_D B n))), .int (nI (qm_wt (st_D B n) B)), .int (nI n), l6, .retAddr 0], [], (qb_hp (s), 149, c)) = R) → (¬ (∀ w, w < n → B w < n ∨ B w = 255) → some (some (.int (-1)), (qb_hp (s), 149, c)) = R) → ∀ m k l6, k + m = n → (∀ w, w < k → B w < n ∨ B w = 255) → qa_lm (qe (d + 3)) (qa_cd qc_92) (24, [.ref 129, .ref 73, .ref 65, .int (nI (qm_mk (st_D B k))), .int (nI (qm_wt (st_D B k) B)), .int (nI k), l6, .retAddr 0], [], (qb_hp (s), 149, c)) = R := by
      intro R hg hb m
      induction m with
      | zero =>
        intro k l6 hk hw
        have hk : k = n := by omega
        subst hk
        refine go_ild_8_5 rfl ?_
        refine go_ald_8_0 rfl ?_
        refine go_getr rfl ⟨_, rfl, rfl, by decide, by decide⟩ ?_
        refine go_geti rfl ⟨_, rfl, rfl, by decide, by decide⟩ ?_
        rw [p1]
        refine go_icge rfl (fun e => ?_) (fun e => ?_)
        · exact hg hw _
        · exact absurd (Int32.le_refl _) e
      | succ m ih =>
        intro k l6 hk hw
        have h28 : 2 ^ (4 * k) ≤ 2 ^ 28 := Nat.pow_le_pow_right (by decide) (by omega)
        obtain ⟨b1, b2⟩ := hB k (by omega)
        refine go_ild_8_5 rfl ?_
        refine go_ald_8_0 rfl ?_
        refine go_getr rfl ⟨_, rfl, rfl, by decide, by decide⟩ ?_
        refine go_geti rfl ⟨_, rfl, rfl, by decide, by decide⟩ ?_
        rw [p1]
        refine go_icge rfl (fun e => ?_) (fun e => ?_)
        · exact absurd e (nI_ge (by omega) (by omega))
        · refine go_ild_8_5 rfl ?_
          refine go_c rfl ?_
          refine go_icge rfl (fun e => ?_) (fun e => ?_)
          · exact absurd ((nI_leI (a := 8) (by decide) (by omega)).mp e) (by omega)
          · refine go_ald_8_2 rfl ?_
            refine go_getr rfl ⟨_, rfl, rfl, by decide, by decide⟩ ?_
            refine go_ild_8_5 rfl ?_
            refine go_iald (j := k) rfl (⟨rfl, by decide, by decide, by decide⟩) (rfl) (by omega) ?_
            rw [b1]
            refine go_ist_8_6 rfl rfl ?_
            refine go_ild_8_6 rfl ?_
            refine go_c rfl ?_
            refine go_iceq rfl (fun e1 => ?_) (fun e1 => ?_)
            · have e1 := (nI_eq (b := 255) (by omega) (by decide)).mp e1
              have ih := ih (k + 1) (.int (nI (B k))) (by omega) (fun w hw2 => by
                by_cases q : w = k
                · subst q; exact Or.inr e1
                · exact hw w (by omega))
              rw [st_D_n e1] at ih
              refine go_ild_8_6 rfl ?_
              refine go_c rfl ?_
              refine go_iceq rfl (fun e2 => ?_) (fun e2 => ?_)
              · refine go_inc_8_5 rfl rfl ?_
                refine go_goto rfl ?_
                rw [nI_1]
                exact ih
              · exact absurd (by rw [e1]; rfl) e2
            · have e1 : B k ≠ 255 := fun q => e1 (by rw [q]; rfl)
              refine go_ild_8_6 rfl ?_
              refine go_ald_8_0 rfl ?_
              refine go_getr rfl ⟨_, rfl, rfl, by decide, by decide⟩ ?_
              refine go_geti rfl ⟨_, rfl, rfl, by decide, by decide⟩ ?_
              rw [p1]
              refine go_iclt rfl (fun e2 => ?_) (fun e2 => ?_)
              · have e2 := (nI_ltI (by omega) (by omega)).mp e2
                have ih := ih (k + 1) (.int (nI (B k))) (by omega) (fun w hw2 => by
                  by_cases q : w = k
                  · subst q; exact Or.inl e2
                  · exact hw w (by omega))
                rw [← qm_mk_add (D := st_D B k) (by omega) (fun w _ => st_D_y e1 w), ← qm_wt_add (D := st_D B k) (o := B) (by omega) (by omega) (fun w _ => st_D_y e1 w)] at ih
                have hO : B k * 2 ^ (4 * k) ≤ 7 * 2 ^ 28 := Nat.mul_le_mul (by omega) h28
                refine go_ild_8_6 rfl ?_
                refine go_c rfl ?_
                refine go_iceq rfl (fun e3 => ?_) (fun e3 => ?_)
                · exact absurd ((nI_eq (b := 255) (by omega) (by decide)).mp e3) e1
                · refine go_ild_8_3 rfl ?_
                  refine go_c rfl ?_
                  refine go_c rfl ?_
                  refine go_ild_8_5 rfl ?_
                  refine go_imul rfl ?_
                  rw [qx_four, show (15 : Int32) = nI 15 from rfl]
                  refine go_ishl rfl ?_
                  rw [qx_shl (by omega) (by omega)]
                  refine go_ior rfl ?_
                  rw [fa_or]
                  refine go_ist_8_3 rfl rfl ?_
                  refine go_ild_8_4 rfl ?_
                  refine go_ild_8_6 rfl ?_
                  refine go_c rfl ?_
                  refine go_ild_8_5 rfl ?_
                  refine go_imul rfl ?_
                  rw [qx_four]
                  refine go_ishl rfl ?_
                  rw [qx_shl (by omega) (by omega)]
                  refine go_ior rfl ?_
                  rw [fa_or]
                  refine go_ist_8_4 rfl rfl ?_
                  refine go_inc_8_5 rfl rfl ?_
                  refine go_goto rfl ?_
                  rw [nI_1]
                  exact ih
              · have e2 : ¬ B k < n := fun q => e2 (nI_lt q (by omega))
                have := hb (fun q => (q k (by omega)).elim e2 e1)
                refine go_c rfl ?_
                exact fin_i rfl rfl this
    have l0 : ∀ R, qa_lm (qe (d + 3)) (qa_cd qc_92) (24, [.ref 129, .ref 73, .ref 65, .int (nI (qm_mk (st_D B 0))), .int (nI (qm_wt (st_D B 0) B)), .int (nI 0), .retAddr 0, .retAddr 0], [], (qb_hp (s), 149, c)) = R → qe (d + 4) 92 [.ref 129, .ref 73, .ref 65] (qb_hp (s), 149, c) = R := fun R hR => by
      rw [st_D_0, qm_mk_0, qm_wt_0] at hR
      refine (en_92 (d + 3) 129 73 65 _).trans ?_
      refine go_ald_8_2 rfl ?_
      refine go_geti rfl ⟨_, rfl, rfl, by decide, by decide⟩ ?_
      refine go_ald_8_0 rfl ?_
      refine go_getr rfl ⟨_, rfl, rfl, by decide, by decide⟩ ?_
      refine go_geti rfl ⟨_, rfl, rfl, by decide, by decide⟩ ?_
      rw [hn, p1]
      refine go_iceq rfl (fun e => ?_) (fun e => ?_)
      · refine go_c rfl ?_
        refine go_ist_8_3 rfl rfl ?_
        refine go_c rfl ?_
        refine go_ist_8_4 rfl rfl ?_
        refine go_c rfl ?_
        refine go_ist_8_5 rfl rfl ?_
        exact hR
      · exact absurd rfl e
    by_cases hgood : ∀ w, w < n → B w < n ∨ B w = 255
    · have h10 : 2 ^ nm ≤ 2 ^ 10 := Nat.pow_le_pow_right (by decide) p5
      obtain ⟨q, hq⟩ : ∃ q : Nat → Nat × Int32, ∀ j, q j = qm_fo (qm_S X J) (st_g (st_ok lo hi n nm B)) (0, s.1 129 6) (qm_yy nm X J j) := ⟨_, fun _ => rfl⟩
      have hq0 : q 0 = (0, s.1 129 6) := by rw [hq]; exact qm_sw_0 (by omega) hX2
      have hqs : ∀ j, j < qm_N nm J → q (j + 1) = st_g (st_ok lo hi n nm B) (qm_y nm X J j) (q j) := fun j hj => by
        rw [hq, hq]
        exact qm_sw_s (by omega) hX2 hj
      have hqN : q (qm_N nm J) = qm_fo (qm_S X J) (st_g (st_ok lo hi n nm B)) (0, s.1 129 6) (2 ^ nm) := by rw [hq, qm_sw_e]
      have hN := qm_N_le (nm := nm) (F := J) p5
      have hqb : ∀ j, (q j).1 ≤ 1024 := fun j => by
        rw [hq, (st_fo _).1]
        have h1 := fa_cnt_le (fun Z => qm_S X J Z && st_ok lo hi n nm B Z) (qm_yy nm X J j)
        have h2 := qm_yy_le (nm := nm) (X := X) (F := J) (j := j)
        omega
      obtain ⟨t, k1, k2, k3⟩ := sp_start (d + 1) s c hp X J hX2
      have loop : ∀ m j (t : qb_M), j + m = qm_N nm J → qW t nm lo hi X J j → t.1 129 6 = (q j).2 → qF (fun x => x = 127 ∨ x = 128 ∨ x = 129) s t → ∃ z, qa_lm (qe (d + 3)) (qa_cd qc_92) (133, [.ref 129, .ref 73, .ref 65, .int (nI (qm_mk (st_D B n))), .int (nI (qm_wt (st_D B n) B)), .int (nI (q j).1), .int (nI (qm_N nm J)), .int (nI j)], [], (qb_hp (t), 149, c)) = some (some (.int (nI (q (qm_N nm J)).1)), (qb_hp (z), 149, c)) ∧ z.1 129 6 = (q (qm_N nm J)).2 ∧ qF (fun x => x = 127 ∨ x = 128 ∨ x = 129) s z := by
        intro m
        induction m with
        | zero =>
          intro j t hj hW hf hF
          have hj : j = qm_N nm J := by omega
          refine ⟨t, ?_, by rw [← hj]; exact hf, hF⟩
          refine go_ild_8_7 rfl ?_
          refine go_ild_8_6 rfl ?_
          refine go_icge rfl (fun e => ?_) (fun e => ?_)
          · refine go_ild_8_5 rfl ?_
            rw [hj]
            exact fin_i rfl rfl rfl
          · exact absurd (by rw [hj]; exact Int32.le_refl _) e
        | succ m ih =>
          intro j t hj hW hf hF
          have hs := hqs j (by omega)
          unfold st_g at hs
          have hpt : qP_pl t 67 n nm lo hi := hp.mv hF (by decide) (by decide) (by decide)
          have tail : ∀ (t : qb_M), qW t nm lo hi X J j → qP_pl t 67 n nm lo hi → t.1 129 6 = (q (j + 1)).2 → qF (fun x => x = 127 ∨ x = 128 ∨ x = 129) s t → ∃ z, qa_lm (qe (d + 3)) (qa_cd qc_92) (180, [.ref 129, .ref 73, .ref 65, .int (nI (qm_mk (st_D B n))), .int (nI (qm_wt (st_D B n) B)), .int (nI (q (j + 1)).1), .int (nI (qm_N nm J)), .int (nI j)], [], (qb_hp (t), 149, c)) = some (some (.int (nI (q (qm_N nm J)).1)), (qb_hp (z), 149, c)) ∧ z.1 129 6 = (q (qm_N nm J)).2 ∧ qF (fun x => x = 127 ∨ x = 128 ∨ x = 129) s z := fun t hW hpt hf hF => by
            obtain ⟨t2, a1, a2, a3⟩ := sp_advance (d + 1) t c hpt X J j hW
            obtain ⟨z, z1, z2, z3⟩ := ih (j + 1) t2 (by omega) a2 ((a3.i (by decide)).trans hf) (hF.tr (a3.mo (fun x h => by omega)))
            refine ⟨z, ?_, z2, z3⟩
            refine go_ald_8_0 rfl ?_
            refine go_getr rfl ⟨_, rfl, rfl, by decide, by decide⟩ ?_
            refine go_call1 rfl (a1) (Nat.le_of_ble_eq_true rfl) (qb_qv rfl (by decide) (by decide)) ?_
            refine go_inc_8_7 rfl rfl ?_
            refine go_goto rfl ?_
            rw [nI_1]
            exact z1
          obtain ⟨w1, w2, w3, w4⟩ := id hW
          have hpe : t.1 128 0 = nI (qm_pk (qm_te lo hi (qm_y nm X J j) nm nm)) := w4 0 (Nat.le_refl _) (Nat.zero_le _)
          have hiff := st_pack hok hgood (qm_y nm X J j)
          have hlt : qm_pk (qm_te lo hi (qm_y nm X J j) nm nm) &&& qm_mk (st_D B n) < 2 ^ 32 := Nat.lt_of_le_of_lt Nat.and_le_left (qm_ac_lt _ 32)
          have h9 := hqb j
          have head : ∀ R, (st_ok lo hi n nm B (qm_y nm X J j) = true → qa_lm (qe (d + 3)) (qa_cd qc_92) (154, [.ref 129, .ref 73, .ref 65, .int (nI (qm_mk (st_D B n))), .int (nI (qm_wt (st_D B n) B)), .int (nI (q j).1), .int (nI (qm_N nm J)), .int (nI j)], [], (qb_hp (t), 149, c)) = R) → (¬ st_ok lo hi n nm B (qm_y nm X J j) = true → qa_lm (qe (d + 3)) (qa_cd qc_92) (180, [.ref 129, .ref 73, .ref 65, .int (nI (qm_mk (st_D B n))), .int (nI (qm_wt (st_D B n) B)), .int (nI (q j).1), .int (nI (qm_N nm J)), .int (nI j)], [], (qb_hp (t), 149, c)) = R) → qa_lm (qe (d + 3)) (qa_cd qc_92) (133, [.ref 129, .ref 73, .ref 65, .int (nI (qm_mk (st_D B n))), .int (nI (qm_wt (st_D B n) B)), .int (nI (q j).1), .int (nI (qm_N nm J)), .int (nI j)], [], (qb_hp (t), 149, c)) = R := fun R g1 g2 => by
            refine go_ild_8_7 rfl ?_
            refine go_ild_8_6 rfl ?_
            refine go_icge rfl (fun e => ?_) (fun e => ?_)
            · exact absurd e (nI_ge (by omega) (by omega))
            · refine go_ald_8_0 rfl ?_
              refine go_getr rfl ⟨_, rfl, rfl, by decide, by decide⟩ ?_
              refine go_call1 rfl (sp_ends (d + 2) t c) (Nat.le_of_ble_eq_true rfl) (qb_qv rfl (by decide) (by decide)) ?_
              rw [hpe]
              refine go_ild_8_3 rfl ?_
              refine go_iand rfl ?_
              rw [fa_and]
              refine go_ild_8_4 rfl ?_
              refine go_icne rfl (fun e => ?_) (fun e => ?_)
              · exact g1 (hiff.mp ((nI_eq32 hlt (qm_ac_lt _ 32)).mp e))
              · exact g2 (fun z => e (congrArg nI (hiff.mpr z)))
          by_cases hk : st_ok lo hi n nm B (qm_y nm X J j) = true
          · rw [if_pos hk] at hs
            by_cases h0 : (q j).1 = 0
            · obtain ⟨z, z1, z2⟩ := tail (qb_ui t 129 6 (nI (qm_y nm X J j))) ⟨w1, w2, w3, w4⟩ (hpt.mv (P := fun x => x = 129) (qF.rf.ui rfl) (by decide) (by decide) (by decide)) (by rw [qb_ui_1s, hs, h0]; rfl) (hF.ui (Or.inr (Or.inr rfl)))
              refine ⟨z, head _ (fun _ => ?_) (fun q => absurd hk q), z2⟩
              rw [h0]
              rw [hs, h0] at z1
              refine go_ald_8_0 rfl ?_
              refine go_ild_8_5 rfl ?_
              refine go_ifne rfl (fun e => ?_) (fun e => ?_)
              · refine go_ald_8_0 rfl ?_
                refine go_getr rfl ⟨_, rfl, rfl, by decide, by decide⟩ ?_
                refine go_geti rfl ⟨_, rfl, rfl, by decide, by decide⟩ ?_
                rw [w3]
                refine go_goto rfl ?_
                refine go_puti rfl ⟨_, rfl, rfl, by decide, by decide⟩ rfl rfl ?_
                refine go_inc_8_5 rfl rfl ?_
                exact z1
              · exact absurd rfl e
            · obtain ⟨z, z1, z2⟩ := tail (qb_ui t 129 6 (t.1 129 6)) ⟨w1, w2, w3, w4⟩ (hpt.mv (P := fun x => x = 129) (qF.rf.ui rfl) (by decide) (by decide) (by decide)) (by rw [qb_ui_1s, hs, hf, if_neg h0]) (hF.ui (Or.inr (Or.inr rfl)))
              refine ⟨z, head _ (fun _ => ?_) (fun q => absurd hk q), z2⟩
              rw [hs] at z1
              refine go_ald_8_0 rfl ?_
              refine go_ild_8_5 rfl ?_
              refine go_ifne rfl (fun e => ?_) (fun e => ?_)
              · exact absurd ((nI_eq (b := 0) (by omega) (by decide)).mp e) h0
              · refine go_ald_8_0 rfl ?_
                refine go_geti rfl ⟨_, rfl, rfl, by decide, by decide⟩ ?_
                refine go_puti rfl ⟨_, rfl, rfl, by decide, by decide⟩ rfl rfl ?_
                refine go_inc_8_5 rfl rfl ?_
                rw [nI_1]
                exact z1
          · rw [if_neg hk] at hs
            obtain ⟨z, z1, z2⟩ := tail t hW hpt (by rw [hs]; exact hf) hF
            refine ⟨z, head _ (fun q => absurd q hk) (fun _ => ?_), z2⟩
            rw [hs] at z1
            exact z1
      obtain ⟨z, z1, z2, z3⟩ := loop (qm_N nm J) 0 t (by omega) k2 (by rw [hq0]; exact k3.i (by decide)) (k3.mo (fun x h => by omega))
      have hfo := st_fo (S := qm_S X J) (ok := st_ok lo hi n nm B) (f0 := s.1 129 6) (2 ^ nm)
      rw [← hqN] at hfo
      refine ⟨nI (q (qm_N nm J)).1, z, l0 _ (l1 _ (fun _ l6 => ?_) (fun q => absurd hgood q) n 0 _ (by omega) (fun w hw => absurd hw (Nat.not_lt_zero w))), z3, fun _ => ⟨?_, fun h => ?_⟩, fun h => absurd ⟨rfl, hgood⟩ h⟩
      · rw [hq0] at z1
        refine go_c rfl ?_
        refine go_ist_8_5 rfl rfl ?_
        refine go_ald_8_0 rfl ?_
        refine go_getr rfl ⟨_, rfl, rfl, by decide, by decide⟩ ?_
        refine go_ald_8_1 rfl ?_
        refine go_geti rfl (qS_f hS rfl) ?_
        rw [hX]
        refine go_ald_8_1 rfl ?_
        refine go_geti rfl (qS_f hS rfl) ?_
        rw [hJ]
        refine go_call3 rfl (k1) (Nat.le_of_ble_eq_true rfl) (qb_qv rfl (by decide) (by decide)) ?_
        refine go_ist_8_6 rfl rfl ?_
        refine go_c rfl ?_
        refine go_ist_8_7 rfl rfl ?_
        exact z1
      · exact congrArg nI hfo.1
      · obtain ⟨y, y1, y2, y3, y4⟩ := hfo.2.1 h
        exact ⟨y, y1, y2, y3, z2.trans y4⟩
    · exact ⟨-1, s, l0 _ (l1 _ (fun q => absurd q hgood) (fun _ => rfl) n 0 _ (by omega) (fun w hw => absurd hw (Nat.not_lt_zero w))), qF.rf, fun h => absurd h.2 hgood, fun _ => rfl⟩
  · refine ⟨-1, s, ?_, qF.rf, fun h => absurd h.1 hnw, fun _ => rfl⟩
    refine (en_92 (d + 3) 129 73 65 _).trans ?_
    refine go_ald_8_2 rfl ?_
    refine go_geti rfl ⟨_, rfl, rfl, by decide, by decide⟩ ?_
    refine go_ald_8_0 rfl ?_
    refine go_getr rfl ⟨_, rfl, rfl, by decide, by decide⟩ ?_
    refine go_geti rfl ⟨_, rfl, rfl, by decide, by decide⟩ ?_
    rw [hn, p1]
    refine go_iceq rfl (fun e => ?_) (fun e => ?_)
    · exact absurd ((nI_eq (by omega) (by omega)).mp e) hnw
    · refine go_c rfl ?_
      exact fin_i rfl rfl rfl
theorem sp_take (d : Nat) (s : qb_M) (c : Nat × Nat) : qe (d + 1) 169 [.ref 192] (qb_hp (s), 149, c) = some (some (.int (s.1 192 2)), (qb_hp (qb_ui s 192 2 0), 149, c)) := by
  refine (en_169 d 192 _).trans ?_
  refine go_ald_2_0 rfl ?_
  refine go_geti rfl ⟨_, rfl, rfl, by decide, by decide⟩ ?_
  refine go_ist_2_1 rfl rfl ?_
  refine go_ald_2_0 rfl ?_
  refine go_c rfl ?_
  refine go_puti rfl ⟨_, rfl, rfl, by decide, by decide⟩ rfl rfl ?_
  refine go_ild_2_1 rfl ?_
  exact fin_i rfl rfl rfl
theorem sp_comesSo (d : Nat) (s : qb_M) (c : Nat × Nat) {nw nm : Nat} {lo hi : Nat → Nat} (hp : qm_pl s nw nm lo hi) {B : Nat → Nat} (hB : ∀ k, k < nw → s.1 193 k = nI (B k) ∧ B k < 256) (Y : Nat) (hY : Y < 1024) : qe (d + 5) 237 [.ref 192, .int (nI Y)] (qb_hp (s), 149, c) = some (some (.int (qB (st_ok lo hi nw nm B Y = true))), (qb_hp (s), 149, c)) := by
  have hok := hp.ok
  obtain ⟨p1, p2, ⟨p3, p4, p5⟩, p6⟩ := id hp
  have loop : ∀ m w, w + m = nw → (∀ j, j < w → B j ≠ 255 → qm_wr lo hi Y j nm = B j) → qa_lm (qe (d + 4)) (qa_cd qc_237) (2, [.ref 192, .int (nI Y), .int (nI w)], [], (qb_hp (s), 149, c)) = some (some (.int (qB (st_ok lo hi nw nm B Y = true))), (qb_hp (s), 149, c)) := by
    intro m
    induction m with
    | zero =>
      intro w hw hj
      have hw : w = nw := by omega
      subst hw
      refine go_ild_3_2 rfl ?_
      refine go_ald_3_0 rfl ?_
      refine go_getr rfl ⟨_, rfl, rfl, by decide, by decide⟩ ?_
      refine go_c rfl ?_
      refine go_iald (j := 0) rfl ⟨rfl, by decide, by decide, by decide⟩ rfl (by decide) ?_
      rw [p1]
      refine go_icge rfl (fun e => ?_) (fun e => ?_)
      · refine go_c rfl ?_
        exact fin_i rfl rfl (qR_i (qB_t (st_ok_iff.mpr hj)).symm)
      · exact absurd (Int32.le_refl _) e
    | succ m ih =>
      intro w hw hj
      obtain ⟨b1, b2⟩ := hB w (by omega)
      have hlt := qm_wr_lt hok Y (i := w) (by omega) nm (Nat.le_refl _)
      have ih := ih (w + 1) (by omega)
      refine go_ild_3_2 rfl ?_
      refine go_ald_3_0 rfl ?_
      refine go_getr rfl ⟨_, rfl, rfl, by decide, by decide⟩ ?_
      refine go_c rfl ?_
      refine go_iald (j := 0) rfl ⟨rfl, by decide, by decide, by decide⟩ rfl (by decide) ?_
      rw [p1]
      refine go_icge rfl (fun e => ?_) (fun e => ?_)
      · exact absurd e (nI_ge (by omega) (by omega))
      · refine go_ald_3_0 rfl ?_
        refine go_getr rfl ⟨_, rfl, rfl, by decide, by decide⟩ ?_
        refine go_ild_3_2 rfl ?_
        refine go_iald (j := w) rfl (⟨rfl, by decide, by decide, by decide⟩) (rfl) (by omega) ?_
        rw [b1]
        refine go_c rfl ?_
        refine go_iceq rfl (fun e1 => ?_) (fun e1 => ?_)
        · have e1 := (nI_eq (b := 255) (by omega) (by decide)).mp e1
          refine go_inc_3_2 rfl rfl ?_
          refine go_goto rfl ?_
          rw [nI_1]
          exact ih (fun j hj2 hb => by
            by_cases q : j = w
            · subst q; exact absurd e1 hb
            · exact hj j (by omega) hb)
        · have e1 : B w ≠ 255 := fun q => e1 (by rw [q]; rfl)
          refine go_ald_3_0 rfl ?_
          refine go_ild_3_2 rfl ?_
          refine go_ild_3_1 rfl ?_
          refine go_call3 rfl (sp_outOf d s c hp Y w hY (by omega)) (Nat.le_of_ble_eq_true rfl) (qb_qv rfl (by decide) (by decide)) ?_
          refine go_ald_3_0 rfl ?_
          refine go_getr rfl ⟨_, rfl, rfl, by decide, by decide⟩ ?_
          refine go_ild_3_2 rfl ?_
          refine go_iald (j := w) rfl (⟨rfl, by decide, by decide, by decide⟩) (rfl) (by omega) ?_
          rw [b1]
          refine go_iceq rfl (fun e2 => ?_) (fun e2 => ?_)
          · have e2 := (nI_eq (by omega) (by omega)).mp e2
            refine go_inc_3_2 rfl rfl ?_
            refine go_goto rfl ?_
            rw [nI_1]
            exact ih (fun j hj2 hb => by
              by_cases q : j = w
              · subst q; exact e2
              · exact hj j (by omega) hb)
          · have e2 : ¬ qm_wr lo hi Y w nm = B w := fun q => e2 (by rw [q])
            refine go_c rfl ?_
            exact fin_i rfl rfl (qR_i (qB_f (fun q => e2 (st_ok_iff.mp q w (by omega) e1))).symm)
  refine (en_237 (d + 4) 192 (nI Y) _).trans ?_
  refine go_c rfl ?_
  refine go_ist_3_2 rfl rfl ?_
  exact loop nw 0 (by omega) (fun j hj => absurd hj (Nat.not_lt_zero j))
theorem sp_setsM (d : Nat) (s : qb_M) (c : Nat × Nat) {nw nm : Nat} {lo hi : Nat → Nat} (hp : qm_pl s nw nm lo hi) {X J n : Nat} {B : Nat → Nat} (hX : s.1 194 31 = nI X) (hX2 : X < 2 ^ nm) (hJ : s.1 194 32 = nI J) (hn : s.1 192 2 = nI n) (hn9 : n ≤ 940) (hB : ∀ k, k < n → s.1 193 k = nI (B k) ∧ B k < 256) : ∃ r u, qe (d + 6) 236 [.ref 192] (qb_hp (s), 149, c) = some (some (.int (r)), (qb_hp (u), 149, c)) ∧ qG (fun x k => x = 192 ∧ (k = 0 ∨ k = 2 ∨ k = 27)) s u ∧ u.1 192 2 = 0 ∧ ((n = nw ∧ ∀ w, w < nw → B w < nw ∨ B w = 255) → r = nI (fa_cnt (st_p lo hi nw nm X J B) (2 ^ nm)) ∧ (fa_cnt (st_p lo hi nw nm X J B) (2 ^ nm) ≠ 0 → ∃ z, z < 2 ^ nm ∧ st_p lo hi nw nm X J B z = true ∧ (∀ j, j < z → ¬ st_p lo hi nw nm X J B j = true) ∧ u.1 192 27 = nI z) ∧ (fa_cnt (st_p lo hi nw nm X J B) (2 ^ nm) = 0 → u.1 192 27 = s.1 192 27)) ∧ (¬ (n = nw ∧ ∀ w, w < nw → B w < nw ∨ B w = 255) → r = -1 ∧ u.1 192 27 = s.1 192 27) := by
  have hok := hp.ok
  obtain ⟨p1, p2, ⟨p3, p4, p5⟩, p6⟩ := id hp
  have h10 : 2 ^ nm ≤ 2 ^ 10 := Nat.pow_le_pow_right (by decide) p5
  obtain ⟨v, hv⟩ : ∃ v, v = qb_ui (qb_ui s 192 0 0) 192 2 0 := ⟨_, rfl⟩
  have hsv : qG (fun x k => x = 192 ∧ (k = 0 ∨ k = 2 ∨ k = 27)) s v := by rw [hv]; exact (qG.rf.ui (by omega)).ui (by omega)
  have hv2 : v.1 192 2 = 0 := by rw [hv]; exact qb_ui_1s
  have hv27 : v.1 192 27 = s.1 192 27 := by rw [hv]; exact (qb_ui_1n (by omega)).trans (qb_ui_1n (by omega))
  have en : ∀ R, (n = nw → qa_lm (qe (d + 5)) (qa_cd qc_236) (22, [.ref 192, .int (nI n), .retAddr 0, .retAddr 0], [], (qb_hp (v), 149, c)) = R) → (¬ n = nw → some (some (.int (-1)), (qb_hp (v), 149, c)) = R) → qe (d + 6) 236 [.ref 192] (qb_hp (s), 149, c) = R := fun R g1 g2 => by
    have hs2 : (qb_ui s 192 0 0).1 192 2 = nI n := (qb_ui_1n (by omega)).trans hn
    have htk := sp_take (d + 4) (qb_ui s 192 0 0) c
    rw [hs2, ← hv] at htk
    refine (en_236 (d + 5) 192 _).trans ?_
    refine go_ald_4_0 rfl ?_
    refine go_c rfl ?_
    refine go_puti rfl ⟨_, rfl, rfl, by decide, by decide⟩ rfl rfl ?_
    refine go_ald_4_0 rfl ?_
    refine go_call1 rfl (htk) (Nat.le_of_ble_eq_true rfl) (qb_qv rfl (by decide) (by decide)) ?_
    refine go_ist_4_1 rfl rfl ?_
    refine go_ild_4_1 rfl ?_
    refine go_ald_4_0 rfl ?_
    refine go_getr rfl ⟨_, rfl, rfl, by decide, by decide⟩ ?_
    refine go_c rfl ?_
    refine go_iald (j := 0) rfl ⟨rfl, by decide, by decide, by decide⟩ rfl (by decide) ?_
    rw [show v.1 194 0 = nI nw from (hsv.i (by omega)).trans p1]
    refine go_iceq rfl (fun e => ?_) (fun e => ?_)
    · exact g1 ((nI_eq (by omega) (by omega)).mp e)
    · have := g2 (fun q => e (by rw [q]))
      refine go_c rfl ?_
      exact fin_i rfl rfl this
  have hmv : ∀ t : qb_M, qG (fun x k => x = 192 ∧ (k = 0 ∨ k = 2 ∨ k = 27)) s t → qm_pl t nw nm lo hi := fun t ht => by
    unfold qm_pl
    rw [show t.1 194 = s.1 194 from funext fun k => ht.i (by omega)]
    exact hp
  by_cases hnw : n = nw
  · subst hnw
    have l1 : ∀ R, ((∀ w, w < n → B w < n ∨ B w = 255) → qa_lm (qe (d + 5)) (qa_cd qc_236) (62, [.ref 192, .int (nI n), .int (nI n), .retAddr 0], [], (qb_hp (v), 149, c)) = R) → (¬ (∀ w, w < n → B w < n ∨ B w = 255) → some (some (.int (-1)), (qb_hp (v), 149, c)) = R) → ∀ m k, k + m = n → (∀ w, w < k → B w < n ∨ B w = 255) → qa_lm (qe (d + 5)) (qa_cd qc_236) (24, [.ref 192, .int (nI n), .int (nI k), .retAddr 0], [], (qb_hp (v), 149, c)) = R := by
      intro R hg hb m
      induction m with
      | zero =>
        intro k hk hw
        have hk : k = n := by omega
        subst hk
        refine go_ild_4_2 rfl ?_
        refine go_ild_4_1 rfl ?_
        refine go_icge rfl (fun e => ?_) (fun e => ?_)
        · exact hg hw
        · exact absurd (Int32.le_refl _) e
      | succ m ih =>
        intro k hk hw
        obtain ⟨b1, b2⟩ := hB k (by omega)
        have b1v : v.1 193 k = nI (B k) := (hsv.i (by omega)).trans b1
        have ih := ih (k + 1) (by omega)
        refine go_ild_4_2 rfl ?_
        refine go_ild_4_1 rfl ?_
        refine go_icge rfl (fun e => ?_) (fun e => ?_)
        · exact absurd e (nI_ge (by omega) (by omega))
        · refine go_ald_4_0 rfl ?_
          refine go_ald_4_0 rfl ?_
          refine go_getr rfl ⟨_, rfl, rfl, by decide, by decide⟩ ?_
          refine go_ild_4_2 rfl ?_
          refine go_iald (j := k) rfl (⟨rfl, by decide, by decide, by decide⟩) (rfl) (by omega) ?_
          rw [b1v]
          refine go_call2 rfl (sp_isWire (d + 3) v c (nw := n) ((hsv.i (by omega)).trans p1) p3 p4 _) (Nat.le_of_ble_eq_true rfl) (qb_qv rfl (by decide) (by decide)) ?_
          refine go_ifne rfl (fun e1 => ?_) (fun e1 => ?_)
          · refine go_ald_4_0 rfl ?_
            refine go_getr rfl ⟨_, rfl, rfl, by decide, by decide⟩ ?_
            refine go_ild_4_2 rfl ?_
            refine go_iald (j := k) rfl (⟨rfl, by decide, by decide, by decide⟩) (rfl) (by omega) ?_
            refine go_c rfl ?_
            rw [b1v]
            refine go_iceq rfl (fun e2 => ?_) (fun e2 => ?_)
            · refine go_inc_4_2 rfl rfl ?_
              refine go_goto rfl ?_
              rw [nI_1]
              have e2 := (nI_eq (b := 255) (by omega) (by decide)).mp e2
              exact ih (fun w hw2 => by
                by_cases q : w = k
                · subst q; exact Or.inr e2
                · exact hw w (by omega))
            · have := hb (fun q => (q k (by omega)).elim (fun z => qB_0.mp e1 ⟨nI_le (a := 0) (Nat.zero_le _) (by omega), nI_lt z (by omega)⟩) (fun z => e2 (by rw [z]; rfl)))
              refine go_c rfl ?_
              exact fin_i rfl rfl this
          · have e1 : 0 ≤ nI (B k) ∧ nI (B k) < nI n := Classical.byContradiction fun z => e1 (qB_f z)
            refine go_inc_4_2 rfl rfl ?_
            refine go_goto rfl ?_
            rw [nI_1]
            exact ih (fun w hw2 => by
              by_cases q : w = k
              · subst q; exact Or.inl ((nI_ltI (by omega) (by omega)).mp e1.2)
              · exact hw w (by omega))
    by_cases hgood : ∀ w, w < n → B w < n ∨ B w = 255
    · obtain ⟨T, hT⟩ : ∃ T, T = 2 ^ nm := ⟨_, rfl⟩
      rw [← hT] at h10 hX2 ⊢
      obtain ⟨p, hpp⟩ : ∃ p, p = st_p lo hi n nm X J B := ⟨_, rfl⟩
      rw [← hpp]
      have loop : ∀ m (f : Nat) (t : qb_M), m ≤ T → f + fa_cnt p m = fa_cnt p T → qG (fun x k => x = 192 ∧ (k = 0 ∨ k = 2 ∨ k = 27)) s t → t.1 192 2 = 0 → (f = 0 ∧ t.1 192 27 = s.1 192 27 ∨ f ≠ 0 ∧ ∃ z, m ≤ z ∧ z < T ∧ p z = true ∧ (∀ j, m ≤ j → j < z → ¬ p j = true) ∧ t.1 192 27 = nI z) → ∃ u, qa_lm (qe (d + 5)) (qa_cd qc_236) (75, [.ref 192, .int (nI n), .int (nI f), .int (nI m - 1)], [], (qb_hp (t), 149, c)) = some (some (.int (nI (fa_cnt p T))), (qb_hp (u), 149, c)) ∧ qG (fun x k => x = 192 ∧ (k = 0 ∨ k = 2 ∨ k = 27)) s u ∧ u.1 192 2 = 0 ∧ (fa_cnt p T = 0 ∧ u.1 192 27 = s.1 192 27 ∨ fa_cnt p T ≠ 0 ∧ ∃ z, z < T ∧ p z = true ∧ (∀ j, j < z → ¬ p j = true) ∧ u.1 192 27 = nI z) := by
        intro m
        induction m with
        | zero =>
          intro f t hm hf hF h2 hz
          have hf : f = fa_cnt p T := hf
          refine ⟨t, ?_, hF, h2, ?_⟩
          · refine go_ild_4_3 rfl ?_
            refine go_iflt rfl (fun e => ?_) (fun e => ?_)
            · refine go_ild_4_2 rfl ?_
              rw [hf]
              exact fin_i rfl rfl rfl
            · exact absurd (by decide) e
          · rw [← hf]
            rcases hz with hz | ⟨hz, z, _, z2, z3, z4, z5⟩
            · exact Or.inl hz
            · exact Or.inr ⟨hz, z, z2, z3, fun j hj => z4 j (Nat.zero_le _) hj, z5⟩
        | succ m ih =>
          intro f t hm hf hF h2 hz
          rw [nI_p1]
          have hpm := hmv t hF
          have hJ2 : t.1 194 32 = nI J := (hF.i (by omega)).trans hJ
          have head : ∀ R, (p m = true → qa_lm (qe (d + 5)) (qa_cd qc_236) (105, [.ref 192, .int (nI n), .int (nI f), .int (nI m)], [], (qb_hp (t), 149, c)) = R) → (¬ p m = true → qa_lm (qe (d + 5)) (qa_cd qc_236) (113, [.ref 192, .int (nI n), .int (nI f), .int (nI m)], [], (qb_hp (t), 149, c)) = R) → qa_lm (qe (d + 5)) (qa_cd qc_236) (75, [.ref 192, .int (nI n), .int (nI f), .int (nI m)], [], (qb_hp (t), 149, c)) = R := fun R g1 g2 => by
            rw [hpp] at g1 g2
            unfold st_p at g1 g2
            refine go_ild_4_3 rfl ?_
            refine go_iflt rfl (fun e => ?_) (fun e => ?_)
            · exact absurd e (Int32.not_lt.mpr (nI_le (a := 0) (Nat.zero_le _) (by omega)))
            · refine go_ald_4_0 rfl ?_
              refine go_ild_4_3 rfl ?_
              refine go_ald_4_0 rfl ?_
              refine go_getr rfl ⟨_, rfl, rfl, by decide, by decide⟩ ?_
              refine go_c rfl ?_
              refine go_iald (j := 32) rfl ⟨rfl, by decide, by decide, by decide⟩ rfl (by decide) ?_
              rw [hJ2]
              refine go_call3 rfl (sp_isFixed (d + 4) t c (X := X) (Y := m) (J := J) ((hF.i (by omega)).trans hX) (by omega) (by omega)) (Nat.le_of_ble_eq_true rfl) (qb_qv rfl (by decide) (by decide)) ?_
              refine go_ifeq rfl (fun e1 => ?_) (fun e1 => ?_)
              · exact g2 (fun z => qB_0.mp e1 (by rw [Bool.and_eq_true] at z; exact z.1))
              · have e1 : qm_S X J m = true := Classical.byContradiction fun z => e1 (qB_f z)
                refine go_ald_4_0 rfl ?_
                refine go_ild_4_3 rfl ?_
                refine go_call2 rfl (sp_comesSo d t c hpm (B := B) (fun k hk => ⟨(hF.i (by omega)).trans (hB k hk).1, (hB k hk).2⟩) m (by omega)) (Nat.le_of_ble_eq_true rfl) (qb_qv rfl (by decide) (by decide)) ?_
                refine go_ifne rfl (fun e2 => ?_) (fun e2 => ?_)
                · refine go_goto rfl ?_
                  exact g2 (fun z => qB_0.mp e2 (by rw [Bool.and_eq_true] at z; exact z.2))
                · exact g1 (by rw [e1, show st_ok lo hi n nm B m = true from Classical.byContradiction fun z => e2 (qB_f z)]; rfl)
          by_cases hk : p m = true
          · rw [fa_cnt_yes hk] at hf
            obtain ⟨u, u1, u2⟩ := ih (f + 1) (qb_ui t 192 27 (nI m)) (by omega) (by omega) (hF.ui (by omega)) ((qb_ui_1n (by omega)).trans h2) (Or.inr ⟨by omega, m, Nat.le_refl _, by omega, hk, fun j h3 h4 => absurd h3 (by omega), qb_ui_1s⟩)
            refine ⟨u, head _ (fun _ => ?_) (fun z => absurd hk z), u2⟩
            refine go_ald_4_0 rfl ?_
            refine go_ild_4_3 rfl ?_
            refine go_puti rfl ⟨_, rfl, rfl, by decide, by decide⟩ rfl rfl ?_
            refine go_inc_4_2 rfl rfl ?_
            rw [nI_1]
            refine go_inc_4_3 rfl rfl ?_
            refine go_goto rfl ?_
            rw [← Int32.sub_eq_add_neg]
            exact u1
          · rw [fa_cnt_no (eq_false_of_ne_true hk)] at hf
            obtain ⟨u, u1, u2⟩ := ih f t (by omega) hf hF h2 (by
              rcases hz with hz | ⟨hz, z, z1, z2, z3, z4, z5⟩
              · exact Or.inl hz
              · refine Or.inr ⟨hz, z, by omega, z2, z3, fun j h3 h4 => ?_, z5⟩
                by_cases q : j = m
                · subst q; exact hk
                · exact z4 j (by omega) h4)
            refine ⟨u, head _ (fun z => absurd z hk) (fun _ => ?_), u2⟩
            refine go_inc_4_3 rfl rfl ?_
            refine go_goto rfl ?_
            rw [← Int32.sub_eq_add_neg]
            exact u1
      obtain ⟨u, u1, u2, u3, u4⟩ := loop T 0 v (Nat.le_refl _) (Nat.zero_add _) hsv hv2 (Or.inl ⟨rfl, hv27⟩)
      refine ⟨nI (fa_cnt p T), u, en _ (fun _ => ?_) (fun q => absurd rfl q), u2, u3, fun _ => ⟨rfl, fun h => ?_, fun h => ?_⟩, fun q => absurd ⟨rfl, hgood⟩ q⟩
      · refine go_c rfl ?_
        refine go_ist_4_2 rfl rfl ?_
        refine l1 _ (fun _ => ?_) (fun q => absurd hgood q) n 0 (by omega) (fun w hw => absurd hw (Nat.not_lt_zero w))
        refine go_c rfl ?_
        refine go_ist_4_2 rfl rfl ?_
        refine go_c rfl ?_
        refine go_ald_4_0 rfl ?_
        refine go_getr rfl ⟨_, rfl, rfl, by decide, by decide⟩ ?_
        refine go_c rfl ?_
        refine go_iald (j := 1) rfl ⟨rfl, by decide, by decide, by decide⟩ rfl (by decide) ?_
        rw [show v.1 194 1 = nI nm from (hsv.i (by omega)).trans p2]
        refine go_ishl rfl ?_
        rw [qx_1shl nm (by omega), ← hT]
        refine go_c rfl ?_
        refine go_isub rfl ?_
        refine go_ist_4_3 rfl rfl ?_
        exact u1
      · rcases u4 with ⟨z, _⟩ | ⟨_, z⟩
        · exact absurd z h
        · exact z
      · rcases u4 with ⟨_, z⟩ | ⟨z, _⟩
        · exact z
        · exact absurd h z
    · refine ⟨-1, v, en _ (fun _ => ?_) (fun q => absurd rfl q), hsv, hv2, fun q => absurd q.2 hgood, fun _ => ⟨rfl, hv27⟩⟩
      refine go_c rfl ?_
      refine go_ist_4_2 rfl rfl ?_
      exact l1 _ (fun q => absurd q hgood) (fun _ => rfl) n 0 (by omega) (fun w hw => absurd hw (Nat.not_lt_zero w))
  · exact ⟨-1, v, en _ (fun q => absurd q hnw) (fun _ => rfl), hsv, hv2, fun q => absurd q.1 hnw, fun _ => ⟨rfl, hv27⟩⟩
theorem qT_sets (d : Nat) : qT (d + 20) 91 236 [] := fun s c hZ => by
  obtain ⟨⟨hT, _, _, _, _, hr⟩, nw, nm, ns, V, F0, lo, hi, se, h1, h2, h3, h4⟩ := id hZ
  obtain ⟨hR, H, X, J, Lf, Sh, hI⟩ := id h2
  obtain ⟨n, t0, t1, t2, t3⟩ := hT
  have hb : ∀ k, ∃ b, k < n → b < 256 ∧ s.1 193 k = nI b := fun k => by
    by_cases hk : k < n
    · obtain ⟨b, b1, b2⟩ := (t3 k hk).2
      exact ⟨b, fun _ => ⟨b1, b2⟩⟩
    · exact ⟨0, fun z => absurd z hk⟩
  obtain ⟨B, hB⟩ := Classical.axiomOfChoice hb
  have hIc := hR.in hI
  have hX5 : s.1 73 5 = nI X := by rw [← qs_so_h (s := s) (a := 73) (k := 1) (by decide)]; exact hIc.2.1.1
  have hJ5 : s.1 73 6 = nI J := by rw [← qs_so_h (s := s) (a := 73) (k := 2) (by decide)]; exact hIc.2.2.1.1
  have h10 : 2 ^ nm ≤ 2 ^ 10 := Nat.pow_le_pow_right (by decide) h1.1.2.2.1
  obtain ⟨r, t, a1, a2, a3, a4⟩ := sp_countSets (d + 15) s c h1.c (B := B) hX5 hI.2.1.2 hJ5 t1 t0 (fun k hk => ⟨(t3 k hk).1.trans (hB k hk).2, (hB k hk).1⟩)
  -- the component
  have hc : ∀ R, (0 < r → some (some (.int (r)), (qb_hp (qb_ui (qb_ui t 65 1 0) 64 15 (t.1 129 6)), 149, c)) = R) → (¬ 0 < r → some (some (.int (r)), (qb_hp (qb_ui t 65 1 0), 149, c)) = R) → qe (d + 20) 91 [.ref 64] (qb_hp (s), 149, c) = R := fun R g1 g2 => by
    refine (en_91 (d + 19) 64 _).trans ?_
    refine go_ald_2_0 rfl ?_
    refine go_getr rfl ⟨_, rfl, rfl, by decide, by decide⟩ ?_
    refine go_ald_2_0 rfl ?_
    refine go_getr rfl ⟨_, rfl, rfl, by decide, by decide⟩ ?_
    refine go_ald_2_0 rfl ?_
    refine go_getr rfl ⟨_, rfl, rfl, by decide, by decide⟩ ?_
    refine go_call3 rfl (a1) (Nat.le_of_ble_eq_true rfl) (qb_qv rfl (by decide) (by decide)) ?_
    refine go_ist_2_1 rfl rfl ?_
    refine go_ald_2_0 rfl ?_
    refine go_getr rfl ⟨_, rfl, rfl, by decide, by decide⟩ ?_
    refine go_c rfl ?_
    refine go_puti rfl ⟨_, rfl, rfl, by decide, by decide⟩ rfl rfl ?_
    refine go_ild_2_1 rfl ?_
    refine go_ifle rfl (fun e => ?_) (fun e => ?_)
    · have := g2 (Int32.not_lt.mpr e)
      refine go_ild_2_1 rfl ?_
      exact fin_i rfl rfl this
    · have := g1 (Int32.not_le.mp e)
      refine go_ald_2_0 rfl ?_
      refine go_ald_2_0 rfl ?_
      refine go_getr rfl ⟨_, rfl, rfl, by decide, by decide⟩ ?_
      refine go_geti rfl ⟨_, rfl, rfl, by decide, by decide⟩ ?_
      refine go_puti rfl ⟨_, rfl, rfl, by decide, by decide⟩ rfl rfl ?_
      refine go_ild_2_1 rfl ?_
      exact fin_i rfl rfl this
  have hm : ∀ t' : qb_M, qF (fun x => x < 192) s t' → ∃ u, qe (d + 20) 236 [.ref 192] (qb_hp (t'), 149, c) = some (some (.int (r)), (qb_hp (u), 149, c)) ∧ qG (fun x k => x = 192 ∧ (k = 0 ∨ k = 2 ∨ k = 27)) t' u ∧ u.1 192 2 = 0 ∧ (0 < r → u.1 192 27 = t.1 129 6) ∧ (¬ 0 < r → u.1 192 27 = s.1 192 27) := fun t' hf => by
    obtain ⟨r', u, b1, b2, b3, b4, b5⟩ := sp_setsM (d + 14) t' c (X := X) (J := J) (n := n) (B := B) (h1.m.mv hf (by decide)) ((hf.i (by decide)).trans hI.2.1.1) hI.2.1.2 ((hf.i (by decide)).trans hI.2.2.1.1) ((hf.i (by decide)).trans t2) t0 (fun k hk => ⟨(hf.i (by decide)).trans (hB k hk).2, (hB k hk).1⟩)
    by_cases hg : n = nw ∧ ∀ w, w < nw → B w < nw ∨ B w = 255
    · obtain ⟨x1, x2⟩ := a3 hg
      obtain ⟨y1, y2, y3⟩ := b4 hg
      have hle := fa_cnt_le (st_p lo hi nw nm X J B) (2 ^ nm)
      rw [y1, ← x1] at b1
      refine ⟨u, b1, b2, b3, fun h => ?_, fun h => ?_⟩
      · rw [x1] at h
        have h := (nI_ltI (a := 0) (by decide) (by omega)).mp h
        obtain ⟨z, z1, z2, z3, z4⟩ := x2 (by omega)
        obtain ⟨z', z1', z2', z3', z4'⟩ := y2 (by omega)
        rw [z4, z4', fb_first_one (p := fun z => st_p lo hi nw nm X J B z = true) z2 z3 z2' z3']
      · rw [x1] at h
        have h : ¬ 0 < fa_cnt (st_p lo hi nw nm X J B) (2 ^ nm) := fun q => h (nI_lt (a := 0) q (by omega))
        exact (y3 (by omega)).trans (hf.i (by decide))
    · have x1 := a4 hg
      obtain ⟨y1, y2⟩ := b5 hg
      rw [y1, ← x1] at b1
      refine ⟨u, b1, b2, b3, fun h => ?_, fun h => y2.trans (hf.i (by decide))⟩
      rw [x1] at h
      exact absurd h (by decide)
  by_cases h0 : 0 < r
  · obtain ⟨t', ht'⟩ : ∃ t', t' = qb_ui (qb_ui t 65 1 0) 64 15 (t.1 129 6) := ⟨_, rfl⟩
    have f1 : qG (fun x k => x = 64 ∧ k = 15 ∨ x = 65 ∧ k = 1 ∨ 127 ≤ x ∧ x ≤ 129) s t' := by rw [ht']; exact ((a2.G.mo (fun x k h => by omega)).ui (by omega)).ui (by omega)
    obtain ⟨u, u1, u2, u3, u4, u5⟩ := hm t' ((f1.mo (fun x k h => by omega : ∀ x k, _ → x < 192)).F)
    refine ⟨r, t', u, hc _ (fun _ => by rw [ht']) (fun z => absurd h0 z), u1, qZ_ans hZ ((f1.mo (fun x k h => by unfold qA_P; omega)).tr (u2.mo (fun x k h => by unfold qA_P; omega))) (qZt_0 ?_ u3) ?_⟩
    · rw [u2.i (by omega), ht']
      exact (qb_ui_1n (by omega)).trans qb_ui_1s
    · refine ⟨?_, ?_, ?_, ?_⟩
      · rw [u4 h0, u2.i (by omega), ht']
        exact qb_ui_1s
      · rw [u2.i (by omega), u2.i (by omega), f1.i (by omega), f1.i (by omega)]
        exact hr.2.1
      · rw [u2.i (by omega), u2.i (by omega), f1.i (by omega), f1.i (by omega)]
        exact hr.2.2.1
      · rw [u2.i (by omega), u2.i (by omega), f1.i (by omega), f1.i (by omega)]
        exact hr.2.2.2
  · obtain ⟨t', ht'⟩ : ∃ t', t' = qb_ui t 65 1 0 := ⟨_, rfl⟩
    have f1 : qG (fun x k => x = 65 ∧ k = 1 ∨ 127 ≤ x ∧ x ≤ 129) s t' := by rw [ht']; exact (a2.G.mo (fun x k h => by omega)).ui (by omega)
    obtain ⟨u, u1, u2, u3, u4, u5⟩ := hm t' ((f1.mo (fun x k h => by omega : ∀ x k, _ → x < 192)).F)
    refine ⟨r, t', u, hc _ (fun z => absurd z h0) (fun _ => by rw [ht']), u1, qZ_ans hZ ((f1.mo (fun x k h => by unfold qA_P; omega)).tr (u2.mo (fun x k h => by unfold qA_P; omega))) (qZt_0 ?_ u3) ?_⟩
    · rw [u2.i (by omega), ht']
      exact qb_ui_1s
    · refine ⟨?_, ?_, ?_, ?_⟩
      · rw [u5 h0, u2.i (by omega), f1.i (by omega)]
        exact hr.1
      · rw [u2.i (by omega), u2.i (by omega), f1.i (by omega), f1.i (by omega)]
        exact hr.2.1
      · rw [u2.i (by omega), u2.i (by omega), f1.i (by omega), f1.i (by omega)]
        exact hr.2.2.1
      · rw [u2.i (by omega), u2.i (by omega), f1.i (by omega), f1.i (by omega)]
        exact hr.2.2.2

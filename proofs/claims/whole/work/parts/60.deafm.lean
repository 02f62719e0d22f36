/-! deaf and key: the reference, and both -/
theorem df_oth {lo hi : Nat → Nat} {nw nm X : Nat} {f : Nat → Int32} {V : Nat} {Sh : Nat → Nat} {Y : Nat} : (if qm_any (qk_bad lo hi nm X f false V Sh Y) nw = true then 100000 else qk_ct lo hi nw nm X f Y) = 0 ↔ ∀ w, w < nw → qs_on f w = true → ¬ qm_ch lo hi nm X Y w = true := by
  have hb : ∀ w, qk_bad lo hi nm X f false V Sh Y w = (qs_on f w && qm_ch lo hi nm X Y w) := fun w => by
    unfold qk_bad
    rw [Bool.not_false, Bool.true_or, Bool.and_true]
  constructor
  · intro h w hw h1 h2
    rw [if_pos (qm_any_t.mpr ⟨w, hw, by rw [hb, h1, h2]; rfl⟩)] at h
    exact absurd h (by decide)
  · intro h
    rw [if_neg (fun z => by
      obtain ⟨w, hw, h1⟩ := qm_any_t.mp z
      rw [hb, Bool.and_eq_true] at h1
      exact h w hw h1.1 h1.2)]
    unfold qk_ct
    have : ∀ n, n ≤ nw → fa_cnt (fun c => qs_on f c && qm_ch lo hi nm X Y c) n = 0 := fun n => by
      induction n with
      | zero => exact fun _ => rfl
      | succ n ih =>
        intro hn
        rw [fa_cnt_no (p := fun c => qs_on f c && qm_ch lo hi nm X Y c), ih (by omega)]
        apply eq_false_of_ne_true
        intro z
        rw [Bool.and_eq_true] at z
        exact h n (by omega) z.1 z.2
    exact this nw (Nat.le_refl _)
theorem df_g_t {P : Nat → Nat} {Y r : Nat} : df_g (fun _ => true) P Y r = r ||| P Y := if_pos rfl
/-- what comes out of wire w by the settings below T -/
def df_C (lo hi : Nat → Nat) (nm : Nat) (S : Nat → Bool) (T w : Nat) : Nat := qm_fo S (df_g (fun _ => true) (fun Y => 2 ^ qm_wr lo hi Y w nm)) 0 T
theorem sp_layComes (d : Nat) (s : qb_M) (c : Nat × Nat) {nw nm : Nat} {lo hi : Nat → Nat} (hp : qm_pl s nw nm lo hi) {V : Nat} (hV : s.1 194 3 = nI V ∧ V ≤ 9) {H X J : Nat} {Lf Sh : Nat → Nat} (hI : qs_in nw nm lo hi (qm_so s) H X J Lf Sh) (G : Nat) : ∃ t, qe (d + 5) 243 [.ref 192, .int (nI G)] (qb_hp (s), 149, c) = some (none, (qb_hp (t), 149, c)) ∧ (∀ w, w < nw → t.1 206 w = nI (df_C lo hi nm (qm_S X (df_F lo hi nw nm X G (qm_so s))) (2 ^ nm) w)) ∧ qF (fun x => x = 204 ∨ x = 206) s t := by
  have hok := hp.ok
  obtain ⟨p1, p2, ⟨p3, p4, p5⟩, p6⟩ := id hp
  obtain ⟨hH, ⟨hX, hX2⟩, ⟨hJ, hJ2⟩, hW⟩ := id hI
  have h10 : 2 ^ nm ≤ 2 ^ 10 := Nat.pow_le_pow_right (by decide) p5
  have hX31 : s.1 194 31 = nI X := hX
  obtain ⟨u, hu⟩ : ∃ u, u = qb_wl s 204 0 nw (fun w => lN (qm_wy lo hi X w nm)) := ⟨_, rfl⟩
  have hfu : qF (fun x => x = 204 ∨ x = 206) s u := by
    rw [hu]
    exact fun x hx => ⟨rfl, funext fun j => qb_wl_o (Or.inl (fun z => hx (Or.inl z))), rfl⟩
  have hul : ∀ w, w < nw → u.2.1 204 w = lN (qm_wy lo hi X w nm) := fun w hw => by
    rw [hu]
    have := qb_wl_in (s := s) (a := 204) (i := 0) (n := nw) (k := w) (g := fun w => lN (qm_wy lo hi X w nm)) hw
    rw [Nat.zero_add] at this
    exact this
  obtain ⟨S, hS⟩ : ∃ S, S = qm_S X (df_F lo hi nw nm X G (qm_so s)) := ⟨_, rfl⟩
  rw [← hS]
  have hC8 : ∀ T w, w < nw → df_C lo hi nm S T w < 2 ^ 8 := fun T w hw => by
    unfold df_C
    refine qm_lt_of_bit (fun j hj => ?_)
    rw [← Bool.not_eq_true, df_fo]
    rintro ⟨Y, _, _, _, h⟩
    have hlt := qm_wr_lt hok Y hw nm (Nat.le_refl _)
    rw [Nat.testBit_two_pow, decide_eq_true_eq] at h
    omega
  have loop : ∀ m Y (t : qb_M) l3, Y + m = 2 ^ nm → qF (fun x => x = 206) u t → (∀ w, w < nw → t.1 206 w = nI (df_C lo hi nm S Y w)) → ∃ z, qa_lm (qe (d + 4)) (qa_cd qc_243) (27, [.ref 192, .int (nI G), .int (nI Y), l3], [], (qb_hp (t), 149, c)) = some (none, (qb_hp (z), 149, c)) ∧ (∀ w, w < nw → z.1 206 w = nI (df_C lo hi nm S (2 ^ nm) w)) ∧ qF (fun x => x = 206) u z := by
    intro m
    induction m with
    | zero =>
      intro Y t l3 hY hf hC
      have hY : Y = 2 ^ nm := by omega
      refine ⟨t, ?_, by rw [← hY]; exact hC, hf⟩
      refine go_ild_4_2 rfl ?_
      refine go_c rfl ?_
      refine go_ald_4_0 rfl ?_
      refine go_getr rfl ⟨_, rfl, rfl, by decide, by decide⟩ ?_
      refine go_c rfl ?_
      refine go_iald (j := 1) rfl ⟨rfl, by decide, by decide, by decide⟩ rfl (by decide) ?_
      rw [show t.1 194 1 = nI nm from (hf.i (by decide)).trans ((hfu.i (by decide)).trans p2)]
      refine go_ishl rfl ?_
      rw [qx_1shl nm (by omega), ← hY]
      refine go_icge rfl (fun e => ?_) (fun e => ?_)
      · exact fin_v rfl rfl
      · exact absurd (Int32.le_refl _) e
    | succ m ih =>
      intro Y t l3 hY hf hC
      have hft : qF (fun x => x = 204 ∨ x = 206) s t := hfu.tr (hf.mo (fun x h => Or.inr h))
      have hpt : qm_pl t nw nm lo hi := hp.mv hft (by decide)
      have hso : qm_so t = qm_so s := funext fun k => hft.i (by decide)
      have hob := sp_othersBy d t c hpt (V := V) (H := H) (X := X) (J := J) (Lf := Lf) (Sh := Sh) (by rw [hft.i (by decide)]; exact hV) (by rw [hso]; exact hI) (fun w hw => (hf.l (by decide)).trans (hul w hw)) Y (by omega) 0 false (by decide)
      rw [hso] at hob
      have hdo := df_oth (lo := lo) (hi := hi) (nw := nw) (nm := nm) (X := X) (f := qm_so s) (V := V) (Sh := Sh) (Y := Y)
      have hob9 : (if qm_any (qk_bad lo hi nm X (qm_so s) false V Sh Y) nw = true then 100000 else qk_ct lo hi nw nm X (qm_so s) Y) < 2 ^ 31 := by
        have := qk_ct_le (lo := lo) (hi := hi) (nw := nw) (nm := nm) (X := X) (f := qm_so s) (Y := Y)
        split <;> omega
      generalize (if qm_any (qk_bad lo hi nm X (qm_so s) false V Sh Y) nw = true then 100000 else qk_ct lo hi nw nm X (qm_so s) Y) = O at hob hdo hob9
      have hSY : S Y = true ↔ qm_S X G Y = true ∧ O = 0 := by rw [hS, df_S, hdo]
      have head : ∀ R, (S Y = true → qa_lm (qe (d + 4)) (qa_cd qc_243) (60, [.ref 192, .int (nI G), .int (nI Y), l3], [], (qb_hp (t), 149, c)) = R) → (¬ S Y = true → qa_lm (qe (d + 4)) (qa_cd qc_243) (95, [.ref 192, .int (nI G), .int (nI Y), l3], [], (qb_hp (t), 149, c)) = R) → qa_lm (qe (d + 4)) (qa_cd qc_243) (27, [.ref 192, .int (nI G), .int (nI Y), l3], [], (qb_hp (t), 149, c)) = R := fun R g1 g2 => by
        rw [hSY] at g1 g2
        refine go_ild_4_2 rfl ?_
        refine go_c rfl ?_
        refine go_ald_4_0 rfl ?_
        refine go_getr rfl ⟨_, rfl, rfl, by decide, by decide⟩ ?_
        refine go_c rfl ?_
        refine go_iald (j := 1) rfl ⟨rfl, by decide, by decide, by decide⟩ rfl (by decide) ?_
        rw [show t.1 194 1 = nI nm from (hft.i (by decide)).trans p2]
        refine go_ishl rfl ?_
        rw [qx_1shl nm (by omega)]
        refine go_icge rfl (fun e => ?_) (fun e => ?_)
        · exact absurd e (nI_ge (by omega) (by omega))
        · refine go_ald_4_0 rfl ?_
          refine go_ild_4_2 rfl ?_
          refine go_ild_4_1 rfl ?_
          refine go_call3 rfl (sp_isFixed (d + 3) t c (X := X) (Y := Y) (J := G) ((hft.i (by decide)).trans hX31) (by omega) (by omega)) (Nat.le_of_ble_eq_true rfl) (qb_qv rfl (by decide) (by decide)) ?_
          refine go_ifeq rfl (fun e1 => ?_) (fun e1 => ?_)
          · exact g2 (fun z => qB_0.mp e1 z.1)
          · have e1 : qm_S X G Y = true := Classical.byContradiction fun z => e1 (qB_f z)
            refine go_ald_4_0 rfl ?_
            refine go_ild_4_2 rfl ?_
            refine go_c rfl ?_
            refine go_call3 rfl (hob) (Nat.le_of_ble_eq_true rfl) (qb_qv rfl (by decide) (by decide)) ?_
            refine go_ifeq rfl (fun e2 => ?_) (fun e2 => ?_)
            · exact g1 ⟨e1, (nI_eq (b := 0) hob9 (by decide)).mp e2⟩
            · have e2 : ¬ O = 0 := fun z => e2 (by rw [z]; rfl)
              refine go_goto rfl ?_
              exact g2 (fun z => e2 z.2)
      by_cases hk : S Y = true
      · have hCs : ∀ w, df_C lo hi nm S (Y + 1) w = df_C lo hi nm S Y w ||| 2 ^ qm_wr lo hi Y w nm := fun w => by
          show (if S Y = true then _ else _) = _
          rw [if_pos hk]
          exact df_g_t
        have inner : ∀ m2 w (t : qb_M), w + m2 = nw → qF (fun x => x = 206) u t → (∀ x, x < nw → t.1 206 x = nI (df_C lo hi nm S (if x < w then Y + 1 else Y) x)) → ∃ z, qa_lm (qe (d + 4)) (qa_cd qc_243) (62, [.ref 192, .int (nI G), .int (nI Y), .int (nI w)], [], (qb_hp (t), 149, c)) = some (none, (qb_hp (z), 149, c)) ∧ (∀ w, w < nw → z.1 206 w = nI (df_C lo hi nm S (2 ^ nm) w)) ∧ qF (fun x => x = 206) u z := by
          intro m2
          induction m2 with
          | zero =>
            intro w t hw hf hC
            have hw : w = nw := by omega
            obtain ⟨z, z1, z2⟩ := ih (Y + 1) t (.int (nI w)) (by omega) hf (fun x hx => by rw [hC x hx, if_pos (by omega)])
            refine ⟨z, ?_, z2⟩
            refine go_ild_4_3 rfl ?_
            refine go_ald_4_0 rfl ?_
            refine go_getr rfl ⟨_, rfl, rfl, by decide, by decide⟩ ?_
            refine go_c rfl ?_
            refine go_iald (j := 0) rfl ⟨rfl, by decide, by decide, by decide⟩ rfl (by decide) ?_
            rw [show t.1 194 0 = nI nw from (hf.i (by decide)).trans ((hfu.i (by decide)).trans p1)]
            refine go_icge rfl (fun e => ?_) (fun e => ?_)
            · refine go_inc_4_2 rfl rfl ?_
              refine go_goto rfl ?_
              rw [nI_1]
              exact z1
            · exact absurd (by rw [hw]; exact Int32.le_refl _) e
          | succ m2 ih2 =>
            intro w t hw hf hC
            have hft : qF (fun x => x = 204 ∨ x = 206) s t := hfu.tr (hf.mo (fun x h => Or.inr h))
            have hpt : qm_pl t nw nm lo hi := hp.mv hft (by decide)
            have hlt := qm_wr_lt hok Y (i := w) (by omega) nm (Nat.le_refl _)
            obtain ⟨z, z1, z2⟩ := ih2 (w + 1) (qb_ui t 206 w (nI (df_C lo hi nm S (Y + 1) w))) (by omega) (hf.ui rfl) (fun x hx => by
              by_cases e : x = w
              · subst e
                rw [qb_ui_1s, if_pos (by omega)]
              · rw [qb_ui_1n (Or.inr e), hC x hx]
                by_cases e2 : x < w
                · rw [if_pos e2, if_pos (by omega)]
                · rw [if_neg e2, if_neg (by omega)])
            refine ⟨z, ?_, z2⟩
            rw [hCs] at z1
            have hCw := hC w (by omega)
            rw [if_neg (Nat.lt_irrefl w)] at hCw
            refine go_ild_4_3 rfl ?_
            refine go_ald_4_0 rfl ?_
            refine go_getr rfl ⟨_, rfl, rfl, by decide, by decide⟩ ?_
            refine go_c rfl ?_
            refine go_iald (j := 0) rfl ⟨rfl, by decide, by decide, by decide⟩ rfl (by decide) ?_
            rw [show t.1 194 0 = nI nw from (hf.i (by decide)).trans ((hfu.i (by decide)).trans p1)]
            refine go_icge rfl (fun e => ?_) (fun e => ?_)
            · exact absurd e (nI_ge (by omega) (by omega))
            · refine go_ald_4_0 rfl ?_
              refine go_getr rfl ⟨_, rfl, rfl, by decide, by decide⟩ ?_
              refine go_ild_4_3 rfl ?_
              refine go_dup2 rfl ?_
              refine go_iald (j := w) rfl (⟨rfl, by decide, by decide, by decide⟩) (rfl) (by omega) ?_
              rw [hCw]
              refine go_c rfl ?_
              refine go_ald_4_0 rfl ?_
              refine go_ild_4_3 rfl ?_
              refine go_ild_4_2 rfl ?_
              refine go_call3 rfl (sp_outOf d t c hpt Y w (by omega) (by omega)) (Nat.le_of_ble_eq_true rfl) (qb_qv rfl (by decide) (by decide)) ?_
              refine go_ishl rfl ?_
              rw [qx_1shl _ (by omega)]
              refine go_ior rfl ?_
              rw [fa_or]
              refine go_iast (j := w) rfl (⟨rfl, by decide, by decide, by decide⟩) (rfl) (by omega) ?_
              refine go_inc_4_3 rfl rfl ?_
              refine go_goto rfl ?_
              rw [nI_1]
              exact z1
        obtain ⟨z, z1, z2⟩ := inner nw 0 t (by omega) hf (fun x hx => by rw [if_neg (Nat.not_lt_zero x)]; exact hC x hx)
        refine ⟨z, head _ (fun _ => ?_) (fun q => absurd hk q), z2⟩
        refine go_c rfl ?_
        refine go_ist_4_3 rfl rfl ?_
        exact z1
      · have hCs : ∀ w, df_C lo hi nm S (Y + 1) w = df_C lo hi nm S Y w := fun w => if_neg hk
        obtain ⟨z, z1, z2⟩ := ih (Y + 1) t l3 (by omega) hf (fun x hx => by rw [hCs]; exact hC x hx)
        refine ⟨z, head _ (fun q => absurd q hk) (fun _ => ?_), z2⟩
        refine go_inc_4_2 rfl rfl ?_
        refine go_goto rfl ?_
        rw [nI_1]
        exact z1
  obtain ⟨z, z1, z2, z3⟩ := loop (2 ^ nm) 0 (qb_wr u 206 0 8 (fun _ => 0)) (.retAddr 0) (by omega) (qF.rf.wr rfl) (fun w hw => by
    have := qb_wr_in (s := u) (a := 206) (i := 0) (n := 8) (k := w) (g := fun _ => 0) (by omega)
    rw [Nat.zero_add] at this
    rw [this]
    rfl)
  refine ⟨z, ?_, z2, hfu.tr (z3.mo (fun x h => Or.inr h))⟩
  have fill : ∀ m k, k + m = 8 → qa_lm (qe (d + 4)) (qa_cd qc_243) (6, [.ref 192, .int (nI G), .int (nI k), .retAddr 0], [], (qb_hp (qb_wr u 206 0 k (fun _ => 0)), 149, c)) = some (none, (qb_hp (z), 149, c)) := by
    intro m
    induction m with
    | zero =>
      intro k hk
      have hk : k = 8 := by omega
      subst hk
      refine go_ild_4_2 rfl ?_
      refine go_c rfl ?_
      refine go_icge rfl (fun e => ?_) (fun e => ?_)
      · refine go_c rfl ?_
        refine go_ist_4_2 rfl rfl ?_
        exact z1
      · exact absurd (Int32.le_refl _) e
    | succ m ih =>
      intro k hk
      have ih := ih (k + 1) (by omega)
      refine go_ild_4_2 rfl ?_
      refine go_c rfl ?_
      refine go_icge rfl (fun e => ?_) (fun e => ?_)
      · exact absurd e (nI_ge (b := 8) (by omega) (by decide))
      · refine go_ald_4_0 rfl ?_
        refine go_getr rfl ⟨_, rfl, rfl, by decide, by decide⟩ ?_
        refine go_ild_4_2 rfl ?_
        refine go_c rfl ?_
        refine go_iast (j := k) rfl (⟨rfl, by decide, by decide, by decide⟩) (rfl) (by omega) ?_
        rw [qb_wr_s (j := k) (n := k) (g := fun _ => 0) (by omega) rfl]
        refine go_inc_4_2 rfl rfl ?_
        refine go_goto rfl ?_
        rw [nI_1]
        exact ih
  have hlw := sp_layWays d s c hp hX31 (by omega)
  rw [← hu] at hlw
  refine (en_243 (d + 4) 192 (nI G) _).trans ?_
  refine go_ald_4_0 rfl ?_
  refine go_call1 rfl (hlw) (Nat.le_of_ble_eq_true rfl) (qb_qv rfl (by decide) (by decide)) ?_
  refine go_c rfl ?_
  refine go_ist_4_2 rfl rfl ?_
  have := fill 8 0 (by omega)
  rw [qb_wr_0] at this
  exact this
theorem sp_isDeaf (d : Nat) (s : qb_M) (c : Nat × Nat) {nw : Nat} {C : Nat → Nat} (hC : ∀ w, w < nw → s.1 206 w = nI (C w) ∧ C w < 2 ^ 8) (hn : nw ≤ 8) (i o : Nat) (hi : i < nw) (ho : o < nw) : qe (d + 4) 245 [.ref 192, .int (nI i), .int (nI o)] (qb_hp (s), 149, c) = some (some (.int (qB ((!qs_bz (qm_so s) i o && !(C i).testBit o) = true))), (qb_hp (s), 149, c)) := by
  obtain ⟨h1, h2⟩ := hC i hi
  refine (en_245 (d + 3) 192 (nI i) (nI o) _).trans ?_
  refine go_ald_3_0 rfl ?_
  refine go_ild_3_1 rfl ?_
  refine go_ild_3_2 rfl ?_
  refine go_call3 rfl (sp_isBusyM d s c i o (by omega)) (Nat.le_of_ble_eq_true rfl) (qb_qv rfl (by decide) (by decide)) ?_
  refine go_ifne rfl (fun e => ?_) (fun e => ?_)
  · refine go_ald_3_0 rfl ?_
    refine go_getr rfl ⟨_, rfl, rfl, by decide, by decide⟩ ?_
    refine go_ild_3_1 rfl ?_
    refine go_iald (j := i) rfl (⟨rfl, by decide, by decide, by decide⟩) (rfl) (by omega) ?_
    rw [h1]
    refine go_ild_3_2 rfl ?_
    refine go_call2 rfl (sp_has (d + 2) (C i) o (by omega) (by omega) _) (Nat.le_of_ble_eq_true rfl) rfl ?_
    refine go_ifne rfl (fun e2 => ?_) (fun e2 => ?_)
    · have e := qB_0.mp e
      have e2 := qB_0.mp e2
      refine go_c rfl ?_
      refine go_goto rfl ?_
      exact fin_i rfl rfl (qR_i (qB_t (by rw [eq_false_of_ne_true e, eq_false_of_ne_true e2]; rfl)).symm)
    · have e2 : (C i).testBit o = true := Classical.byContradiction fun z => e2 (qB_f z)
      refine go_c rfl ?_
      exact fin_i rfl rfl (qR_i (qB_f (by rw [e2, Bool.not_true, Bool.and_false]; exact Bool.false_ne_true)).symm)
  · have e : qs_bz (qm_so s) i o = true := Classical.byContradiction fun z => e (qB_f z)
    refine go_c rfl ?_
    exact fin_i rfl rfl (qR_i (qB_f (by rw [e]; exact Bool.false_ne_true)).symm)
theorem sp_deafPairs (d : Nat) (s : qb_M) (c : Nat × Nat) {nw : Nat} (hnw : s.1 194 0 = nI nw) {C : Nat → Nat} (hC : ∀ w, w < nw → s.1 206 w = nI (C w) ∧ C w < 2 ^ 8) (hn : nw ≤ 8) : qe (d + 5) 244 [.ref 192] (qb_hp (s), 149, c) = some (some (.int (nI (fa_cnt (df_p nw (qm_so s) (fun j => (C (j / 8)).testBit (j % 8))) 64))), (qb_hp (s), 149, c)) := by
  obtain ⟨p, hpp⟩ : ∃ p, p = df_p nw (qm_so s) (fun j => (C (j / 8)).testBit (j % 8)) := ⟨_, rfl⟩
  rw [← hpp]
  have outer : ∀ m i l3, i + m = nw → qa_lm (qe (d + 4)) (qa_cd qc_244) (4, [.ref 192, .int (nI (fa_cnt p (8 * i))), .int (nI i), l3], [], (qb_hp (s), 149, c)) = some (some (.int (nI (fa_cnt p 64))), (qb_hp (s), 149, c)) := by
    intro m
    induction m with
    | zero =>
      intro i l3 hi
      have hi : i = nw := by omega
      subst hi
      have he : fa_cnt p (8 * i) = fa_cnt p 64 := by rw [hpp]; exact df_p_end hn
      refine go_ild_4_2 rfl ?_
      refine go_ald_4_0 rfl ?_
      refine go_getr rfl ⟨_, rfl, rfl, by decide, by decide⟩ ?_
      refine go_c rfl ?_
      refine go_iald (j := 0) rfl ⟨rfl, by decide, by decide, by decide⟩ rfl (by decide) ?_
      rw [hnw]
      refine go_icge rfl (fun e => ?_) (fun e => ?_)
      · refine go_ild_4_1 rfl ?_
        rw [he]
        exact fin_i rfl rfl rfl
      · exact absurd (Int32.le_refl _) e
    | succ m ih =>
      intro i l3 hi
      have inner : ∀ m2 o, o + m2 = nw → qa_lm (qe (d + 4)) (qa_cd qc_244) (16, [.ref 192, .int (nI (fa_cnt p (8 * i + o))), .int (nI i), .int (nI o)], [], (qb_hp (s), 149, c)) = some (some (.int (nI (fa_cnt p 64))), (qb_hp (s), 149, c)) := by
        intro m2
        induction m2 with
        | zero =>
          intro o ho
          have ho : o = nw := by omega
          subst ho
          have he : fa_cnt p (8 * i + o) = fa_cnt p (8 * (i + 1)) := by rw [hpp]; exact df_p_row hn
          refine go_ild_4_3 rfl ?_
          refine go_ald_4_0 rfl ?_
          refine go_getr rfl ⟨_, rfl, rfl, by decide, by decide⟩ ?_
          refine go_c rfl ?_
          refine go_iald (j := 0) rfl ⟨rfl, by decide, by decide, by decide⟩ rfl (by decide) ?_
          rw [hnw]
          refine go_icge rfl (fun e => ?_) (fun e => ?_)
          · refine go_inc_4_2 rfl rfl ?_
            refine go_goto rfl ?_
            rw [nI_1, he]
            exact ih (i + 1) _ (by omega)
          · exact absurd (Int32.le_refl _) e
        | succ m2 ih2 =>
          intro o ho
          have ih2 := ih2 (o + 1) (by omega)
          have hat : p (8 * i + o) = (!qs_bz (qm_so s) i o && !(C i).testBit o) := by
            rw [hpp, df_p_at (by omega) (by omega) hn, show (8 * i + o) / 8 = i by omega, show (8 * i + o) % 8 = o by omega]
          have hd := sp_isDeaf d s c hC hn i o (by omega) (by omega)
          rw [← hat] at hd
          refine go_ild_4_3 rfl ?_
          refine go_ald_4_0 rfl ?_
          refine go_getr rfl ⟨_, rfl, rfl, by decide, by decide⟩ ?_
          refine go_c rfl ?_
          refine go_iald (j := 0) rfl ⟨rfl, by decide, by decide, by decide⟩ rfl (by decide) ?_
          rw [hnw]
          refine go_icge rfl (fun e => ?_) (fun e => ?_)
          · exact absurd e (nI_ge (by omega) (by omega))
          · refine go_ald_4_0 rfl ?_
            refine go_ild_4_2 rfl ?_
            refine go_ild_4_3 rfl ?_
            refine go_call3 rfl (hd) (Nat.le_of_ble_eq_true rfl) (qb_qv rfl (by decide) (by decide)) ?_
            refine go_ifeq rfl (fun e2 => ?_) (fun e2 => ?_)
            · rw [show 8 * i + (o + 1) = (8 * i + o) + 1 by omega, fa_cnt_no (eq_false_of_ne_true (qB_0.mp e2))] at ih2
              refine go_inc_4_3 rfl rfl ?_
              refine go_goto rfl ?_
              rw [nI_1]
              exact ih2
            · have e2 : p (8 * i + o) = true := Classical.byContradiction fun z => e2 (qB_f z)
              rw [show 8 * i + (o + 1) = (8 * i + o) + 1 by omega, fa_cnt_yes e2] at ih2
              refine go_inc_4_1 rfl rfl ?_
              rw [nI_1]
              refine go_inc_4_3 rfl rfl ?_
              refine go_goto rfl ?_
              rw [nI_1]
              exact ih2
      refine go_ild_4_2 rfl ?_
      refine go_ald_4_0 rfl ?_
      refine go_getr rfl ⟨_, rfl, rfl, by decide, by decide⟩ ?_
      refine go_c rfl ?_
      refine go_iald (j := 0) rfl ⟨rfl, by decide, by decide, by decide⟩ rfl (by decide) ?_
      rw [hnw]
      refine go_icge rfl (fun e => ?_) (fun e => ?_)
      · exact absurd e (nI_ge (by omega) (by omega))
      · refine go_c rfl ?_
        refine go_ist_4_3 rfl rfl ?_
        exact inner nw 0 (by omega)
  refine (en_244 (d + 4) 192 _).trans ?_
  refine go_c rfl ?_
  refine go_ist_4_1 rfl rfl ?_
  refine go_c rfl ?_
  refine go_ist_4_2 rfl rfl ?_
  exact outer nw 0 _ (by omega)
/-- both name the same pairs -/
theorem df_same {nw nm : Nat} {lo hi : Nat → Nat} (hok : qm_ok nw nm lo hi) {S : Nat → Bool} {T i o : Nat} (hi0 : i < nw) (ho : o < nw) : (qm_fo S (df_g (fun _ => true) (fun Y => df_pr lo hi nm Y nw)) 0 T).testBit (8 * i + o) = (df_C lo hi nm S T i).testBit o := by
  have h8 := hok.1
  unfold df_C
  rw [Bool.eq_iff_iff, df_fo, df_fo]
  constructor
  · rintro ⟨Y, a, b, c, e⟩
    refine ⟨Y, a, b, c, ?_⟩
    rw [(df_pr_bit hi0 (by omega) (by omega)).mp e, Nat.testBit_two_pow]
    exact decide_eq_true rfl
  · rintro ⟨Y, a, b, c, e⟩
    refine ⟨Y, a, b, c, (df_pr_bit hi0 (by omega) (by omega)).mpr ?_⟩
    rw [Nat.testBit_two_pow, decide_eq_true_eq] at e
    exact e
theorem df_C8 {nw nm : Nat} {lo hi : Nat → Nat} (hok : qm_ok nw nm lo hi) {S : Nat → Bool} {T w : Nat} (hw : w < nw) : df_C lo hi nm S T w < 2 ^ 8 := by
  have h8 := hok.1
  unfold df_C
  refine qm_lt_of_bit (fun j hj => ?_)
  rw [← Bool.not_eq_true, df_fo]
  rintro ⟨Y, _, _, _, h⟩
  have hlt := qm_wr_lt hok Y hw nm (Nat.le_refl _)
  rw [Nat.testBit_two_pow, decide_eq_true_eq] at h
  omega
theorem df_F_R {lo hi : Nat → Nat} {nw nm X J : Nat} {f g : Nat → Int32} (h : ∀ w, w < nw → qs_on f w = qs_on g w) : qm_S X (df_F lo hi nw nm X J f) = qm_S X (df_F lo hi nw nm X J g) := funext fun Y => by
  rw [Bool.eq_iff_iff, df_S, df_S]
  constructor
  · rintro ⟨a, b⟩
    exact ⟨a, fun w hw h1 => b w hw (by rw [h w hw]; exact h1)⟩
  · rintro ⟨a, b⟩
    exact ⟨a, fun w hw h1 => b w hw (by rw [← h w hw]; exact h1)⟩
theorem qT_deaf (d : Nat) : qT (d + 20) 97 242 [] := fun s c hZ => by
  obtain ⟨⟨hT, _, _, _, _, hr⟩, nw, nm, ns, V, F0, lo, hi, se, h1, h2, h3, h4⟩ := id hZ
  obtain ⟨hR, H, X, J, Lf, Sh, hI⟩ := id h2
  have hok := h1.c.ok
  have hn8 : nw ≤ 8 := h1.1.2.1
  have hIc := hR.in hI
  have hX5 : s.1 73 5 = nI X := by rw [← qs_so_h (s := s) (a := 73) (k := 1) (by decide)]; exact hIc.2.1.1
  have hJ5 : s.1 73 6 = nI J := by rw [← qs_so_h (s := s) (a := 73) (k := 2) (by decide)]; exact hIc.2.2.1.1
  obtain ⟨t, a1, a2⟩ := sp_reach (d + 15) s c h1.c hX5 hI.2.1.2 hJ5
  rw [df_F_R (g := qm_so s) (fun w hw => hR.on (by omega))] at a1
  have hW : qm_fo (qm_S X (df_F lo hi nw nm X J (qm_so s))) (df_g (fun _ => true) (fun Y => df_pr lo hi nm Y nw)) 0 (2 ^ nm) < 2 ^ 64 := df_fo_lt (fun Y => qm_ac_lt _ 64) _
  have hsame : ∀ i o, i < nw → o < nw → _ := fun i o hi0 ho => df_same hok (S := qm_S X (df_F lo hi nw nm X J (qm_so s))) (T := 2 ^ nm) hi0 ho
  generalize qm_fo (qm_S X (df_F lo hi nw nm X J (qm_so s))) (df_g (fun _ => true) (fun Y => df_pr lo hi nm Y nw)) 0 (2 ^ nm) = W at a1 hW hsame
  obtain ⟨v, b1, b2, b3⟩ := sp_countDeaf (d + 16) t c (h1.c.mv a2 (by decide) (by decide) (by decide)) W hW
  have hso : qs_so t 73 = qs_so s 73 := qs_so_F a2 (fun k hk => by omega)
  rw [hso] at b1 b2
  obtain ⟨C, hC⟩ : ∃ C, C = fun w => df_C lo hi nm (qm_S X (df_F lo hi nw nm X J (qm_so s))) (2 ^ nm) w := ⟨_, rfl⟩
  have hpe : df_p nw (qs_so s 73) W.testBit = df_p nw (qm_so s) (fun j => (C (j / 8)).testBit (j % 8)) := df_p_cong hn8 (fun i o hi0 _ => hR.bz (by omega)) (fun i o hi0 ho => by
    rw [hsame i o hi0 ho, hC, show (8 * i + o) / 8 = i by omega, show (8 * i + o) % 8 = o by omega])
  rw [hpe] at b1 b2
  have fv : qG (fun x k => x = 127 ∨ x = 128 ∨ x = 129 ∧ k = 6) s v := (a2.G.mo (fun x k h => by omega)).tr (b3.mo (fun x k h => by omega))
  have hm : ∀ v' : qb_M, qF (fun x => x < 192) s v' → ∃ u, qe (d + 20) 242 [.ref 192] (qb_hp (v'), 149, c) = some (some (.int (nI (fa_cnt (df_p nw (qm_so s) (fun j => (C (j / 8)).testBit (j % 8))) 64))), (qb_hp (u), 149, c)) ∧ qG (fun x k => x = 192 ∧ (k = 0 ∨ k = 30) ∨ x = 204 ∨ x = 206) v' u ∧ (fa_cnt (df_p nw (qm_so s) (fun j => (C (j / 8)).testBit (j % 8))) 64 = 0 → u.1 192 30 = s.1 192 30) ∧ (fa_cnt (df_p nw (qm_so s) (fun j => (C (j / 8)).testBit (j % 8))) 64 ≠ 0 → ∃ z, df_p nw (qm_so s) (fun j => (C (j / 8)).testBit (j % 8)) z = true ∧ (∀ j, j < z → ¬ df_p nw (qm_so s) (fun j => (C (j / 8)).testBit (j % 8)) j = true) ∧ u.1 192 30 = nI z) := fun v' hv' => by
    have f0 : qF (fun x => x < 193) s (qb_ui v' 192 0 0) := (hv'.mo (fun x h => by omega)).ui (by decide)
    have hso0 : qm_so (qb_ui v' 192 0 0) = qm_so s := funext fun k => f0.i (by decide)
    obtain ⟨y, y1, y2, y3⟩ := sp_layComes (d + 14) (qb_ui v' 192 0 0) c (V := V) (H := H) (X := X) (J := J) (Lf := Lf) (Sh := Sh) (h1.m.mv f0 (by decide)) ⟨(f0.i (by decide)).trans h1.2.2.1.2.2.2.1, h1.1.2.2.2.2.1⟩ (by rw [hso0]; exact hI) J
    rw [hso0] at y2
    have y2 : ∀ w, w < nw → y.1 206 w = nI (C w) ∧ C w < 2 ^ 8 := fun w hw => ⟨by rw [y2 w hw, hC], by rw [hC]; exact df_C8 hok hw⟩
    have fy : qG (fun x k => x = 192 ∧ k = 0 ∨ x = 204 ∨ x = 206) v' y := (qG.rf.ui (Or.inl ⟨rfl, rfl⟩)).tr (y3.G.mo (fun x k h => by omega))
    have hsoy : qm_so y = qm_so s := funext fun k => (y3.i (by decide)).trans (f0.i (by decide))
    have hnw : y.1 194 0 = nI nw := (y3.i (by decide)).trans ((f0.i (by decide)).trans h1.2.2.1.1)
    have hdp := sp_deafPairs (d + 14) y c hnw y2 hn8
    have hdf := fun i o hi0 ho => sp_isDeaf (d + 15) y c y2 hn8 i o hi0 ho
    rw [hsoy] at hdp
    simp only [hsoy] at hdf
    have hpat : ∀ i o, i < nw → o < nw → df_p nw (qm_so s) (fun j => (C (j / 8)).testBit (j % 8)) (8 * i + o) = (!qs_bz (qm_so s) i o && !(C i).testBit o) := fun i o hi0 ho => by
      rw [df_p_at hi0 ho hn8, show (8 * i + o) / 8 = i by omega, show (8 * i + o) % 8 = o by omega]
    have hpn : ∀ j, df_p nw (qm_so s) (fun j => (C (j / 8)).testBit (j % 8)) j = true → j / 8 < nw ∧ j % 8 < nw := fun j h => by
      unfold df_p at h
      rw [Bool.and_eq_true, Bool.and_eq_true, decide_eq_true_eq, decide_eq_true_eq] at h
      exact h.1
    generalize df_p nw (qm_so s) (fun j => (C (j / 8)).testBit (j % 8)) = p at hdp hpat hpn ⊢
    have hle := fa_cnt_le p 64
    have en : ∀ R, (fa_cnt p 64 = 0 → some (some (.int (0)), (qb_hp (y), 149, c)) = R) → (fa_cnt p 64 ≠ 0 → qa_lm (qe (d + 19)) (qa_cd qc_242) (29, [.ref 192, .int (nI (fa_cnt p 64)), .int (nI 0)], [], (qb_hp (y), 149, c)) = R) → qe (d + 20) 242 [.ref 192] (qb_hp (v'), 149, c) = R := fun R g1 g2 => by
      refine (en_242 (d + 19) 192 _).trans ?_
      refine go_ald_3_0 rfl ?_
      refine go_c rfl ?_
      refine go_puti rfl ⟨_, rfl, rfl, by decide, by decide⟩ rfl rfl ?_
      refine go_ald_3_0 rfl ?_
      refine go_ald_3_0 rfl ?_
      refine go_getr rfl ⟨_, rfl, rfl, by decide, by decide⟩ ?_
      refine go_c rfl ?_
      refine go_iald (j := 32) rfl ⟨rfl, by decide, by decide, by decide⟩ rfl (by decide) ?_
      rw [show (qb_ui v' 192 0 0).1 194 32 = nI J from (f0.i (by decide)).trans hI.2.2.1.1]
      refine go_call2 rfl (y1) (Nat.le_of_ble_eq_true rfl) (qb_qv rfl (by decide) (by decide)) ?_
      refine go_ald_3_0 rfl ?_
      refine go_call1 rfl (hdp) (Nat.le_of_ble_eq_true rfl) (qb_qv rfl (by decide) (by decide)) ?_
      refine go_ist_3_1 rfl rfl ?_
      refine go_ild_3_1 rfl ?_
      refine go_ifne rfl (fun e => ?_) (fun e => ?_)
      · have := g1 ((nI_eq (b := 0) (by omega) (by decide)).mp e)
        refine go_c rfl ?_
        exact fin_i rfl rfl this
      · have := g2 (fun z => e (by rw [z]; rfl))
        refine go_c rfl ?_
        refine go_ist_3_2 rfl rfl ?_
        exact this
    by_cases h0 : fa_cnt p 64 = 0
    · exact ⟨y, en _ (fun _ => by rw [h0]; rfl) (fun z => absurd h0 z), fy.mo (fun x k h => by omega), fun _ => (y3.i (by decide)).trans ((qb_ui_1n (Or.inr (by decide))).trans (hv'.i (by decide))), fun z => absurd h0 z⟩
    · obtain ⟨z, z1, z2, z3⟩ : ∃ z, z < 64 ∧ p z = true ∧ ∀ j, j < z → ¬ p j = true := fb_first (p := fun z => p z = true) (Classical.byContradiction fun q => h0 (by
        have := fa_cnt_skip (p := p) (a := 0) (n := 64) (fun k _ h hk => q ⟨k, by omega, hk⟩)
        exact this))
      have loop : ∀ m j, j + m = z → qa_lm (qe (d + 19)) (qa_cd qc_242) (29, [.ref 192, .int (nI (fa_cnt p 64)), .int (nI j)], [], (qb_hp (y), 149, c)) = some (some (.int (nI (fa_cnt p 64))), (qb_hp (qb_ui y 192 30 (nI z)), 149, c)) := by
        intro m
        have hw1 : ∀ x, x < nw → (0 ≤ nI x ∧ nI x < nI nw) := fun x hx => ⟨nI_le (a := 0) (Nat.zero_le _) (by omega), nI_lt hx (by omega)⟩
        have hw2 : ∀ x, x < 64 → ¬ x < nw → ¬ (0 ≤ nI x ∧ nI x < nI nw) := fun x hx hx2 z => hx2 ((nI_ltI (by omega) (by omega)).mp z.2)
        have hd8 : ∀ x, x < 64 → nI x / 8 = nI (x / 8) := fun x hx => pk_div (d := 8) (by omega) (by decide) (by decide)
        induction m with
        | zero =>
          intro j hj
          have hj : j = z := by omega
          subst hj
          obtain ⟨q1, q2⟩ := hpn j z2
          have hdj := hdf (j / 8) (j % 8) q1 q2
          rw [← hpat _ _ q1 q2, show 8 * (j / 8) + j % 8 = j by omega, qB_t z2] at hdj
          refine go_ald_3_0 rfl ?_
          refine go_ild_3_2 rfl ?_
          refine go_c rfl ?_
          refine go_idiv rfl (by decide) ?_
          rw [hd8 j z1]
          refine go_call2 rfl (sp_isWire (d + 17) y c hnw h1.1.1 hn8 _) (Nat.le_of_ble_eq_true rfl) (qb_qv rfl (by decide) (by decide)) ?_
          rw [qB_t (hw1 _ q1)]
          refine go_ifeq rfl (fun e => ?_) (fun e => ?_)
          · exact absurd e (by decide)
          · refine go_ald_3_0 rfl ?_
            refine go_ild_3_2 rfl ?_
            refine go_c rfl ?_
            refine go_irem rfl (by decide) ?_
            rw [qx_rem8 (by omega)]
            refine go_call2 rfl (sp_isWire (d + 17) y c hnw h1.1.1 hn8 _) (Nat.le_of_ble_eq_true rfl) (qb_qv rfl (by decide) (by decide)) ?_
            rw [qB_t (hw1 _ q2)]
            refine go_ifeq rfl (fun e => ?_) (fun e => ?_)
            · exact absurd e (by decide)
            · refine go_ald_3_0 rfl ?_
              refine go_ild_3_2 rfl ?_
              refine go_c rfl ?_
              refine go_idiv rfl (by decide) ?_
              refine go_ild_3_2 rfl ?_
              refine go_c rfl ?_
              refine go_irem rfl (by decide) ?_
              rw [qx_rem8 (a := j) (by omega), hd8 j z1]
              refine go_call3 rfl (hdj) (Nat.le_of_ble_eq_true rfl) (qb_qv rfl (by decide) (by decide)) ?_
              refine go_ifne rfl (fun e => ?_) (fun e => ?_)
              · exact absurd e (by decide)
              · refine go_ald_3_0 rfl ?_
                refine go_ild_3_2 rfl ?_
                refine go_puti rfl ⟨_, rfl, rfl, by decide, by decide⟩ rfl rfl ?_
                refine go_ild_3_1 rfl ?_
                exact fin_i rfl rfl rfl
        | succ m ih =>
          intro j hj
          have ih := ih (j + 1) (by omega)
          have hnj := z3 j (by omega)
          refine go_ald_3_0 rfl ?_
          refine go_ild_3_2 rfl ?_
          refine go_c rfl ?_
          refine go_idiv rfl (by decide) ?_
          rw [hd8 j (by omega)]
          refine go_call2 rfl (sp_isWire (d + 17) y c hnw h1.1.1 hn8 _) (Nat.le_of_ble_eq_true rfl) (qb_qv rfl (by decide) (by decide)) ?_
          refine go_ifeq rfl (fun e => ?_) (fun e => ?_)
          · refine go_inc_3_2 rfl rfl ?_
            refine go_goto rfl ?_
            rw [nI_1]
            exact ih
          · have q1 : j / 8 < nw := Classical.byContradiction fun z => e (qB_f (hw2 _ (by omega) z))
            refine go_ald_3_0 rfl ?_
            refine go_ild_3_2 rfl ?_
            refine go_c rfl ?_
            refine go_irem rfl (by decide) ?_
            rw [qx_rem8 (by omega)]
            refine go_call2 rfl (sp_isWire (d + 17) y c hnw h1.1.1 hn8 _) (Nat.le_of_ble_eq_true rfl) (qb_qv rfl (by decide) (by decide)) ?_
            refine go_ifeq rfl (fun e => ?_) (fun e => ?_)
            · refine go_inc_3_2 rfl rfl ?_
              refine go_goto rfl ?_
              rw [nI_1]
              exact ih
            · have q2 : j % 8 < nw := Classical.byContradiction fun z => e (qB_f (hw2 _ (by omega) z))
              have hdj := hdf (j / 8) (j % 8) q1 q2
              rw [← hpat _ _ q1 q2, show 8 * (j / 8) + j % 8 = j by omega, qB_f hnj] at hdj
              refine go_ald_3_0 rfl ?_
              refine go_ild_3_2 rfl ?_
              refine go_c rfl ?_
              refine go_idiv rfl (by decide) ?_
              refine go_ild_3_2 rfl ?_
              refine go_c rfl ?_
              refine go_irem rfl (by decide) ?_
              rw [qx_rem8 (a := j) (by omega), hd8 j (by omega)]
              refine go_call3 rfl (hdj) (Nat.le_of_ble_eq_true rfl) (qb_qv rfl (by decide) (by decide)) ?_
              refine go_ifne rfl (fun e => ?_) (fun e => ?_)
              · refine go_inc_3_2 rfl rfl ?_
                refine go_goto rfl ?_
                rw [nI_1]
                exact ih
              · exact absurd rfl e
      exact ⟨qb_ui y 192 30 (nI z), en _ (fun q => absurd q h0) (fun _ => loop z 0 (by omega)), (fy.mo (fun x k h => by omega)).ui (by omega), fun q => absurd q h0, fun _ => ⟨z, z2, z3, qb_ui_1s⟩⟩
  generalize hgp : df_p nw (qm_so s) (fun j => (C (j / 8)).testBit (j % 8)) = p at b1 b2 hm
  have hle := fa_cnt_le p 64
  have hc : ∀ R, (fa_cnt p 64 ≠ 0 → some (some (.int (nI (fa_cnt p 64))), (qb_hp (qb_ui v 64 16 (v.1 129 6)), 149, c)) = R) → (fa_cnt p 64 = 0 → some (some (.int (nI (fa_cnt p 64))), (qb_hp (v), 149, c)) = R) → qe (d + 20) 97 [.ref 64] (qb_hp (s), 149, c) = R := fun R g1 g2 => by
    refine (en_97 (d + 19) 64 _).trans ?_
    refine go_ald_2_0 rfl ?_
    refine go_getr rfl ⟨_, rfl, rfl, by decide, by decide⟩ ?_
    refine go_ald_2_0 rfl ?_
    refine go_getr rfl ⟨_, rfl, rfl, by decide, by decide⟩ ?_
    refine go_ald_2_0 rfl ?_
    refine go_getr rfl ⟨_, rfl, rfl, by decide, by decide⟩ ?_
    refine go_ald_2_0 rfl ?_
    refine go_getr rfl ⟨_, rfl, rfl, by decide, by decide⟩ ?_
    refine go_call2 rfl (a1) (Nat.le_of_ble_eq_true rfl) (qb_qv rfl (by decide) (by decide)) ?_
    refine go_call3 rfl (b1) (Nat.le_of_ble_eq_true rfl) (qb_qv rfl (by decide) (by decide)) ?_
    refine go_ist_2_1 rfl rfl ?_
    refine go_ild_2_1 rfl ?_
    refine go_ifle rfl (fun e => ?_) (fun e => ?_)
    · have := g2 (by have := (nI_leI (b := 0) (by omega) (by decide)).mp e; omega)
      refine go_ild_2_1 rfl ?_
      exact fin_i rfl rfl this
    · have := g1 (fun z => e (by rw [z]; exact Int32.le_refl _))
      refine go_ald_2_0 rfl ?_
      refine go_ald_2_0 rfl ?_
      refine go_getr rfl ⟨_, rfl, rfl, by decide, by decide⟩ ?_
      refine go_geti rfl ⟨_, rfl, rfl, by decide, by decide⟩ ?_
      refine go_puti rfl ⟨_, rfl, rfl, by decide, by decide⟩ rfl rfl ?_
      refine go_ild_2_1 rfl ?_
      exact fin_i rfl rfl this
  by_cases h0 : fa_cnt p 64 = 0
  · obtain ⟨u, u1, u2, u3, u4⟩ := hm v ((fv.mo (fun x k h => by omega : ∀ x k, _ → x < 192)).F)
    refine ⟨nI (fa_cnt p 64), v, u, hc _ (fun z => absurd h0 z) (fun _ => rfl), u1, qZ_ans hZ ((fv.mo (fun x k h => by unfold qA_P; omega)).tr (u2.mo (fun x k h => by unfold qA_P; omega))) ((hT.mv fv (fun x k h => by omega)).mv u2 (fun x k h => by omega)) ⟨?_, ?_, ?_, ?_⟩⟩
    · rw [u2.i (by omega), u2.i (by omega), fv.i (by omega), fv.i (by omega)]
      exact hr.1
    · rw [u2.i (by omega), u3 h0, fv.i (by omega)]
      exact hr.2.1
    · rw [u2.i (by omega), u2.i (by omega), fv.i (by omega), fv.i (by omega)]
      exact hr.2.2.1
    · rw [u2.i (by omega), u2.i (by omega), fv.i (by omega), fv.i (by omega)]
      exact hr.2.2.2
  · obtain ⟨v', hv'⟩ : ∃ v', v' = qb_ui v 64 16 (v.1 129 6) := ⟨_, rfl⟩
    have fv' : qG (fun x k => x = 64 ∧ k = 16 ∨ x = 127 ∨ x = 128 ∨ x = 129 ∧ k = 6) s v' := by rw [hv']; exact (fv.mo (fun x k h => Or.inr h)).ui (Or.inl ⟨rfl, rfl⟩)
    obtain ⟨u, u1, u2, u3, u4⟩ := hm v' ((fv'.mo (fun x k h => by omega : ∀ x k, _ → x < 192)).F)
    obtain ⟨z, z1, z2, z3⟩ := u4 h0
    obtain ⟨y, y0, y1, y2, y3⟩ := b2 h0
    refine ⟨nI (fa_cnt p 64), v', u, hc _ (fun _ => by rw [hv']) (fun z => absurd z h0), u1, qZ_ans hZ ((fv'.mo (fun x k h => by unfold qA_P; omega)).tr (u2.mo (fun x k h => by unfold qA_P; omega))) ((hT.mv fv' (fun x k h => by omega)).mv u2 (fun x k h => by omega)) ⟨?_, ?_, ?_, ?_⟩⟩
    · rw [u2.i (by omega), u2.i (by omega), fv'.i (by omega), fv'.i (by omega)]
      exact hr.1
    · rw [u2.i (by omega), z3, hv', qb_ui_1s, y3, fb_first_one (p := fun z => p z = true) y1 y2 z1 z2]
    · rw [u2.i (by omega), u2.i (by omega), fv'.i (by omega), fv'.i (by omega)]
      exact hr.2.2.1
    · rw [u2.i (by omega), u2.i (by omega), fv'.i (by omega), fv'.i (by omega)]
      exact hr.2.2.2

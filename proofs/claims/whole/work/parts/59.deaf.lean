/-! deaf and key, in both -/
theorem qx_lushr {n k : Nat} (hn : n < 2 ^ 64) (hk : k < 64) : ((lN n).toUInt64 >>> ((nI k).toInt64.toUInt64 &&& Int64.toUInt64 63)).toInt64 = lN (n / 2 ^ k) := by
  have e : (((nI k).toInt64.toUInt64 &&& Int64.toUInt64 63).toBitVec % 64).toNat = k := by revert hk; revert k; decide +kernel
  apply Int64.toBitVec_inj.1
  apply BitVec.eq_of_toNat_eq
  show (BitVec.ofNat 64 n >>> (((nI k).toInt64.toUInt64 &&& Int64.toUInt64 63).toBitVec % 64)).toNat = (BitVec.ofNat 64 (n / 2 ^ k)).toNat
  rw [BitVec.ushiftRight_eq', BitVec.toNat_ushiftRight, e, BitVec.toNat_ofNat, BitVec.toNat_ofNat, Nat.mod_eq_of_lt hn, Nat.shiftRight_eq_div_pow, Nat.mod_eq_of_lt (Nat.lt_of_le_of_lt (Nat.div_le_self _ _) hn)]
theorem qx_lbit {n k : Nat} (hn : n < 2 ^ 64) (hk : k < 64) : lg_cmp (((lN n).toUInt64 >>> ((nI k).toInt64.toUInt64 &&& Int64.toUInt64 63)).toInt64 &&& 1) 0 = 0 ↔ ¬ n.testBit k = true := by
  rw [qx_lushr hn hk, lg_cmp_0, show (1 : Int64) = lN (2 ^ 1 - 1) from rfl, fb_maskL, show (0 : Int64) = lN 0 from rfl, fb_lN_inj (by generalize n / 2 ^ k = z; omega) (by decide), Nat.testBit_eq_decide_div_mod_eq, decide_eq_true_eq]
  generalize n / 2 ^ k = z
  omega
theorem qm_pk_at {g : Nat → Nat} {w : Nat} (hg : g w < 8) (hw : w < 8) : qm_pk g / 2 ^ (4 * w) % 8 = g w := by
  apply Nat.eq_of_testBit_eq
  intro i
  rw [show (8 : Nat) = 2 ^ 3 from rfl, Nat.testBit_mod_two_pow, Nat.testBit_div_two_pow, qm_pk_bit]
  by_cases hi : i < 3
  · rw [decide_eq_true hi, decide_eq_true (show i + 4 * w < 32 by omega)]
    unfold qm_pb
    rw [show (i + 4 * w) / 4 = w by omega, show (i + 4 * w) % 4 = i by omega]
    rfl
  · rw [decide_eq_false hi, qm_b8 hg (by omega)]
    rfl
theorem fa_cnt_z {p : Nat → Bool} : ∀ {n : Nat}, fa_cnt p n = 0 → ∀ k, k < n → ¬ p k = true
  | 0, _, k, hk => absurd hk (Nat.not_lt_zero k)
  | n + 1, h, k, hk => by
    by_cases hp : p n = true
    · rw [fa_cnt_yes hp] at h
      omega
    · rw [fa_cnt_no (eq_false_of_ne_true hp)] at h
      by_cases e : k = n
      · subst e; exact hp
      · exact fa_cnt_z h k (by omega)
theorem fa_cnt_skip {p : Nat → Bool} {a : Nat} : ∀ {n : Nat}, (∀ k, a ≤ k → k < a + n → ¬ p k = true) → fa_cnt p (a + n) = fa_cnt p a
  | 0, _ => rfl
  | n + 1, h => by
    rw [← Nat.add_assoc, fa_cnt_no (eq_false_of_ne_true (h (a + n) (by omega) (by omega)))]
    exact fa_cnt_skip (fun k h1 h2 => h k h1 (by omega))
def df_g (q : Nat → Bool) (P : Nat → Nat) (Y r : Nat) : Nat := if q Y = true then r ||| P Y else r
theorem df_fo {SS q : Nat → Bool} {P : Nat → Nat} {j : Nat} : ∀ T, (qm_fo SS (df_g q P) 0 T).testBit j = true ↔ ∃ Y, Y < T ∧ SS Y = true ∧ q Y = true ∧ (P Y).testBit j = true
  | 0 => by
    show Nat.testBit 0 j = true ↔ _
    rw [Nat.zero_testBit]
    exact ⟨fun h => (by cases h), fun ⟨Y, h, _⟩ => absurd h (Nat.not_lt_zero Y)⟩
  | T + 1 => by
    have ih := df_fo (SS := SS) (q := q) (P := P) (j := j) T
    show (if SS T = true then df_g q P T (qm_fo SS (df_g q P) 0 T) else qm_fo SS (df_g q P) 0 T).testBit j = true ↔ _
    unfold df_g at ih ⊢
    by_cases h1 : SS T = true
    · rw [if_pos h1]
      by_cases h2 : q T = true
      · rw [if_pos h2, Nat.testBit_or, Bool.or_eq_true, ih]
        constructor
        · rintro (⟨Y, a, b⟩ | a)
          · exact ⟨Y, by omega, b⟩
          · exact ⟨T, by omega, h1, h2, a⟩
        · rintro ⟨Y, a, b⟩
          by_cases e : Y = T
          · subst e; exact Or.inr b.2.2
          · exact Or.inl ⟨Y, by omega, b⟩
      · rw [if_neg h2, ih]
        constructor
        · rintro ⟨Y, a, b⟩
          exact ⟨Y, by omega, b⟩
        · rintro ⟨Y, a, b⟩
          by_cases e : Y = T
          · subst e; exact absurd b.2.1 h2
          · exact ⟨Y, by omega, b⟩
    · rw [if_neg h1, ih]
      constructor
      · rintro ⟨Y, a, b⟩
        exact ⟨Y, by omega, b⟩
      · rintro ⟨Y, a, b⟩
        by_cases e : Y = T
        · subst e; exact absurd b.1 h1
        · exact ⟨Y, by omega, b⟩
theorem df_fo_lt {SS q : Nat → Bool} {P : Nat → Nat} {m : Nat} (hP : ∀ Y, P Y < 2 ^ m) (T : Nat) : qm_fo SS (df_g q P) 0 T < 2 ^ m := qm_lt_of_bit (fun j hj => by
  rw [← Bool.not_eq_true, df_fo]
  rintro ⟨Y, _, _, _, h⟩
  have h1 := Nat.testBit_lt_two_pow (x := P Y) (i := j) (Nat.lt_of_lt_of_le (hP Y) (Nat.pow_le_pow_right (by decide) hj))
  rw [h1] at h
  cases h)
/-- the pairs that a setting joins -/
def df_pr (lo hi : Nat → Nat) (nm Y w : Nat) : Nat := qm_ac (fun j => decide (j / 8 < w) && decide (qm_wr lo hi Y (j / 8) nm = j % 8)) 64
theorem df_pr_0 {lo hi : Nat → Nat} {nm Y : Nat} : df_pr lo hi nm Y 0 = 0 := by
  apply Nat.eq_of_testBit_eq
  intro i
  unfold df_pr
  rw [qm_ac_bit, decide_eq_false (Nat.not_lt_zero (i / 8)), Nat.zero_testBit, Bool.false_and, Bool.and_false]
theorem df_pr_s {lo hi : Nat → Nat} {nm Y w : Nat} (hw : w < 8) (hlt : qm_wr lo hi Y w nm < 8) : df_pr lo hi nm Y w ||| 2 ^ (8 * w + qm_wr lo hi Y w nm) = df_pr lo hi nm Y (w + 1) := by
  apply Nat.eq_of_testBit_eq
  intro i
  unfold df_pr
  rw [fb_bit_set, qm_ac_bit, qm_ac_bit]
  by_cases hq : i < 64
  · rw [decide_eq_true hq, Bool.true_and, Bool.true_and]
    by_cases e : i / 8 = w
    · rw [e, decide_eq_false (Nat.lt_irrefl w), decide_eq_true (Nat.lt_succ_self w), Bool.false_and, Bool.false_or, Bool.true_and]
      exact decide_eq_decide.mpr ⟨fun z => by omega, fun z => by omega⟩
    · rw [decide_eq_false (show ¬ i = 8 * w + qm_wr lo hi Y w nm by omega), Bool.or_false, decide_eq_decide.mpr (show i / 8 < w ↔ i / 8 < w + 1 by omega)]
  · rw [decide_eq_false hq, decide_eq_false (show ¬ i = 8 * w + qm_wr lo hi Y w nm by omega)]
    rfl
theorem df_pr_bit {lo hi : Nat → Nat} {nm Y nw i o : Nat} (hi0 : i < nw) (hn : nw ≤ 8) (ho : o < 8) : (df_pr lo hi nm Y nw).testBit (8 * i + o) = true ↔ qm_wr lo hi Y i nm = o := by
  unfold df_pr
  rw [qm_ac_bit, decide_eq_true (show 8 * i + o < 64 by omega), show (8 * i + o) / 8 = i by omega, show (8 * i + o) % 8 = o by omega, decide_eq_true hi0, Bool.true_and, Bool.true_and, decide_eq_true_eq]
theorem sp_pairsNow (d : Nat) (s : qb_M) (c : Nat × Nat) {nw nm : Nat} {lo hi : Nat → Nat} (hp : qP_pl s 67 nw nm lo hi) (Y : Nat) (hE : s.1 128 0 = nI (qm_pk (qm_te lo hi Y nm nm))) : qe (d + 2) 99 [.ref 129] (qb_hp (s), 149, c) = some (some (.long (lN (df_pr lo hi nm Y nw))), (qb_hp (s), 149, c)) := by
  have hok := hp.ok
  obtain ⟨p1, p2, ⟨p3, p4, p5⟩, p6⟩ := id hp
  have loop : ∀ m w, w + m = nw → qa_lm (qe (d + 1)) (qa_cd qc_99) (13, [.ref 129, .long (lN (df_pr lo hi nm Y w)), .retAddr 0, .int (nI (qm_pk (qm_te lo hi Y nm nm))), .int (nI w)], [], (qb_hp (s), 149, c)) = some (some (.long (lN (df_pr lo hi nm Y nw))), (qb_hp (s), 149, c)) := by
    intro m
    induction m with
    | zero =>
      intro w hw
      have hw : w = nw := by omega
      subst hw
      refine go_ild_5_4 rfl ?_
      refine go_ald_5_0 rfl ?_
      refine go_getr rfl ⟨_, rfl, rfl, by decide, by decide⟩ ?_
      refine go_geti rfl ⟨_, rfl, rfl, by decide, by decide⟩ ?_
      rw [p1]
      refine go_icge rfl (fun e => ?_) (fun e => ?_)
      · refine go_lld_5_1 rfl ?_
        exact fin_l rfl rfl
      · exact absurd (Int32.le_refl _) e
    | succ m ih =>
      intro w hw
      have ih := ih (w + 1) (by omega)
      have hlt := qm_wr_lt hok Y (i := w) (by omega) nm (Nat.le_refl _)
      have hat := qm_pk_at (g := qm_te lo hi Y nm nm) (w := w) (qm_te_lt hok Y nm (Nat.le_refl _) w (by omega)) (by omega)
      rw [qm_te_end] at hat
      rw [← df_pr_s (by omega) (by omega)] at ih
      refine go_ild_5_4 rfl ?_
      refine go_ald_5_0 rfl ?_
      refine go_getr rfl ⟨_, rfl, rfl, by decide, by decide⟩ ?_
      refine go_geti rfl ⟨_, rfl, rfl, by decide, by decide⟩ ?_
      rw [p1]
      refine go_icge rfl (fun e => ?_) (fun e => ?_)
      · exact absurd e (nI_ge (by omega) (by omega))
      · refine go_lld_5_1 rfl ?_
        refine go_c rfl ?_
        refine go_c rfl ?_
        refine go_ild_5_4 rfl ?_
        refine go_imul rfl ?_
        refine go_ild_5_3 rfl ?_
        refine go_c rfl ?_
        refine go_ild_5_4 rfl ?_
        refine go_imul rfl ?_
        rw [qx_four, show (8 : Int32) = nI 8 from rfl, pk_mul]
        refine go_iushr rfl ?_
        rw [qx_ushr (show qm_pk (qm_te lo hi Y nm nm) < 2 ^ 32 from qm_ac_lt _ 32) (show 4 * w < 32 by omega)]
        refine go_c rfl ?_
        refine go_iand rfl ?_
        rw [qx_and7, hat]
        refine go_iadd rfl ?_
        rw [nI_add]
        refine go_lshl rfl ?_
        rw [show (1 : Int64) = lN 1 from rfl, qx_lshl (by omega), Nat.mul_one]
        refine go_lor rfl ?_
        rw [fb_orL]
        refine go_lst_5_1 rfl rfl ?_
        refine go_inc_5_4 rfl rfl ?_
        refine go_goto rfl ?_
        rw [nI_1]
        exact ih
  refine (en_99 (d + 1) 129 _).trans ?_
  refine go_c rfl ?_
  refine go_lst_5_1 rfl rfl ?_
  refine go_ald_5_0 rfl ?_
  refine go_getr rfl ⟨_, rfl, rfl, by decide, by decide⟩ ?_
  refine go_call1 rfl (sp_ends d s c) (Nat.le_of_ble_eq_true rfl) (qb_qv rfl (by decide) (by decide)) ?_
  rw [hE]
  refine go_ist_5_3 rfl rfl ?_
  refine go_c rfl ?_
  refine go_ist_5_4 rfl rfl ?_
  have := loop nw 0 (by omega)
  rw [df_pr_0] at this
  exact this
/-- the switches that stay: those that are jammed, and those on the ways of calls -/
def df_F (lo hi : Nat → Nat) (nw nm X J : Nat) (f : Nat → Int32) : Nat := J ||| qk_F 0 (fun c => qm_ac (qm_th lo hi X c) nm) (qs_on f) nw
theorem df_S {lo hi : Nat → Nat} {nw nm X J : Nat} {f : Nat → Int32} (Y : Nat) : qm_S X (df_F lo hi nw nm X J f) Y = true ↔ qm_S X J Y = true ∧ ∀ w, w < nw → qs_on f w = true → ¬ qm_ch lo hi nm X Y w = true := by
  unfold qm_S qm_ch df_F
  rw [decide_eq_true_eq, decide_eq_true_eq]
  constructor
  · intro h
    rw [qm_and0] at h
    refine ⟨qm_and0.mpr (fun j h1 h2 => h j h1 (by rw [Nat.testBit_or, h2]; rfl)), fun w hw hx hc => ?_⟩
    rw [decide_eq_true_eq] at hc
    exact hc (qm_and0.mpr (fun j h1 h2 => h j h2 (by rw [Nat.testBit_or, (qk_F_bit nw).mpr (Or.inr ⟨w, hw, hx, h1⟩), Bool.or_true])))
  · rintro ⟨h1, h2⟩
    refine qm_and0.mpr (fun j h3 h4 => ?_)
    rw [Nat.testBit_or, Bool.or_eq_true] at h4
    rcases h4 with h5 | h5
    · exact qm_and0.mp h1 j h3 h5
    · rcases (qk_F_bit nw).mp h5 with h6 | ⟨w, hw, hx, h6⟩
      · rw [Nat.zero_testBit] at h6; cases h6
      · exact h2 w hw hx (decide_eq_true (fun z => qm_and0.mp z j h6 h3))
theorem sp_reach (d : Nat) (s : qb_M) (c : Nat × Nat) {nw nm : Nat} {lo hi : Nat → Nat} (hp : qP_pl s 67 nw nm lo hi) {X J : Nat} (hX : s.1 73 5 = nI X) (hX2 : X < 2 ^ nm) (hJ : s.1 73 6 = nI J) : ∃ t, qe (d + 4) 98 [.ref 129, .ref 73] (qb_hp (s), 149, c) = some (some (.long (lN (qm_fo (qm_S X (df_F lo hi nw nm X J (qs_so s 73))) (df_g (fun _ => true) (fun Y => df_pr lo hi nm Y nw)) 0 (2 ^ nm)))), (qb_hp (t), 149, c)) ∧ qF (fun x => x = 127 ∨ x = 128) s t := by
  have hS := qS_73
  have hok := hp.ok
  obtain ⟨p1, p2, ⟨p3, p4, p5⟩, p6⟩ := id hp
  have h10 : 2 ^ nm ≤ 2 ^ 10 := Nat.pow_le_pow_right (by decide) p5
  obtain ⟨F, hF⟩ : ∃ F, F = df_F lo hi nw nm X J (qs_so s 73) := ⟨_, rfl⟩
  rw [← hF]
  obtain ⟨q, hq⟩ : ∃ q : Nat → Nat, ∀ j, q j = qm_fo (qm_S X F) (df_g (fun _ => true) (fun Y => df_pr lo hi nm Y nw)) 0 (qm_yy nm X F j) := ⟨_, fun _ => rfl⟩
  have hq0 : q 0 = 0 := by rw [hq]; exact qm_sw_0 (by omega) hX2
  have hqs : ∀ j, j < qm_N nm F → q (j + 1) = q j ||| df_pr lo hi nm (qm_y nm X F j) nw := fun j hj => by
    rw [hq, hq, qm_sw_s (by omega) hX2 hj]
    exact if_pos rfl
  have hqN : q (qm_N nm F) = qm_fo (qm_S X F) (df_g (fun _ => true) (fun Y => df_pr lo hi nm Y nw)) 0 (2 ^ nm) := by rw [hq, qm_sw_e]
  have hN := qm_N_le (nm := nm) (F := F) p5
  rw [← hqN]
  obtain ⟨t, k1, k2, k3⟩ := sp_start (d + 1) s c hp X F hX2
  have loop : ∀ m j (t : qb_M), j + m = qm_N nm F → qW t nm lo hi X F j → qF (fun x => x = 127 ∨ x = 128) s t → ∃ z, qa_lm (qe (d + 3)) (qa_cd qc_98) (31, [.ref 129, .ref 73, .long (lN (q j)), .retAddr 0, .int (nI (qm_N nm F)), .int (nI j)], [], (qb_hp (t), 149, c)) = some (some (.long (lN (q (qm_N nm F)))), (qb_hp (z), 149, c)) ∧ qF (fun x => x = 127 ∨ x = 128) s z := by
    intro m
    induction m with
    | zero =>
      intro j t hj hW hf
      have hj : j = qm_N nm F := by omega
      refine ⟨t, ?_, hf⟩
      refine go_ild_6_5 rfl ?_
      refine go_ild_6_4 rfl ?_
      refine go_icge rfl (fun e => ?_) (fun e => ?_)
      · refine go_lld_6_2 rfl ?_
        rw [hj]
        exact fin_l rfl rfl
      · exact absurd (by rw [hj]; exact Int32.le_refl _) e
    | succ m ih =>
      intro j t hj hW hf
      have hpt : qP_pl t 67 nw nm lo hi := hp.mv hf (by decide) (by decide) (by decide)
      obtain ⟨t2, a1, a2, a3⟩ := sp_advance (d + 1) t c hpt X F j hW
      obtain ⟨z, z1, z2⟩ := ih (j + 1) t2 (by omega) a2 (hf.tr a3)
      refine ⟨z, ?_, z2⟩
      rw [hqs j (by omega)] at z1
      refine go_ild_6_5 rfl ?_
      refine go_ild_6_4 rfl ?_
      refine go_icge rfl (fun e => ?_) (fun e => ?_)
      · exact absurd e (nI_ge (by omega) (by omega))
      · refine go_lld_6_2 rfl ?_
        refine go_ald_6_0 rfl ?_
        refine go_call1 rfl (sp_pairsNow (d + 1) t c hpt (qm_y nm X F j) (hW.2.2.2 0 (Nat.le_refl _) (Nat.zero_le _))) (Nat.le_of_ble_eq_true rfl) (qb_qv rfl (by decide) (by decide)) ?_
        refine go_lor rfl ?_
        rw [fb_orL]
        refine go_lst_6_2 rfl rfl ?_
        refine go_ald_6_0 rfl ?_
        refine go_getr rfl ⟨_, rfl, rfl, by decide, by decide⟩ ?_
        refine go_call1 rfl (a1) (Nat.le_of_ble_eq_true rfl) (qb_qv rfl (by decide) (by decide)) ?_
        refine go_inc_6_5 rfl rfl ?_
        refine go_goto rfl ?_
        rw [nI_1]
        exact z1
  obtain ⟨z, z1, z2⟩ := loop (qm_N nm F) 0 t (by omega) k2 k3
  refine ⟨z, ?_, z2⟩
  rw [hq0] at z1
  refine (en_98 (d + 3) 129 73 _).trans ?_
  refine go_c rfl ?_
  refine go_lst_6_2 rfl rfl ?_
  refine go_ald_6_0 rfl ?_
  refine go_getr rfl ⟨_, rfl, rfl, by decide, by decide⟩ ?_
  refine go_ald_6_1 rfl ?_
  refine go_geti rfl (qS_f hS rfl) ?_
  rw [hX]
  refine go_ald_6_1 rfl ?_
  refine go_geti rfl (qS_f hS rfl) ?_
  rw [hJ]
  refine go_ald_6_0 rfl ?_
  refine go_getr rfl ⟨_, rfl, rfl, by decide, by decide⟩ ?_
  refine go_ald_6_1 rfl ?_
  refine go_call2 rfl (sp_inUse d s c qS_73 hp hX (by omega)) (Nat.le_of_ble_eq_true rfl) (qb_qv rfl (by decide) (by decide)) ?_
  refine go_ior rfl ?_
  rw [fa_or, show J ||| qk_F 0 (fun c => qm_ac (qm_th lo hi X c) nm) (qs_on (qs_so s 73)) nw = F from hF.symm]
  refine go_call3 rfl (k1) (Nat.le_of_ble_eq_true rfl) (qb_qv rfl (by decide) (by decide)) ?_
  refine go_ist_6_4 rfl rfl ?_
  refine go_c rfl ?_
  refine go_ist_6_5 rfl rfl ?_
  exact z1
/-- a pair that can not be put through -/
def df_p (nw : Nat) (f : Nat → Int32) (hit : Nat → Bool) (j : Nat) : Bool := (decide (j / 8 < nw) && decide (j % 8 < nw)) && (!qs_bz f (j / 8) (j % 8) && !hit j)
theorem df_p_at {nw : Nat} {f : Nat → Int32} {hit : Nat → Bool} {i o : Nat} (hi : i < nw) (ho : o < nw) (hn : nw ≤ 8) : df_p nw f hit (8 * i + o) = (!qs_bz f i o && !hit (8 * i + o)) := by
  unfold df_p
  rw [show (8 * i + o) / 8 = i by omega, show (8 * i + o) % 8 = o by omega, decide_eq_true hi, decide_eq_true ho]
  rfl
theorem df_p_row {nw : Nat} {f : Nat → Int32} {hit : Nat → Bool} {i : Nat} (hn : nw ≤ 8) : fa_cnt (df_p nw f hit) (8 * i + nw) = fa_cnt (df_p nw f hit) (8 * (i + 1)) := by
  rw [show 8 * (i + 1) = 8 * i + nw + (8 - nw) by omega]
  refine (fa_cnt_skip (fun k h1 h2 h3 => ?_)).symm
  unfold df_p at h3
  rw [Bool.and_eq_true, Bool.and_eq_true, decide_eq_true_eq, decide_eq_true_eq] at h3
  omega
theorem df_p_end {nw : Nat} {f : Nat → Int32} {hit : Nat → Bool} (hn : nw ≤ 8) : fa_cnt (df_p nw f hit) (8 * nw) = fa_cnt (df_p nw f hit) 64 := by
  rw [show 64 = 8 * nw + (64 - 8 * nw) by omega]
  refine (fa_cnt_skip (fun k h1 h2 h3 => ?_)).symm
  unfold df_p at h3
  rw [Bool.and_eq_true, Bool.and_eq_true, decide_eq_true_eq, decide_eq_true_eq] at h3
  omega
theorem df_p_cong {nw : Nat} {f g : Nat → Int32} {h1 h2 : Nat → Bool} (hn : nw ≤ 8) (hf : ∀ i o, i < nw → o < nw → qs_bz f i o = qs_bz g i o) (hh : ∀ i o, i < nw → o < nw → h1 (8 * i + o) = h2 (8 * i + o)) : df_p nw f h1 = df_p nw g h2 := funext fun j => by
  unfold df_p
  by_cases a : j / 8 < nw
  · by_cases b : j % 8 < nw
    · rw [hf _ _ a b]
      have := hh _ _ a b
      rw [show 8 * (j / 8) + j % 8 = j by omega] at this
      rw [this]
    · rw [decide_eq_false b, Bool.and_false, Bool.false_and, Bool.false_and]
  · rw [decide_eq_false a, Bool.false_and, Bool.false_and, Bool.false_and]
def df_1 (p : Nat → Bool) (m : Nat) (v : Int32) : Prop := fa_cnt p m ≠ 0 → ∃ z, z < m ∧ p z = true ∧ (∀ j, j < z → ¬ p j = true) ∧ v = nI z
theorem df_1.up {p : Nat → Bool} {m n : Nat} {v : Int32} (h : df_1 p m v) (hmn : m ≤ n) (hc : fa_cnt p n = fa_cnt p m) : df_1 p n v := fun h0 => by
  obtain ⟨z, z1, z2⟩ := h (by rw [← hc]; exact h0)
  exact ⟨z, by omega, z2⟩
theorem df_1.y {p : Nat → Bool} {m : Nat} {v : Int32} (h : df_1 p m v) (hp : p m = true) : df_1 p (m + 1) (if fa_cnt p m = 0 then nI m else v) := fun _ => by
  by_cases h0 : fa_cnt p m = 0
  · exact ⟨m, by omega, hp, fa_cnt_z h0, if_pos h0⟩
  · obtain ⟨z, z1, z2, z3, z4⟩ := h h0
    exact ⟨z, by omega, z2, z3, by rw [if_neg h0]; exact z4⟩
theorem qs_up_bit {f : Nat → Int32} {i : Nat} (hi : i < 8) : (nI (qs_up f) >>> (nI i &&& 31)) &&& 1 = 0 ↔ ¬ qs_on f i = true := by
  have h1 : qs_up f < 2 ^ 8 := qm_ac_lt _ 8
  rw [qx_bit (by omega) (by omega), qx_bit0]
  unfold qs_up
  rw [qm_ac_bit, decide_eq_true hi, Bool.true_and]
theorem sp_countDeaf (d : Nat) (s : qb_M) (c : Nat × Nat) {nw nm : Nat} {lo hi : Nat → Nat} (hp : qP_pl s 67 nw nm lo hi) (W : Nat) (hW : W < 2 ^ 64) : ∃ t, qe (d + 3) 100 [.ref 129, .ref 73, .long (lN W)] (qb_hp (s), 149, c) = some (some (.int (nI (fa_cnt (df_p nw (qs_so s 73) W.testBit) 64))), (qb_hp (t), 149, c)) ∧ df_1 (df_p nw (qs_so s 73) W.testBit) 64 (t.1 129 6) ∧ qG (fun x k => x = 129 ∧ k = 6) s t := by
  have hS := qS_73
  obtain ⟨p1, p2, ⟨p3, p4, p5⟩, p6⟩ := id hp
  obtain ⟨f, hf⟩ : ∃ f, f = qs_so s 73 := ⟨_, rfl⟩
  obtain ⟨p, hpp⟩ : ∃ p, p = df_p nw f W.testBit := ⟨_, rfl⟩
  rw [← hf, ← hpp]
  have hle : ∀ m, m ≤ 64 → fa_cnt p m ≤ 64 := fun m hm => Nat.le_trans (fa_cnt_le p m) hm
  have outer : ∀ m i (t : qb_M) l8 l9, i + m = nw → df_1 p (8 * i) (t.1 129 6) → qG (fun x k => x = 129 ∧ k = 6) s t → ∃ z, qa_lm (qe (d + 2)) (qa_cd qc_100) (18, [.ref 129, .ref 73, .long (lN W), .retAddr 0, .int (nI (fa_cnt p (8 * i))), .int (nI (qs_up f)), .int (qs_at f 8), .int (nI i), l8, l9], [], (qb_hp (t), 149, c)) = some (some (.int (nI (fa_cnt p 64))), (qb_hp (z), 149, c)) ∧ df_1 p 64 (z.1 129 6) ∧ qG (fun x k => x = 129 ∧ k = 6) s z := by
    intro m
    induction m with
    | zero =>
      intro i t l8 l9 hi h1 hG
      have hi : i = nw := by omega
      subst hi
      have he : fa_cnt p (8 * i) = fa_cnt p 64 := by rw [hpp]; exact df_p_end p4
      refine ⟨t, ?_, h1.up (by omega) he.symm, hG⟩
      refine go_ild_10_7 rfl ?_
      refine go_ald_10_0 rfl ?_
      refine go_getr rfl ⟨_, rfl, rfl, by decide, by decide⟩ ?_
      refine go_geti rfl ⟨_, rfl, rfl, by decide, by decide⟩ ?_
      rw [show t.1 67 5 = nI i from (hG.i (by omega)).trans p1]
      refine go_icge rfl (fun e => ?_) (fun e => ?_)
      · refine go_ild_10_4 rfl ?_
        rw [he]
        exact fin_i rfl rfl rfl
      · exact absurd (Int32.le_refl _) e
    | succ m ih =>
      intro i t l8 l9 hi h1 hG
      have inner : ∀ m2 o (t : qb_M) l9, o + m2 = nw → df_1 p (8 * i + o) (t.1 129 6) → qG (fun x k => x = 129 ∧ k = 6) s t → ∃ z, qa_lm (qe (d + 2)) (qa_cd qc_100) (33, [.ref 129, .ref 73, .long (lN W), .retAddr 0, .int (nI (fa_cnt p (8 * i + o))), .int (nI (qs_up f)), .int (qs_at f 8), .int (nI i), .int (nI o), l9], [], (qb_hp (t), 149, c)) = some (some (.int (nI (fa_cnt p 64))), (qb_hp (z), 149, c)) ∧ df_1 p 64 (z.1 129 6) ∧ qG (fun x k => x = 129 ∧ k = 6) s z := by
        intro m2
        induction m2 with
        | zero =>
          intro o t l9 ho h1 hG
          have ho : o = nw := by omega
          subst ho
          have he : fa_cnt p (8 * i + o) = fa_cnt p (8 * (i + 1)) := by rw [hpp]; exact df_p_row p4
          obtain ⟨z, z1, z2⟩ := ih (i + 1) t (.int (nI o)) l9 (by omega) (h1.up (by omega) he.symm) hG
          refine ⟨z, ?_, z2⟩
          refine go_ild_10_8 rfl ?_
          refine go_ald_10_0 rfl ?_
          refine go_getr rfl ⟨_, rfl, rfl, by decide, by decide⟩ ?_
          refine go_geti rfl ⟨_, rfl, rfl, by decide, by decide⟩ ?_
          rw [show t.1 67 5 = nI o from (hG.i (by omega)).trans p1]
          refine go_icge rfl (fun e => ?_) (fun e => ?_)
          · refine go_inc_10_7 rfl rfl ?_
            refine go_goto rfl ?_
            rw [nI_1, he]
            exact z1
          · exact absurd (Int32.le_refl _) e
        | succ m2 ih2 =>
          intro o t l9 ho h1 hG
          have hat : p (8 * i + o) = (!qs_bz f i o && !W.testBit (8 * i + o)) := by rw [hpp]; exact df_p_at (by omega) (by omega) p4
          have hc9 := hle (8 * i + o) (by omega)
          have skip : ¬ p (8 * i + o) = true → ∀ l9 : Value, ∃ z, qa_lm (qe (d + 2)) (qa_cd qc_100) (121, [.ref 129, .ref 73, .long (lN W), .retAddr 0, .int (nI (fa_cnt p (8 * i + o))), .int (nI (qs_up f)), .int (qs_at f 8), .int (nI i), .int (nI o), l9], [], (qb_hp (t), 149, c)) = some (some (.int (nI (fa_cnt p 64))), (qb_hp (z), 149, c)) ∧ df_1 p 64 (z.1 129 6) ∧ qG (fun x k => x = 129 ∧ k = 6) s z := fun hn l9 => by
            have he : fa_cnt p (8 * i + (o + 1)) = fa_cnt p (8 * i + o) := fa_cnt_no (eq_false_of_ne_true hn)
            obtain ⟨z, z1, z2⟩ := ih2 (o + 1) t l9 (by omega) (h1.up (by omega) he) hG
            refine ⟨z, ?_, z2⟩
            rw [he] at z1
            refine go_inc_10_8 rfl rfl ?_
            refine go_goto rfl ?_
            rw [nI_1]
            exact z1
          have hd1 : ∀ R, (qs_bz f i o = true → qa_lm (qe (d + 2)) (qa_cd qc_100) (65, [.ref 129, .ref 73, .long (lN W), .retAddr 0, .int (nI (fa_cnt p (8 * i + o))), .int (nI (qs_up f)), .int (qs_at f 8), .int (nI i), .int (nI o), l9], [], (qb_hp (t), 149, c)) = R) → (¬ qs_bz f i o = true → qa_lm (qe (d + 2)) (qa_cd qc_100) (69, [.ref 129, .ref 73, .long (lN W), .retAddr 0, .int (nI (fa_cnt p (8 * i + o))), .int (nI (qs_up f)), .int (qs_at f 8), .int (nI i), .int (nI o), l9], [], (qb_hp (t), 149, c)) = R) → qa_lm (qe (d + 2)) (qa_cd qc_100) (33, [.ref 129, .ref 73, .long (lN W), .retAddr 0, .int (nI (fa_cnt p (8 * i + o))), .int (nI (qs_up f)), .int (qs_at f 8), .int (nI i), .int (nI o), l9], [], (qb_hp (t), 149, c)) = R := fun R g1 g2 => by
            unfold qs_bz at g1 g2
            refine go_ild_10_8 rfl ?_
            refine go_ald_10_0 rfl ?_
            refine go_getr rfl ⟨_, rfl, rfl, by decide, by decide⟩ ?_
            refine go_geti rfl ⟨_, rfl, rfl, by decide, by decide⟩ ?_
            rw [show t.1 67 5 = nI nw from (hG.i (by omega)).trans p1]
            refine go_icge rfl (fun e => ?_) (fun e => ?_)
            · exact absurd e (nI_ge (by omega) (by omega))
            · refine go_ild_10_5 rfl ?_
              refine go_ild_10_7 rfl ?_
              refine go_ishr rfl ?_
              refine go_c rfl ?_
              refine go_iand rfl ?_
              refine go_ifne rfl (fun e1 => ?_) (fun e1 => ?_)
              · have e1 := (qs_up_bit (by omega)).mp e1
                refine go_ild_10_6 rfl ?_
                refine go_ild_10_8 rfl ?_
                refine go_ishr rfl ?_
                refine go_c rfl ?_
                refine go_iand rfl ?_
                refine go_ifeq rfl (fun e2 => ?_) (fun e2 => ?_)
                · exact g2 (by rw [eq_false_of_ne_true e1, e2]; decide)
                · exact g1 (by rw [(qx_bit1 _ _).resolve_left e2]; exact Bool.or_true _)
              · have e1 : qs_on f i = true := Classical.byContradiction fun z => e1 ((qs_up_bit (by omega)).mpr z)
                exact g1 (by rw [e1]; rfl)
          by_cases hb : qs_bz f i o = true
          · obtain ⟨z, z1, z2⟩ := skip (by rw [hat, hb]; exact Bool.false_ne_true) (.int 1)
            refine ⟨z, hd1 _ (fun _ => ?_) (fun q => absurd hb q), z2⟩
            refine go_c rfl ?_
            refine go_goto rfl ?_
            refine go_ist_10_9 rfl rfl ?_
            refine go_ild_10_9 rfl ?_
            refine go_ifne rfl (fun e => ?_) (fun e => ?_)
            · exact absurd e (by decide)
            · exact z1
          · have hd2 : ∀ R, (W.testBit (8 * i + o) = true → qa_lm (qe (d + 2)) (qa_cd qc_100) (121, [.ref 129, .ref 73, .long (lN W), .retAddr 0, .int (nI (fa_cnt p (8 * i + o))), .int (nI (qs_up f)), .int (qs_at f 8), .int (nI i), .int (nI o), .int 0], [], (qb_hp (t), 149, c)) = R) → (¬ W.testBit (8 * i + o) = true → qa_lm (qe (d + 2)) (qa_cd qc_100) (94, [.ref 129, .ref 73, .long (lN W), .retAddr 0, .int (nI (fa_cnt p (8 * i + o))), .int (nI (qs_up f)), .int (qs_at f 8), .int (nI i), .int (nI o), .int 0], [], (qb_hp (t), 149, c)) = R) → qa_lm (qe (d + 2)) (qa_cd qc_100) (33, [.ref 129, .ref 73, .long (lN W), .retAddr 0, .int (nI (fa_cnt p (8 * i + o))), .int (nI (qs_up f)), .int (qs_at f 8), .int (nI i), .int (nI o), l9], [], (qb_hp (t), 149, c)) = R := fun R g1 g2 => by
              refine hd1 R (fun q => absurd q hb) (fun _ => ?_)
              refine go_c rfl ?_
              refine go_ist_10_9 rfl rfl ?_
              refine go_ild_10_9 rfl ?_
              refine go_ifne rfl (fun e => ?_) (fun e => ?_)
              · refine go_lld_10_2 rfl ?_
                refine go_c rfl ?_
                refine go_ild_10_7 rfl ?_
                refine go_imul rfl ?_
                rw [show (8 : Int32) = nI 8 from rfl, pk_mul]
                refine go_ild_10_8 rfl ?_
                refine go_iadd rfl ?_
                rw [nI_add]
                refine go_lushr rfl ?_
                refine go_c rfl ?_
                refine go_land rfl ?_
                refine go_c rfl ?_
                refine go_lcmp rfl ?_
                refine go_ifne rfl (fun e2 => ?_) (fun e2 => ?_)
                · exact g2 ((qx_lbit hW (by omega)).mp e2)
                · exact g1 (Classical.byContradiction fun z => e2 ((qx_lbit hW (by omega)).mpr z))
              · exact absurd rfl e
            by_cases hw : W.testBit (8 * i + o) = true
            · obtain ⟨z, z1, z2⟩ := skip (by rw [hat, hw, Bool.not_true, Bool.and_false]; exact Bool.false_ne_true) (.int 0)
              exact ⟨z, hd2 _ (fun _ => z1) (fun q => absurd hw q), z2⟩
            · have hy : p (8 * i + o) = true := by rw [hat, eq_false_of_ne_true hb, eq_false_of_ne_true hw]; rfl
              have he : fa_cnt p (8 * i + (o + 1)) = fa_cnt p (8 * i + o) + 1 := fa_cnt_yes hy
              have h2 := h1.y hy
              by_cases h0 : fa_cnt p (8 * i + o) = 0
              · rw [if_pos h0] at h2
                obtain ⟨z, z1, z2⟩ := ih2 (o + 1) (qb_ui t 129 6 (nI (8 * i + o))) (.int 0) (by omega) (by rw [qb_ui_1s]; exact h2) (hG.ui ⟨rfl, rfl⟩)
                refine ⟨z, hd2 _ (fun q => absurd q hw) (fun _ => ?_), z2⟩
                rw [he, h0] at z1
                rw [h0]
                refine go_ald_10_0 rfl ?_
                refine go_ild_10_4 rfl ?_
                refine go_ifne rfl (fun e => ?_) (fun e => ?_)
                · refine go_c rfl ?_
                  refine go_ild_10_7 rfl ?_
                  refine go_imul rfl ?_
                  rw [show (8 : Int32) = nI 8 from rfl, pk_mul]
                  refine go_ild_10_8 rfl ?_
                  refine go_iadd rfl ?_
                  rw [nI_add]
                  refine go_goto rfl ?_
                  refine go_puti rfl ⟨_, rfl, rfl, by decide, by decide⟩ rfl rfl ?_
                  refine go_inc_10_4 rfl rfl ?_
                  refine go_inc_10_8 rfl rfl ?_
                  refine go_goto rfl ?_
                  rw [nI_1, nI_1]
                  exact z1
                · exact absurd rfl e
              · rw [if_neg h0] at h2
                obtain ⟨z, z1, z2⟩ := ih2 (o + 1) (qb_ui t 129 6 (t.1 129 6)) (.int 0) (by omega) (by rw [qb_ui_1s]; exact h2) (hG.ui ⟨rfl, rfl⟩)
                refine ⟨z, hd2 _ (fun q => absurd q hw) (fun _ => ?_), z2⟩
                rw [he] at z1
                refine go_ald_10_0 rfl ?_
                refine go_ild_10_4 rfl ?_
                refine go_ifne rfl (fun e => ?_) (fun e => ?_)
                · exact absurd ((nI_eq (b := 0) (by omega) (by decide)).mp e) h0
                · refine go_ald_10_0 rfl ?_
                  refine go_geti rfl ⟨_, rfl, rfl, by decide, by decide⟩ ?_
                  refine go_puti rfl ⟨_, rfl, rfl, by decide, by decide⟩ rfl rfl ?_
                  refine go_inc_10_4 rfl rfl ?_
                  rw [nI_1]
                  refine go_inc_10_8 rfl rfl ?_
                  refine go_goto rfl ?_
                  rw [nI_1]
                  exact z1
      obtain ⟨z, z1, z2⟩ := inner nw 0 t l9 (by omega) h1 hG
      refine ⟨z, ?_, z2⟩
      refine go_ild_10_7 rfl ?_
      refine go_ald_10_0 rfl ?_
      refine go_getr rfl ⟨_, rfl, rfl, by decide, by decide⟩ ?_
      refine go_geti rfl ⟨_, rfl, rfl, by decide, by decide⟩ ?_
      rw [show t.1 67 5 = nI nw from (hG.i (by omega)).trans p1]
      refine go_icge rfl (fun e => ?_) (fun e => ?_)
      · exact absurd e (nI_ge (by omega) (by omega))
      · refine go_c rfl ?_
        refine go_ist_10_8 rfl rfl ?_
        exact z1
  obtain ⟨z, z1, z2⟩ := outer nw 0 s (.retAddr 0) (.retAddr 0) (by omega) (fun h => absurd rfl h) qG.rf
  refine ⟨z, ?_, z2⟩
  have hup := sp_wiresUp d s c qS_73
  have hre := sp_wiresReached d s c qS_73
  rw [← hf] at hup hre
  refine (en_100 (d + 2) 129 73 (lN W) _).trans ?_
  refine go_c rfl ?_
  refine go_ist_10_4 rfl rfl ?_
  refine go_ald_10_1 rfl ?_
  refine go_call1 rfl (hup) (Nat.le_of_ble_eq_true rfl) (qS_v hS) ?_
  refine go_ist_10_5 rfl rfl ?_
  refine go_ald_10_1 rfl ?_
  refine go_call1 rfl (hre) (Nat.le_of_ble_eq_true rfl) (qS_v hS) ?_
  refine go_ist_10_6 rfl rfl ?_
  refine go_c rfl ?_
  refine go_ist_10_7 rfl rfl ?_
  exact z1

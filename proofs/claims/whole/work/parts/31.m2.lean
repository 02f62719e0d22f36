/-! bits by a count -/
def qm_ac (p : Nat → Bool) : Nat → Nat
  | 0 => 0
  | k + 1 => qm_ac p k + (if p k = true then 2 ^ k else 0)
theorem qm_ac_lt (p : Nat → Bool) : ∀ n, qm_ac p n < 2 ^ n
  | 0 => by show (0 : Nat) < 1; omega
  | n + 1 => by
    have h := qm_ac_lt p n
    show qm_ac p n + (if p n = true then 2 ^ n else 0) < 2 ^ (n + 1)
    rw [Nat.pow_succ]
    split <;> omega
theorem qm_ac_bit (p : Nat → Bool) : ∀ n j, (qm_ac p n).testBit j = (decide (j < n) && p j)
  | 0, j => by show (0 : Nat).testBit j = _; simp
  | n + 1, j => by
    have h := qm_ac_lt p n
    have ih := qm_ac_bit p n j
    show (qm_ac p n + (if p n = true then 2 ^ n else 0)).testBit j = _
    by_cases hp : p n = true
    · have e9 := Nat.two_pow_add_eq_or_of_lt h 1
      rw [Nat.mul_one] at e9
      rw [if_pos hp, Nat.add_comm, e9, Nat.testBit_or, Nat.testBit_two_pow]
      by_cases hj : j = n
      · subst hj; simp [hp]
      · rw [ih]
        have : decide (n = j) = false := decide_eq_false (fun z => hj z.symm)
        by_cases hl : j < n
        · simp [hl, this, show j < n + 1 by omega]
        · simp [hl, this, show ¬ j < n + 1 by omega]
    · rw [if_neg hp, Nat.add_zero, ih]
      by_cases hj : j = n
      · subst hj; simp [Bool.not_eq_true _ ▸ hp]
      · by_cases hl : j < n
        · simp [hl, show j < n + 1 by omega]
        · simp [hl, show ¬ j < n + 1 by omega]
theorem qm_ac_cong {p q : Nat → Bool} : ∀ {n : Nat}, (∀ k, k < n → p k = q k) → qm_ac p n = qm_ac q n
  | 0, _ => rfl
  | n + 1, h => by
    show qm_ac p n + _ = qm_ac q n + _
    rw [qm_ac_cong (fun k hk => h k (by omega)), h n (by omega)]
theorem qx_1shl : ∀ k, k < 31 → (1 : Int32) <<< (nI k &&& 31) = nI (2 ^ k) := by decide +kernel
theorem qx_or {a b : Nat} : nI a ||| nI b = nI (a ||| b) := fa_or a b
theorem qm_or_pow {a n : Nat} (h : a < 2 ^ n) : a ||| 2 ^ n = a + 2 ^ n := by
  rw [Nat.or_comm, Nat.add_comm]
  have := Nat.two_pow_add_eq_or_of_lt h 1
  rw [Nat.mul_one] at this
  exact this.symm
theorem qx_set {p : Nat → Bool} {k : Nat} (hk : k < 31) (hp : p k = true) : nI (qm_ac p k) ||| (1 : Int32) <<< (nI k &&& 31) = nI (qm_ac p (k + 1)) := by
  rw [qx_1shl k hk, qx_or, qm_or_pow (qm_ac_lt p k)]
  show _ = nI (qm_ac p k + (if p k = true then 2 ^ k else 0))
  rw [if_pos hp]
theorem qx_unset {p : Nat → Bool} {k : Nat} (hp : ¬ p k = true) : nI (qm_ac p k) = nI (qm_ac p (k + 1)) := by
  show _ = nI (qm_ac p k + (if p k = true then 2 ^ k else 0))
  rw [if_neg hp, Nat.add_zero]
theorem qx_in {v : Int32} {n : Nat} (hn : n < 2 ^ 30) (h0 : 0 < n) : (0 ≤ v ∧ v ≤ nI n - 1) ↔ (0 ≤ v ∧ v < nI n) := by
  rw [fa_le v, fa_lt v, show (1 : Int32) = nI 1 from rfl, pk_sub_toInt hn (by decide), nI_toInt (by omega)]
  constructor <;> rintro ⟨h1, h2⟩ <;> exact ⟨h1, by omega⟩
theorem qx_in0 {v : Int32} : (0 ≤ v ∧ v ≤ nI 0 - 1) ↔ (0 ≤ v ∧ v < nI 0) := by
  rw [fa_le v, fa_lt v, fa_le 0 v]
  constructor <;> rintro ⟨h1, h2⟩
  · have e1 : (nI 0 - 1 : Int32).toInt = -1 := by decide
    have e2 : (0 : Int32).toInt = 0 := by decide
    omega
  · have e1 : (nI 0 : Int32).toInt = 0 := by decide
    have e2 : (0 : Int32).toInt = 0 := by decide
    omega
theorem qx_ex {v : Int32} {n : Nat} (hn : n < 2 ^ 31) : (0 ≤ v ∧ v < nI n) ↔ ∃ j, j < n ∧ v = nI j := by
  constructor
  · rintro ⟨h1, h2⟩
    obtain ⟨j, hj, e⟩ := nI_of (Int32.not_lt.mpr h1)
    subst e
    exact ⟨j, (nI_ltI hj hn).mp h2, rfl⟩
  · rintro ⟨j, hj, e⟩
    subst e
    exact ⟨nI_pos' (by omega), nI_lt hj hn⟩
/-! the reference's questions of the plan -/
theorem sp_isWire (d : Nat) (s : qb_M) (c : Nat × Nat) {nw : Nat} (h0 : s.1 194 0 = nI nw) (h1 : 2 ≤ nw) (h2 : nw ≤ 8) (v : Int32) : qe (d + 2) 205 [.ref 192, .int v] (qb_hp s, 149, c) = some (some (.int (qB (0 ≤ v ∧ v < nI nw))), (qb_hp s, 149, c)) := by
  refine (en_205 (d + 1) 192 v _).trans ?_
  refine go_ild_2_1 rfl ?_
  refine go_c rfl ?_
  refine go_ald_2_0 rfl ?_
  refine go_getr rfl ⟨_, rfl, rfl, by decide, by decide⟩ ?_
  refine go_c rfl ?_
  refine go_iald (j := 0) rfl ⟨rfl, by decide, by decide, by decide⟩ rfl (by decide) ?_
  rw [h0]
  refine go_c rfl ?_
  refine go_isub rfl ?_
  refine go_call3 rfl (sp_isIn d _ _ _ _) (Nat.le_of_ble_eq_true rfl) rfl ?_
  have e : narrow .boolean (.int (qB (0 ≤ v ∧ v ≤ nI nw - 1))) = .int (qB (0 ≤ v ∧ v ≤ nI nw - 1)) := by unfold qB; split <;> rfl
  exact fin_i rfl e (qR_i (qB_c (qx_in (by omega) (by omega))))
theorem sp_isSwitch (d : Nat) (s : qb_M) (c : Nat × Nat) {nm : Nat} (h0 : s.1 194 1 = nI nm) (h2 : nm ≤ 10) (v : Int32) : qe (d + 2) 194 [.ref 192, .int v] (qb_hp s, 149, c) = some (some (.int (qB (0 ≤ v ∧ v < nI nm))), (qb_hp s, 149, c)) := by
  refine (en_194 (d + 1) 192 v _).trans ?_
  refine go_ild_2_1 rfl ?_
  refine go_c rfl ?_
  refine go_ald_2_0 rfl ?_
  refine go_getr rfl ⟨_, rfl, rfl, by decide, by decide⟩ ?_
  refine go_c rfl ?_
  refine go_iald (j := 1) rfl ⟨rfl, by decide, by decide, by decide⟩ rfl (by decide) ?_
  rw [h0]
  refine go_c rfl ?_
  refine go_isub rfl ?_
  refine go_call3 rfl (sp_isIn d _ _ _ _) (Nat.le_of_ble_eq_true rfl) rfl ?_
  have e : narrow .boolean (.int (qB (0 ≤ v ∧ v ≤ nI nm - 1))) = .int (qB (0 ≤ v ∧ v ≤ nI nm - 1)) := by unfold qB; split <;> rfl
  refine fin_i rfl e (qR_i (qB_c ?_))
  rcases Nat.eq_zero_or_pos nm with z | z
  · subst z; exact qx_in0
  · exact qx_in (by omega) z
theorem pf_lI {a : Nat} (h : a < 2 ^ 63) : (lN a).toInt = (a : Int) := lg_ofNat_toInt h
theorem pf_shr {a d : Nat} {D : Int64} (hD : (D.toBitVec.smod 64).toNat = d) (h : a < 2 ^ 62) : lN a >>> D = lN (a / 2 ^ d) := by
  have hd : a / 2 ^ d ≤ a := Nat.div_le_self _ _
  apply Int64.toInt_inj.mp
  have e : (lN a >>> D).toInt = (lN a).toInt >>> d := by
    rw [← hD]
    exact BitVec.toInt_sshiftRight ..
  rw [e, Int.shiftRight_eq_div_pow, pf_lI (by omega), pf_lI (by omega)]
  rfl
theorem qx_lshr {n k : Nat} (hk : k < 63) (hn : n < 2 ^ 62) : lN n >>> ((nI k).toInt64 &&& 63) = lN (n / 2 ^ k) := by
  rw [lN_63 k (by omega)]
  exact pf_shr (by revert hk; revert k; decide +kernel) hn
theorem qx_and7 (z : Nat) : nI z &&& 7 = nI (z % 8) := by
  rw [pk_and (nI z) (m := 7) 3 (by decide)]
  congr 1
  show (BitVec.ofNat 32 z).toNat % 8 = z % 8
  rw [BitVec.toNat_ofNat]
  omega
theorem sp_wireAt (d : Nat) (y k : Nat) (hy : y < 2 ^ 62) (hk : k < 20) (h : qa_H) : qe (d + 1) 203 [.long (lN y), .int (nI k)] h = some (some (.int (nI (y / 2 ^ (3 * k) % 8))), h) := by
  refine (en_203 d (lN y) (nI k) h).trans ?_
  refine go_lld_3_0 rfl ?_
  refine go_c rfl ?_
  refine go_ild_3_2 rfl ?_
  refine go_imul rfl ?_
  have e1 : (3 : Int32) * nI k = nI (3 * k) := by rw [show (3 : Int32) = nI 3 from rfl, pk_mul]
  rw [e1]
  refine go_lshr rfl ?_
  rw [qx_lshr (by omega) hy]
  refine go_l2i rfl ?_
  rw [lN_i]
  refine go_c rfl ?_
  refine go_iand rfl ?_
  rw [qx_and7]
  exact fin_i rfl rfl (rfl)
theorem qm_wy_62 {nw nm : Nat} {lo hi : Nat → Nat} (h : qm_ok nw nm lo hi) (X : Nat) {i : Nat} (hi0 : i < nw) : qm_wy lo hi X i nm < 2 ^ 62 := Nat.lt_of_lt_of_le (qm_wy_lt h X hi0 nm (Nat.le_refl _)) (Nat.pow_le_pow_right (by decide) (by have := h.1; omega))
theorem sp_outOf (d : Nat) (s : qb_M) (c : Nat × Nat) {nw nm : Nat} {lo hi : Nat → Nat} (hp : qm_pl s nw nm lo hi) (X i : Nat) (hX : X < 1024) (hi0 : i < nw) : qe (d + 4) 208 [.ref 192, .int (nI i), .int (nI X)] (qb_hp s, 149, c) = some (some (.int (nI (qm_wr lo hi X i nm))), (qb_hp s, 149, c)) := by
  have hok := hp.ok
  obtain ⟨p1, p2, ⟨p3, p4, p5⟩, p6⟩ := id hp
  refine (en_208 (d + 3) 192 (nI i) (nI X) _).trans ?_
  refine go_ald_3_0 rfl ?_
  refine go_ild_3_1 rfl ?_
  refine go_ild_3_2 rfl ?_
  refine go_call3 rfl (sp_wayOf d s c hp X i hX hi0) (Nat.le_of_ble_eq_true rfl) (qb_qv rfl (by decide) (by decide)) ?_
  refine go_ald_3_0 rfl ?_
  refine go_getr rfl ⟨_, rfl, rfl, by decide, by decide⟩ ?_
  refine go_c rfl ?_
  refine go_iald (j := 1) rfl ⟨rfl, by decide, by decide, by decide⟩ rfl (by decide) ?_
  rw [p2]
  refine go_call2 rfl (sp_wireAt (d + 2) _ nm (qm_wy_62 hok X hi0) (by omega) _) (Nat.le_of_ble_eq_true rfl) rfl ?_
  rw [qm_wy_at hok X hi0 nm (Nat.le_refl _) nm (Nat.le_refl _)]
  exact fin_i rfl rfl (rfl)
/-- the switches through which a wire goes -/
def qm_th (lo hi : Nat → Nat) (X i : Nat) (k : Nat) : Bool := decide (qm_wr lo hi X i k = lo k ∨ qm_wr lo hi X i k = hi k)
theorem sp_throughs (d : Nat) (s : qb_M) (c : Nat × Nat) {nw nm : Nat} {lo hi : Nat → Nat} (hp : qm_pl s nw nm lo hi) (X i : Nat) (hS : s.1 194 31 = nI X) (hX : X < 1024) (hi0 : i < nw) : qe (d + 4) 199 [.ref 192, .int (nI i)] (qb_hp s, 149, c) = some (some (.int (nI (qm_ac (qm_th lo hi X i) nm))), (qb_hp s, 149, c)) := by
  have hok := hp.ok
  obtain ⟨p1, p2, ⟨p3, p4, p5⟩, p6⟩ := id hp
  have loop : ∀ (n k : Nat), k + n = nm → qa_lm (qe (d + 3)) (qa_cd qc_199) (19, [.ref 192, .int (nI i), .long (lN (qm_wy lo hi X i nm)), .retAddr 0, .int (nI (qm_ac (qm_th lo hi X i) k)), .int (nI k)], [], (qb_hp s, 149, c)) = some (some (.int (nI (qm_ac (qm_th lo hi X i) nm))), (qb_hp s, 149, c)) := by
    intro n
    induction n with
    | zero =>
      intro k hk
      have hk : k = nm := by omega
      subst hk
      refine go_ild_6_5 rfl ?_
      refine go_ald_6_0 rfl ?_
      refine go_getr rfl ⟨_, rfl, rfl, by decide, by decide⟩ ?_
      refine go_c rfl ?_
      refine go_iald (j := 1) rfl ⟨rfl, by decide, by decide, by decide⟩ rfl (by decide) ?_
      rw [p2]
      refine go_icge rfl (fun e => ?_) (fun e => ?_)
      · refine go_ild_6_4 rfl ?_
        exact fin_i rfl rfl (rfl)
      · exact absurd (Int32.le_refl _) e
    | succ n ih =>
      intro k hk
      have hlt := qm_wr_lt hok X hi0 k (by omega)
      refine go_ild_6_5 rfl ?_
      refine go_ald_6_0 rfl ?_
      refine go_getr rfl ⟨_, rfl, rfl, by decide, by decide⟩ ?_
      refine go_c rfl ?_
      refine go_iald (j := 1) rfl ⟨rfl, by decide, by decide, by decide⟩ rfl (by decide) ?_
      rw [p2]
      refine go_icge rfl (fun e => ?_) (fun e => ?_)
      · exact absurd e (nI_ge (by omega) (by omega))
      · refine go_ald_6_0 rfl ?_
        refine go_ild_6_5 rfl ?_
        refine go_lld_6_2 rfl ?_
        refine go_ild_6_5 rfl ?_
        refine go_call2 rfl (sp_wireAt (d + 2) _ k (qm_wy_62 hok X hi0) (by omega) _) (Nat.le_of_ble_eq_true rfl) rfl ?_
        rw [qm_wy_at hok X hi0 nm (Nat.le_refl _) k (by omega)]
        refine go_call3 rfl (sp_touches (d + 2) s c hp k _ (by omega) (by omega)) (Nat.le_of_ble_eq_true rfl) (qb_qv rfl (by decide) (by decide)) ?_
        refine go_ifeq rfl (fun e2 => ?_) (fun e2 => ?_)
        · refine go_inc_6_5 rfl rfl ?_
          refine go_goto rfl ?_
          rw [nI_1, qx_unset (p := qm_th lo hi X i) (k := k) (fun z => qB_0.mp e2 (of_decide_eq_true z))]
          exact ih (k + 1) (by omega)
        · have h2 : qm_wr lo hi X i k = lo k ∨ qm_wr lo hi X i k = hi k := Classical.byContradiction fun z => e2 (qB_f z)
          refine go_ild_6_4 rfl ?_
          refine go_c rfl ?_
          refine go_ild_6_5 rfl ?_
          refine go_ishl rfl ?_
          refine go_ior rfl ?_
          rw [qx_set (p := qm_th lo hi X i) (by omega) (decide_eq_true h2)]
          refine go_ist_6_4 rfl rfl ?_
          refine go_inc_6_5 rfl rfl ?_
          refine go_goto rfl ?_
          rw [nI_1]
          exact ih (k + 1) (by omega)
  refine (en_199 (d + 3) 192 (nI i) _).trans ?_
  refine go_ald_6_0 rfl ?_
  refine go_ild_6_1 rfl ?_
  refine go_ald_6_0 rfl ?_
  refine go_getr rfl ⟨_, rfl, rfl, by decide, by decide⟩ ?_
  refine go_c rfl ?_
  refine go_iald (j := 31) rfl ⟨rfl, by decide, by decide, by decide⟩ rfl (by decide) ?_
  rw [hS]
  refine go_call3 rfl (sp_wayOf d s c hp X i hX hi0) (Nat.le_of_ble_eq_true rfl) (qb_qv rfl (by decide) (by decide)) ?_
  refine go_lst_6_2 rfl rfl ?_
  refine go_c rfl ?_
  refine go_ist_6_4 rfl rfl ?_
  refine go_c rfl ?_
  refine go_ist_6_5 rfl rfl ?_
  exact loop nm 0 (by omega)
/-! what is so, by forty places (as from place 30 on in the reference's row 'now') -/
def qm_so (s : qb_M) : Nat → Int32 := fun k => s.1 194 (30 + k)
def qs_on (f : Nat → Int32) (w : Nat) : Bool := decide (f (6 + w) ≠ -1)
theorem sp_isOn' (d : Nat) (s : qb_M) (c : Nat × Nat) (w : Nat) (hw : w < 8) : qe (d + 1) 198 [.ref 192, .int (nI w)] (qb_hp s, 149, c) = some (some (.int (qB (qs_on (qm_so s) w = true))), (qb_hp s, 149, c)) := by
  rw [sp_isOn d s c w hw]
  refine qR_i (qB_c ?_)
  unfold qs_on qm_so
  rw [decide_eq_true_eq, show 30 + (6 + w) = 36 + w by omega]
theorem sp_callsBy (d : Nat) (s : qb_M) (c : Nat × Nat) {nw nm : Nat} {lo hi : Nat → Nat} (hp : qm_pl s nw nm lo hi) (X : Nat) (hS : s.1 194 31 = nI X) (hX : X < 1024) (k : Nat) (hk : k < nm) : qe (d + 5) 197 [.ref 192, .int (nI k)] (qb_hp s, 149, c) = some (some (.int (nI (qm_ac (fun w => qs_on (qm_so s) w && qm_th lo hi X w k) nw))), (qb_hp s, 149, c)) := by
  have hok := hp.ok
  obtain ⟨p1, p2, ⟨p3, p4, p5⟩, p6⟩ := id hp
  have loop : ∀ (n w : Nat), w + n = nw → qa_lm (qe (d + 4)) (qa_cd qc_197) (4, [.ref 192, .int (nI k), .int (nI (qm_ac (fun w => qs_on (qm_so s) w && qm_th lo hi X w k) w)), .int (nI w)], [], (qb_hp s, 149, c)) = some (some (.int (nI (qm_ac (fun w => qs_on (qm_so s) w && qm_th lo hi X w k) nw))), (qb_hp s, 149, c)) := by
    intro n
    induction n with
    | zero =>
      intro w hw
      have hw : w = nw := by omega
      subst hw
      refine go_ild_4_3 rfl ?_
      refine go_ald_4_0 rfl ?_
      refine go_getr rfl ⟨_, rfl, rfl, by decide, by decide⟩ ?_
      refine go_c rfl ?_
      refine go_iald (j := 0) rfl ⟨rfl, by decide, by decide, by decide⟩ rfl (by decide) ?_
      rw [p1]
      refine go_icge rfl (fun e => ?_) (fun e => ?_)
      · refine go_ild_4_2 rfl ?_
        exact fin_i rfl rfl (rfl)
      · exact absurd (Int32.le_refl _) e
    | succ n ih =>
      intro w hw
      refine go_ild_4_3 rfl ?_
      refine go_ald_4_0 rfl ?_
      refine go_getr rfl ⟨_, rfl, rfl, by decide, by decide⟩ ?_
      refine go_c rfl ?_
      refine go_iald (j := 0) rfl ⟨rfl, by decide, by decide, by decide⟩ rfl (by decide) ?_
      rw [p1]
      refine go_icge rfl (fun e => ?_) (fun e => ?_)
      · exact absurd e (nI_ge (by omega) (by omega))
      · refine go_ald_4_0 rfl ?_
        refine go_ild_4_3 rfl ?_
        refine go_call2 rfl (sp_isOn' (d + 3) s c w (by omega)) (Nat.le_of_ble_eq_true rfl) (qb_qv rfl (by decide) (by decide)) ?_
        refine go_ifeq rfl (fun e2 => ?_) (fun e2 => ?_)
        · refine go_inc_4_3 rfl rfl ?_
          refine go_goto rfl ?_
          rw [nI_1, qx_unset (p := fun w => qs_on (qm_so s) w && qm_th lo hi X w k) (k := w) (fun z => qB_0.mp e2 (by rw [Bool.and_eq_true] at z; exact z.1))]
          exact ih (w + 1) (by omega)
        · have h2 : qs_on (qm_so s) w = true := Classical.byContradiction fun z => e2 (qB_f z)
          have h31 := qm_ac_lt (qm_th lo hi X w) nm
          have h32 : 2 ^ nm ≤ 2 ^ 10 := Nat.pow_le_pow_right (by decide) p5
          refine go_ald_4_0 rfl ?_
          refine go_ild_4_3 rfl ?_
          refine go_call2 rfl (sp_throughs d s c hp X w hS hX (by omega)) (Nat.le_of_ble_eq_true rfl) (qb_qv rfl (by decide) (by decide)) ?_
          refine go_ild_4_1 rfl ?_
          refine go_call2 rfl (sp_has (d + 3) _ k (by omega) (by omega) _) (Nat.le_of_ble_eq_true rfl) rfl ?_
          rw [qm_ac_bit]
          refine go_ifeq rfl (fun e3 => ?_) (fun e3 => ?_)
          · refine go_inc_4_3 rfl rfl ?_
            refine go_goto rfl ?_
            rw [nI_1, qx_unset (p := fun w => qs_on (qm_so s) w && qm_th lo hi X w k) (k := w) (fun z => qB_0.mp e3 (by rw [Bool.and_eq_true] at z; simp [hk, z.2]))]
            exact ih (w + 1) (by omega)
          · have h3 : (decide (k < nm) && qm_th lo hi X w k) = true := Classical.byContradiction fun z => e3 (qB_f z)
            rw [Bool.and_eq_true] at h3
            refine go_ild_4_2 rfl ?_
            refine go_c rfl ?_
            refine go_ild_4_3 rfl ?_
            refine go_ishl rfl ?_
            refine go_ior rfl ?_
            rw [qx_set (p := fun w => qs_on (qm_so s) w && qm_th lo hi X w k) (by omega) (by rw [Bool.and_eq_true]; exact ⟨h2, h3.2⟩)]
            refine go_ist_4_2 rfl rfl ?_
            refine go_inc_4_3 rfl rfl ?_
            refine go_goto rfl ?_
            rw [nI_1]
            exact ih (w + 1) (by omega)
  refine (en_197 (d + 4) 192 (nI k) _).trans ?_
  refine go_c rfl ?_
  refine go_ist_4_2 rfl rfl ?_
  refine go_c rfl ?_
  refine go_ist_4_3 rfl rfl ?_
  exact loop nw 0 (by omega)

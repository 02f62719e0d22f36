/-! PURE: the reference's small methods -/
def qB (p : Prop) [Decidable p] : Int32 := if p then 1 else 0
theorem qB_t {p : Prop} [Decidable p] (h : p) : qB p = 1 := if_pos h
theorem qB_f {p : Prop} [Decidable p] (h : ¬ p) : qB p = 0 := if_neg h
theorem qB_0 {p : Prop} [Decidable p] : qB p = 0 ↔ ¬ p := ⟨fun h q => by rw [qB_t q] at h; exact absurd h (by decide), qB_f⟩
theorem qB_c {p q : Prop} [Decidable p] [Decidable q] (h : p ↔ q) : qB p = qB q := by
  by_cases hp : p
  · rw [qB_t hp, qB_t (h.mp hp)]
  · rw [qB_f hp, qB_f (fun z => hp (h.mpr z))]
theorem qR_i {v w : Int32} {h : qa_H} (e : v = w) : some (some (Value.int v), h) = some (some (Value.int w), h) := by rw [e]
theorem qR_l {v w : Int64} {h : qa_H} (e : v = w) : some (some (Value.long v), h) = some (some (Value.long w), h) := by rw [e]
theorem sp_isIn (d : Nat) (v a b : Int32) (h : qa_H) : qe (d + 1) 182 [.int v, .int a, .int b] h = some (some (.int (qB (a ≤ v ∧ v ≤ b))), h) := by
  refine (en_182 d v a b h).trans ?_
  refine go_ild_3_0 rfl ?_
  refine go_ild_3_1 rfl ?_
  refine go_iclt rfl (fun c => ?_) (fun c => ?_)
  · refine go_c rfl ?_
    exact fin_i rfl rfl (qR_i (qB_f (fun q => Int32.not_le.mpr c q.1)).symm)
  · refine go_ild_3_0 rfl ?_
    refine go_ild_3_2 rfl ?_
    refine go_icgt rfl (fun e => ?_) (fun e => ?_)
    · refine go_c rfl ?_
      exact fin_i rfl rfl (qR_i (qB_f (fun q => Int32.not_le.mpr e q.2)).symm)
    · refine go_c rfl ?_
      refine go_goto rfl ?_
      exact fin_i rfl rfl (qR_i (qB_t ⟨Int32.not_lt.mp c, Int32.not_lt.mp e⟩).symm)
theorem sp_has0 (d : Nat) (x k : Int32) (h : qa_H) : qe (d + 1) 196 [.int x, .int k] h = some (some (.int (qB ((x >>> (k &&& 31)) &&& 1 = 1))), h) := by
  refine (en_196 d x k h).trans ?_
  refine go_ild_2_0 rfl ?_
  refine go_ild_2_1 rfl ?_
  refine go_ishr rfl ?_
  refine go_c rfl ?_
  refine go_iand rfl ?_
  refine go_c rfl ?_
  refine go_icne rfl (fun c => ?_) (fun c => ?_)
  · refine go_c rfl ?_
    refine go_goto rfl ?_
    exact fin_i rfl rfl (qR_i (qB_t c).symm)
  · refine go_c rfl ?_
    exact fin_i rfl rfl (qR_i (qB_f c).symm)
theorem nI_31 : ∀ k, k < 32 → nI k &&& 31 = nI k := by decide +kernel
theorem qx_bit {X k : Nat} (hX : X < 2 ^ 31) (hk : k < 31) : (nI X >>> (nI k &&& 31)) &&& 1 = nI (X / 2 ^ k % 2) := by
  rw [pk_shrN hX _ k (by rw [nI_31 k (by omega)]; revert hk; revert k; decide +kernel)]
  exact pk_andN (n := X / 2 ^ k) (Nat.lt_of_le_of_lt (Nat.div_le_self _ _) (by omega)) (m := 1) 1 (by decide)
theorem sp_has (d X k : Nat) (hX : X < 2 ^ 31) (hk : k < 31) (h : qa_H) : qe (d + 1) 196 [.int (nI X), .int (nI k)] h = some (some (.int (qB (X.testBit k = true))), h) := by
  rw [sp_has0, qx_bit hX hk]
  refine qR_i (qB_c ?_)
  rw [Nat.testBit_eq_decide_div_mod_eq, decide_eq_true_eq]
  exact (nI_eq (a := X / 2 ^ k % 2) (b := 1) (by omega) (by decide))
theorem sp_isOn (d : Nat) (s : qb_M) (c : Nat × Nat) (w : Nat) (hw : w < 8) : qe (d + 1) 198 [.ref 192, .int (nI w)] (qb_hp s, 149, c) = some (some (.int (qB (s.1 194 (36 + w) ≠ -1))), (qb_hp s, 149, c)) := by
  refine (en_198 d 192 (nI w) _).trans ?_
  refine go_ald_2_0 rfl ?_
  refine go_getr rfl ⟨_, rfl, rfl, by decide, by decide⟩ ?_
  refine go_c rfl ?_
  refine go_ild_2_1 rfl ?_
  refine go_iadd rfl ?_
  refine go_iald (j := 36 + w) rfl (⟨rfl, by decide, by decide, by decide⟩) (nI_add 36 w) (by omega) ?_
  refine go_c rfl ?_
  refine go_iceq rfl (fun e => ?_) (fun e => ?_)
  · refine go_c rfl ?_
    exact fin_i rfl rfl (qR_i (qB_f (fun q => q e)).symm)
  · refine go_c rfl ?_
    refine go_goto rfl ?_
    exact fin_i rfl rfl (qR_i (qB_t e).symm)
/-- the plan in the reference's row 'now' -/
def qm_pl (s : qb_M) (nw nm : Nat) (lo hi : Nat → Nat) : Prop := s.1 194 0 = nI nw ∧ s.1 194 1 = nI nm ∧ (2 ≤ nw ∧ nw ≤ 8 ∧ nm ≤ 10) ∧ ∀ k, k < nm → s.1 194 (5 + k) = nI (lo k) ∧ s.1 194 (15 + k) = nI (hi k) ∧ lo k < hi k ∧ hi k < nw
theorem sp_touches (d : Nat) (s : qb_M) (c : Nat × Nat) {nw nm : Nat} {lo hi : Nat → Nat} (hp : qm_pl s nw nm lo hi) (k w : Nat) (hk : k < nm) (hw : w < 8) : qe (d + 1) 202 [.ref 192, .int (nI k), .int (nI w)] (qb_hp s, 149, c) = some (some (.int (qB (w = lo k ∨ w = hi k))), (qb_hp s, 149, c)) := by
  obtain ⟨p1, p2, ⟨p3, p4, p5⟩, p6⟩ := hp
  obtain ⟨q1, q2, q3, q4⟩ := p6 k hk
  refine (en_202 d 192 (nI k) (nI w) _).trans ?_
  refine go_ald_3_0 rfl ?_
  refine go_getr rfl ⟨_, rfl, rfl, by decide, by decide⟩ ?_
  refine go_c rfl ?_
  refine go_ild_3_1 rfl ?_
  refine go_iadd rfl ?_
  refine go_iald (j := 5 + k) rfl (⟨rfl, by decide, by decide, by decide⟩) (nI_add 5 k) (by omega) ?_
  refine go_ild_3_2 rfl ?_
  rw [q1]
  refine go_iceq rfl (fun e => ?_) (fun e => ?_)
  · refine go_c rfl ?_
    refine go_goto rfl ?_
    exact fin_i rfl rfl (qR_i (qB_t (Or.inl ((nI_eq (by omega) (by omega)).mp e).symm)).symm)
  · refine go_ald_3_0 rfl ?_
    refine go_getr rfl ⟨_, rfl, rfl, by decide, by decide⟩ ?_
    refine go_c rfl ?_
    refine go_ild_3_1 rfl ?_
    refine go_iadd rfl ?_
    refine go_iald (j := 15 + k) rfl (⟨rfl, by decide, by decide, by decide⟩) (nI_add 15 k) (by omega) ?_
    refine go_ild_3_2 rfl ?_
    rw [q2]
    refine go_icne rfl (fun e2 => ?_) (fun e2 => ?_)
    · refine go_c rfl ?_
      refine go_goto rfl ?_
      exact fin_i rfl rfl (qR_i (qB_t (Or.inr ((nI_eq (by omega) (by omega)).mp e2).symm)).symm)
    · refine go_c rfl ?_
      exact fin_i rfl rfl (qR_i (qB_f (fun q => q.elim (fun z => e (by rw [z])) (fun z => e2 (by rw [z])))).symm)
/-- on which wire behind a switch -/
def qm_bh (lo hi : Nat → Nat) (b : Bool) (k w : Nat) : Nat := if b = true then (if w = lo k then hi k else if w = hi k then lo k else w) else w
theorem sp_behind (d : Nat) (s : qb_M) (c : Nat × Nat) {nw nm : Nat} {lo hi : Nat → Nat} (hp : qm_pl s nw nm lo hi) (k w : Nat) (b : Bool) (hk : k < nm) (hw : w < 8) : qe (d + 2) 201 [.ref 192, .int (nI k), .int (nI w), .int (qB (b = true))] (qb_hp s, 149, c) = some (some (.int (nI (qm_bh lo hi b k w))), (qb_hp s, 149, c)) := by
  have ht := sp_touches d s c hp k w hk hw
  obtain ⟨p1, p2, ⟨p3, p4, p5⟩, p6⟩ := hp
  obtain ⟨q1, q2, q3, q4⟩ := p6 k hk
  refine (en_201 (d + 1) 192 (nI k) (nI w) _ _).trans ?_
  refine go_ild_4_3 rfl ?_
  refine go_ifeq rfl (fun e => ?_) (fun e => ?_)
  · refine go_ild_4_2 rfl ?_
    exact fin_i rfl rfl (qR_i (by rw [qm_bh, if_neg (qB_0.mp e)]))
  · have hb : b = true := Classical.byContradiction fun z => e (qB_f z)
    refine go_ald_4_0 rfl ?_
    refine go_ild_4_1 rfl ?_
    refine go_ild_4_2 rfl ?_
    refine go_call3 rfl (ht) (Nat.le_of_ble_eq_true rfl) (qb_qv rfl (by decide) (by decide)) ?_
    refine go_ifeq rfl (fun e2 => ?_) (fun e2 => ?_)
    · refine go_ild_4_2 rfl ?_
      exact fin_i rfl rfl (qR_i (by rw [qm_bh, if_pos hb, if_neg (fun z => qB_0.mp e2 (Or.inl z)), if_neg (fun z => qB_0.mp e2 (Or.inr z))]))
    · have h2 : w = lo k ∨ w = hi k := Classical.byContradiction fun z => e2 (qB_f z)
      refine go_ald_4_0 rfl ?_
      refine go_getr rfl ⟨_, rfl, rfl, by decide, by decide⟩ ?_
      refine go_c rfl ?_
      refine go_ild_4_1 rfl ?_
      refine go_iadd rfl ?_
      refine go_iald (j := 5 + k) rfl (⟨rfl, by decide, by decide, by decide⟩) (nI_add 5 k) (by omega) ?_
      refine go_ald_4_0 rfl ?_
      refine go_getr rfl ⟨_, rfl, rfl, by decide, by decide⟩ ?_
      refine go_c rfl ?_
      refine go_ild_4_1 rfl ?_
      refine go_iadd rfl ?_
      refine go_iald (j := 15 + k) rfl (⟨rfl, by decide, by decide, by decide⟩) (nI_add 15 k) (by omega) ?_
      refine go_iadd rfl ?_
      refine go_ild_4_2 rfl ?_
      refine go_isub rfl ?_
      refine go_goto rfl ?_
      rw [q1, q2, nI_add, pk_sub (by omega)]
      have hf : lo k + hi k - w = qm_bh lo hi b k w := by
        rw [qm_bh, if_pos hb]
        by_cases z : w = lo k
        · rw [if_pos z]; omega
        · rw [if_neg z, if_pos (h2.resolve_left z)]; have := h2.resolve_left z; omega
      exact fin_i rfl rfl (qR_i (by rw [hf]))
theorem qm_bh_lt {lo hi : Nat → Nat} {nw k w : Nat} {b : Bool} (h1 : lo k < hi k) (h2 : hi k < nw) (hw : w < nw) : qm_bh lo hi b k w < nw := by
  unfold qm_bh
  split
  · split
    · exact h2
    · split <;> omega
  · exact hw
/-- on which wire behind k switches, by setting X -/
def qm_wr (lo hi : Nat → Nat) (X i : Nat) : Nat → Nat
  | 0 => i
  | k + 1 => qm_bh lo hi (X.testBit k) k (qm_wr lo hi X i k)
/-- the way as a number: three bits a place -/
def qm_wy (lo hi : Nat → Nat) (X i : Nat) : Nat → Nat
  | 0 => i
  | k + 1 => 2 ^ (3 * k + 3) * qm_wr lo hi X i (k + 1) + qm_wy lo hi X i k
def qm_ok (nw nm : Nat) (lo hi : Nat → Nat) : Prop := (2 ≤ nw ∧ nw ≤ 8 ∧ nm ≤ 10) ∧ ∀ k, k < nm → lo k < hi k ∧ hi k < nw
theorem qm_pl.ok {s : qb_M} {nw nm : Nat} {lo hi : Nat → Nat} (h : qm_pl s nw nm lo hi) : qm_ok nw nm lo hi := ⟨h.2.2.1, fun k hk => (h.2.2.2 k hk).2.2⟩
theorem qm_wr_lt {nw nm : Nat} {lo hi : Nat → Nat} (h : qm_ok nw nm lo hi) (X : Nat) {i : Nat} (hi0 : i < nw) : ∀ k, k ≤ nm → qm_wr lo hi X i k < nw
  | 0, _ => hi0
  | k + 1, hk => qm_bh_lt (h.2 k (by omega)).1 (h.2 k (by omega)).2 (qm_wr_lt h X hi0 k (by omega))
theorem qm_wy_lt {nw nm : Nat} {lo hi : Nat → Nat} (h : qm_ok nw nm lo hi) (X : Nat) {i : Nat} (hi0 : i < nw) : ∀ k, k ≤ nm → qm_wy lo hi X i k < 2 ^ (3 * k + 3)
  | 0, _ => by have := h.1; show i < 8; omega
  | k + 1, hk => by
    have h1 := qm_wy_lt h X hi0 k (by omega)
    have h2 := qm_wr_lt h X hi0 (k + 1) hk
    have h3 := h.1
    show 2 ^ (3 * k + 3) * qm_wr lo hi X i (k + 1) + qm_wy lo hi X i k < 2 ^ (3 * (k + 1) + 3)
    have e : 2 ^ (3 * (k + 1) + 3) = 2 ^ (3 * k + 3) * 8 := by rw [show 3 * (k + 1) + 3 = (3 * k + 3) + 3 by omega, Nat.pow_add]
    rw [e]
    have h4 : 2 ^ (3 * k + 3) * qm_wr lo hi X i (k + 1) ≤ 2 ^ (3 * k + 3) * 7 := Nat.mul_le_mul_left _ (by omega)
    omega
/-- the wire at place k of the way -/
theorem qm_wy_at {nw nm : Nat} {lo hi : Nat → Nat} (h : qm_ok nw nm lo hi) (X : Nat) {i : Nat} (hi0 : i < nw) : ∀ m, m ≤ nm → ∀ k, k ≤ m → qm_wy lo hi X i m / 2 ^ (3 * k) % 8 = qm_wr lo hi X i k
  | 0, _, k, hk => by
    have : k = 0 := by omega
    subst this
    have := h.1
    show i / 1 % 8 = i
    omega
  | m + 1, hm, k, hk => by
    have h1 := qm_wy_lt h X hi0 m (by omega)
    have h2 := qm_wr_lt h X hi0 (m + 1) hm
    have h3 := h.1
    show (2 ^ (3 * m + 3) * qm_wr lo hi X i (m + 1) + qm_wy lo hi X i m) / 2 ^ (3 * k) % 8 = _
    by_cases e : k = m + 1
    · subst e
      rw [show 3 * (m + 1) = 3 * m + 3 by omega, Nat.mul_add_div (Nat.two_pow_pos _), Nat.div_eq_of_lt h1, Nat.add_zero]
      omega
    · have ih := qm_wy_at h X hi0 m (by omega) k (by omega)
      have e1 : 2 ^ (3 * m + 3) * qm_wr lo hi X i (m + 1) = 2 ^ (3 * k) * (8 * (2 ^ (3 * (m - k)) * qm_wr lo hi X i (m + 1))) := by
        have : 2 ^ (3 * m + 3) = 2 ^ (3 * k) * (8 * 2 ^ (3 * (m - k))) := by
          rw [show (8 : Nat) = 2 ^ 3 from rfl, ← Nat.pow_add, ← Nat.pow_add]
          congr 1
          omega
        rw [this, Nat.mul_assoc, Nat.mul_assoc]
      rw [e1, Nat.mul_add_div (Nat.two_pow_pos _), Nat.add_mod, Nat.mul_mod_right, Nat.zero_add, Nat.mod_mod, ih]
theorem lN_63 : ∀ k, k < 64 → (nI k).toInt64 &&& 63 = lN k := by decide +kernel
theorem qx_lshl {n k : Nat} (hk : k < 64) : lN n <<< ((nI k).toInt64 &&& 63) = lN (2 ^ k * n) := by
  rw [lN_63 k hk]
  apply Int64.toBitVec_inj.1
  show BitVec.ofNat 64 n <<< ((BitVec.ofNat 64 k).smod 64) = BitVec.ofNat 64 (2 ^ k * n)
  have e : (BitVec.ofNat 64 k).smod 64 = BitVec.ofNat 64 k := by revert hk; revert k; decide +kernel
  rw [e]
  apply BitVec.eq_of_toNat_eq
  rw [BitVec.shiftLeft_eq', BitVec.toNat_shiftLeft, BitVec.toNat_ofNat, BitVec.toNat_ofNat, BitVec.toNat_ofNat, Nat.shiftLeft_eq, Nat.mod_eq_of_lt (show k < 2 ^ 64 by omega), Nat.mul_comm, Nat.mul_mod_mod]
theorem sp_wayOf (d : Nat) (s : qb_M) (c : Nat × Nat) {nw nm : Nat} {lo hi : Nat → Nat} (hp : qm_pl s nw nm lo hi) (X i : Nat) (hX : X < 1024) (hi0 : i < nw) : qe (d + 3) 200 [.ref 192, .int (nI i), .int (nI X)] (qb_hp s, 149, c) = some (some (.long (lN (qm_wy lo hi X i nm))), (qb_hp s, 149, c)) := by
  have hok := hp.ok
  obtain ⟨p1, p2, ⟨p3, p4, p5⟩, p6⟩ := id hp
  have loop : ∀ (n k : Nat), k + n = nm → qa_lm (qe (d + 2)) (qa_cd qc_200) (9, [.ref 192, .int (nI i), .int (nI X), .long (lN (qm_wy lo hi X i k)), .retAddr 0, .int (nI (qm_wr lo hi X i k)), .int (nI k)], [], (qb_hp s, 149, c)) = some (some (.long (lN (qm_wy lo hi X i nm))), (qb_hp s, 149, c)) := by
    intro n
    induction n with
    | zero =>
      intro k hk
      have hk : k = nm := by omega
      subst hk
      refine go_ild_7_6 rfl ?_
      refine go_ald_7_0 rfl ?_
      refine go_getr rfl ⟨_, rfl, rfl, by decide, by decide⟩ ?_
      refine go_c rfl ?_
      refine go_iald (j := 1) rfl ⟨rfl, by decide, by decide, by decide⟩ rfl (by decide) ?_
      rw [p2]
      refine go_icge rfl (fun e => ?_) (fun e => ?_)
      · refine go_lld_7_3 rfl ?_
        exact fin_l rfl (rfl)
      · exact absurd (Int32.le_refl _) e
    | succ n ih =>
      intro k hk
      have hlt := qm_wr_lt hok X hi0 k (by omega)
      refine go_ild_7_6 rfl ?_
      refine go_ald_7_0 rfl ?_
      refine go_getr rfl ⟨_, rfl, rfl, by decide, by decide⟩ ?_
      refine go_c rfl ?_
      refine go_iald (j := 1) rfl ⟨rfl, by decide, by decide, by decide⟩ rfl (by decide) ?_
      rw [p2]
      refine go_icge rfl (fun e => ?_) (fun e => ?_)
      · exact absurd e (nI_ge (by omega) (by omega))
      · refine go_ald_7_0 rfl ?_
        refine go_ild_7_6 rfl ?_
        refine go_ild_7_5 rfl ?_
        refine go_ild_7_2 rfl ?_
        refine go_ild_7_6 rfl ?_
        refine go_call2 rfl (sp_has (d + 1) X k (by omega) (by omega) _) (Nat.le_of_ble_eq_true rfl) rfl ?_
        refine go_call4 rfl (sp_behind d s c hp k _ (X.testBit k) (by omega) (by omega)) (Nat.le_of_ble_eq_true rfl) (qb_qv rfl (by decide) (by decide)) ?_
        refine go_ist_7_5 rfl rfl ?_
        refine go_lld_7_3 rfl ?_
        refine go_ild_7_5 rfl ?_
        refine go_i2l rfl ?_
        refine go_c rfl ?_
        refine go_ild_7_6 rfl ?_
        refine go_imul rfl ?_
        refine go_c rfl ?_
        refine go_iadd rfl ?_
        have e1 : (3 : Int32) * nI k + 3 = nI (3 * k + 3) := by rw [show (3 : Int32) = nI 3 from rfl, pk_mul, nI_add]
        rw [e1]
        have hw2 := qm_wr_lt hok X hi0 (k + 1) (by omega)
        rw [show qm_bh lo hi (X.testBit k) k (qm_wr lo hi X i k) = qm_wr lo hi X i (k + 1) from rfl, nI_l (show qm_wr lo hi X i (k + 1) < 2 ^ 31 by omega)]
        refine go_lshl rfl ?_
        rw [qx_lshl (show 3 * k + 3 < 64 by omega)]
        refine go_lor rfl ?_
        rw [fb_orL, Nat.or_comm, ← fb_orL, fb_or_sumL _ (qm_wy_lt hok X hi0 k (by omega))]
        refine go_lst_7_3 rfl rfl ?_
        refine go_inc_7_6 rfl rfl ?_
        refine go_goto rfl ?_
        rw [nI_1]
        exact ih (k + 1) (by omega)
  refine (en_200 (d + 2) 192 (nI i) (nI X) _).trans ?_
  refine go_ild_7_1 rfl ?_
  refine go_i2l rfl ?_
  refine go_lst_7_3 rfl rfl ?_
  refine go_ild_7_1 rfl ?_
  refine go_ist_7_5 rfl rfl ?_
  refine go_c rfl ?_
  refine go_ist_7_6 rfl rfl ?_
  rw [nI_l (show i < 2 ^ 31 by omega)]
  exact loop nm 0 (by omega)

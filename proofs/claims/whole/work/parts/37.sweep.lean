/-! frames: nothing changed but at some addresses -/
def qF (P : Nat → Prop) (s t : qb_M) : Prop := ∀ x, ¬ P x → t.1 x = s.1 x ∧ t.2.1 x = s.2.1 x ∧ t.2.2 x = s.2.2 x
theorem qF.rf {P : Nat → Prop} {s : qb_M} : qF P s s := fun _ _ => ⟨rfl, rfl, rfl⟩
theorem qF.tr {P : Nat → Prop} {s t u : qb_M} (h1 : qF P s t) (h2 : qF P t u) : qF P s u := fun x hx => ⟨(h2 x hx).1.trans (h1 x hx).1, (h2 x hx).2.1.trans (h1 x hx).2.1, (h2 x hx).2.2.trans (h1 x hx).2.2⟩
theorem qF.mo {P Q : Nat → Prop} {s t : qb_M} (h : qF P s t) (hpq : ∀ x, P x → Q x) : qF Q s t := fun x hx => h x (fun z => hx (hpq x z))
theorem qF.ui {P : Nat → Prop} {s t : qb_M} {x k : Nat} {v : Int32} (h : qF P s t) (hx : P x) : qF P s (qb_ui t x k v) := fun y hy => ⟨(show (qb_u t.1 x k v) y = _ from funext fun j => qb_u_a (fun z => hy (z ▸ hx))).trans (h y hy).1, (h y hy).2.1, (h y hy).2.2⟩
theorem qF.ul {P : Nat → Prop} {s t : qb_M} {x k : Nat} {v : Int64} (h : qF P s t) (hx : P x) : qF P s (qb_ul t x k v) := fun y hy => ⟨(h y hy).1, (show (qb_u t.2.1 x k v) y = _ from funext fun j => qb_u_a (fun z => hy (z ▸ hx))).trans (h y hy).2.1, (h y hy).2.2⟩
theorem qF.up {P : Nat → Prop} {s t : qb_M} {x k : Nat} {v : Option Nat} (h : qF P s t) (hx : P x) : qF P s (qb_up t x k v) := fun y hy => ⟨(h y hy).1, (h y hy).2.1, (show (qb_u t.2.2 x k v) y = _ from funext fun j => qb_u_a (fun z => hy (z ▸ hx))).trans (h y hy).2.2⟩
theorem qF.wr {P : Nat → Prop} {s t : qb_M} {x i n : Nat} {g : Nat → Int32} (h : qF P s t) (hx : P x) : qF P s (qb_wr t x i n g) := fun y hy => ⟨(show (qb_wr t x i n g).1 y = _ from funext fun j => qb_wr_o (Or.inl (fun z => hy (z ▸ hx)))).trans (h y hy).1, (h y hy).2.1, (h y hy).2.2⟩
theorem qF.i {P : Nat → Prop} {s t : qb_M} (h : qF P s t) {x k : Nat} (hx : ¬ P x) : t.1 x k = s.1 x k := by rw [(h x hx).1]
theorem qF.l {P : Nat → Prop} {s t : qb_M} (h : qF P s t) {x k : Nat} (hx : ¬ P x) : t.2.1 x k = s.2.1 x k := by rw [(h x hx).2.1]
theorem qF.p {P : Nat → Prop} {s t : qb_M} (h : qF P s t) {x k : Nat} (hx : ¬ P x) : t.2.2 x k = s.2.2 x k := by rw [(h x hx).2.2]
theorem qb_fr.F {s t : qb_M} {a n : Nat} (h : qb_fr s t a n) : qF (fun x => a ≤ x ∧ x < a + n) s t := fun x hx => ⟨funext fun k => h.2 x k (by omega), by rw [h.1], by rw [h.1]⟩
theorem qP_pl.mv {P : Nat → Prop} {s t : qb_M} {a nw nm : Nat} {lo hi : Nat → Nat} (h : qP_pl s a nw nm lo hi) (hf : qF P s t) (h0 : ¬ P a) (h1 : ¬ P (a + 1)) (h2 : ¬ P (a + 2)) : qP_pl t a nw nm lo hi := by
  obtain ⟨p1, p2, p3, p4⟩ := h
  refine ⟨(hf.i h0).trans p1, (hf.i h0).trans p2, p3, fun k hk => ?_⟩
  rw [hf.i h1, hf.i h2]
  exact p4 k hk
theorem qs_so_F {P : Nat → Prop} {s t : qb_M} {a : Nat} (hf : qF P s t) (h : ∀ k, k < 5 → ¬ P (a + k)) : qs_so t a = qs_so s a := by
  funext k
  unfold qs_so
  rw [(hf a (h 0 (by decide))).1, (hf (a + 1) (h 1 (by decide))).1, (hf (a + 2) (h 2 (by decide))).1, (hf (a + 3) (h 3 (by decide))).1, (hf (a + 4) (h 4 (by decide))).1]
/-! the component's sweep -/
def qW_t (s : qb_M) (nm : Nat) (lo hi : Nat → Nat) (Y m : Nat) : Prop := ∀ k, m ≤ k → k ≤ nm → s.1 128 k = nI (qm_pk (qm_te lo hi Y nm (nm - k)))
theorem sp_layTails (d : Nat) (c : Nat × Nat) {nw nm : Nat} {lo hi : Nat → Nat} (Y : Nat) (hY2 : Y < 1024) (s : qb_M) (hp : qP_pl s 67 nw nm lo hi) (hY : s.1 127 4 = nI Y) (v : Int32) (m : Nat) (hm : m ≤ nm) (hv : (if nI nm - 1 < v then nI nm - 1 else v) = nI m - 1) (ht : qW_t s nm lo hi Y m) : ∃ t, qe (d + 1) 65 [.ref 127, .int v] (qb_hp (s), 149, c) = some (none, (qb_hp (t), 149, c)) ∧ qW_t t nm lo hi Y 0 ∧ qF (fun x => x = 128) s t := by
  have loop : ∀ (m : Nat) (s : qb_M) (l3 l4 : Value), m ≤ nm → qP_pl s 67 nw nm lo hi → s.1 127 4 = nI Y → qW_t s nm lo hi Y m → ∃ t, qa_lm (qe (d)) (qa_cd qc_65) (14, [.ref 127, .int v, .int (nI m - 1), l3, l4], [], (qb_hp (s), 149, c)) = some (none, (qb_hp (t), 149, c)) ∧ qW_t t nm lo hi Y 0 ∧ qF (fun x => x = 128) s t := by
    intro m
    induction m with
    | zero =>
      intro s l3 l4 hm hp hY ht
      refine ⟨s, ?_, ht, qF.rf⟩
      refine go_ild_5_2 rfl ?_
      refine go_iflt rfl (fun e => ?_) (fun e => ?_)
      · exact fin_v rfl (rfl)
      · exact absurd (by decide) e
    | succ k ih =>
      intro s l3 l4 hm hp hY ht
      have hok := hp.ok
      obtain ⟨p1, p2, ⟨p3, p4, p5⟩, p6⟩ := id hp
      obtain ⟨q1, q2, q3, q4⟩ := p6 k (by omega)
      have hlt : ∀ w, w < 8 → qm_te lo hi Y nm (nm - (k + 1)) w < 8 := qm_te_lt hok Y _ (by omega)
      have hpk := qm_pk_lt (hlt 7 (by decide))
      have nx : ∀ x, x = nI (qm_pk (qm_te lo hi Y nm (nm - k))) → ∃ t, qa_lm (qe (d)) (qa_cd qc_65) (14, [.ref 127, .int v, .int (nI k - 1), l3, l4], [], (qb_hp (qb_ui s 128 k x), 149, c)) = some (none, (qb_hp (t), 149, c)) ∧ qW_t t nm lo hi Y 0 ∧ qF (fun x => x = 128) s t := fun x hx => by
        obtain ⟨t, h1, h2, h3⟩ := ih (qb_ui s 128 k x) l3 l4 (by omega) (hp.mv (qF.rf.ui (x := 128) (k := k) (v := x) (P := fun x => x = 128) rfl) (by decide) (by decide) (by decide)) hY (fun j hj hj2 => by
          by_cases e : j = k
          · subst e; rw [qb_ui_1s]; exact hx
          · rw [qb_ui_1n (Or.inr e)]; exact ht j (by omega) hj2)
        exact ⟨t, h1, h2, (qF.rf.ui (P := fun x => x = 128) rfl).tr h3⟩
      have hte : ∀ w, qm_te lo hi Y nm (nm - k) w = qm_te lo hi Y nm (nm - (k + 1)) (qm_bh lo hi (Y.testBit k) k w) := fun w => by
        rw [show nm - k = (nm - (k + 1)) + 1 by omega]
        show qm_te lo hi Y nm (nm - (k + 1)) (qm_bh lo hi (Y.testBit (nm - 1 - (nm - (k + 1)))) (nm - 1 - (nm - (k + 1))) w) = _
        rw [show nm - 1 - (nm - (k + 1)) = k by omega]
      by_cases hb : Y.testBit k = true
      · obtain ⟨t, h1, h2, h3⟩ := ih (qb_ui s 128 k (nI (qm_pk (qm_te lo hi Y nm (nm - k))))) (.int (nI (qm_pk (qm_te lo hi Y nm (nm - k))))) (.int (nI ((qm_pk (qm_te lo hi Y nm (nm - (k + 1))) / 2 ^ (4 * lo k) ^^^ qm_pk (qm_te lo hi Y nm (nm - (k + 1))) / 2 ^ (4 * hi k)) % 16))) (by omega) (hp.mv (qF.rf.ui (x := 128) (k := k) (P := fun x => x = 128) rfl) (by decide) (by decide) (by decide)) hY (fun j hj hj2 => by
          by_cases e : j = k
          · subst e; rw [qb_ui_1s]
          · rw [qb_ui_1n (Or.inr e)]; exact ht j (by omega) hj2)
        refine ⟨t, ?_, h2, (qF.rf.ui (P := fun x => x = 128) rfl).tr h3⟩
        rw [nI_pred]
        refine go_ild_5_2 rfl ?_
        refine go_iflt rfl (fun e => ?_) (fun e => ?_)
        · exact absurd e (nI_pos (by omega))
        · refine go_ald_5_0 rfl ?_
          refine go_getr rfl ⟨_, rfl, rfl, by decide, by decide⟩ ?_
          refine go_ild_5_2 rfl ?_
          refine go_c rfl ?_
          refine go_iadd rfl ?_
          refine go_iald (j := k + 1) rfl (⟨rfl, by decide, by decide, by decide⟩) (nI_1 k) (by omega) ?_
          rw [ht (k + 1) (by omega) (by omega)]
          refine go_ist_5_3 rfl rfl ?_
          refine go_ald_5_0 rfl ?_
          refine go_geti rfl ⟨_, rfl, rfl, by decide, by decide⟩ ?_
          refine go_ild_5_2 rfl ?_
          refine go_ishr rfl ?_
          refine go_c rfl ?_
          refine go_iand rfl ?_
          rw [hY, qx_bit (by omega) (by omega)]
          refine go_ifeq rfl (fun e2 => ?_) (fun e2 => ?_)
          · exact absurd hb (qx_bit0.mp e2)
          · refine go_ild_5_3 rfl ?_
            refine go_c rfl ?_
            refine go_ald_5_0 rfl ?_
            refine go_getr rfl ⟨_, rfl, rfl, by decide, by decide⟩ ?_
            refine go_getr rfl ⟨_, rfl, rfl, by decide, by decide⟩ ?_
            refine go_ild_5_2 rfl ?_
            refine go_iald (j := k) rfl (⟨rfl, by decide, by decide, by decide⟩) (rfl) (by omega) ?_
            refine go_imul rfl ?_
            refine go_iushr rfl ?_
            refine go_ild_5_3 rfl ?_
            refine go_c rfl ?_
            refine go_ald_5_0 rfl ?_
            refine go_getr rfl ⟨_, rfl, rfl, by decide, by decide⟩ ?_
            refine go_getr rfl ⟨_, rfl, rfl, by decide, by decide⟩ ?_
            refine go_ild_5_2 rfl ?_
            refine go_iald (j := k) rfl (⟨rfl, by decide, by decide, by decide⟩) (rfl) (by omega) ?_
            refine go_imul rfl ?_
            refine go_iushr rfl ?_
            refine go_ixor rfl ?_
            refine go_c rfl ?_
            refine go_iand rfl ?_
            rw [q1, q2, qx_four, qx_four, qx_ushr (by omega) (by omega), qx_ushr (by omega) (by omega), fb_xorI, qx_fif _ (Nat.xor_lt_two_pow (Nat.lt_of_le_of_lt (Nat.div_le_self _ _) (by omega)) (Nat.lt_of_le_of_lt (Nat.div_le_self _ _) (by omega)))]
            refine go_ist_5_4 rfl rfl ?_
            refine go_ild_5_3 rfl ?_
            refine go_ild_5_4 rfl ?_
            refine go_c rfl ?_
            refine go_ald_5_0 rfl ?_
            refine go_getr rfl ⟨_, rfl, rfl, by decide, by decide⟩ ?_
            refine go_getr rfl ⟨_, rfl, rfl, by decide, by decide⟩ ?_
            refine go_ild_5_2 rfl ?_
            refine go_iald (j := k) rfl (⟨rfl, by decide, by decide, by decide⟩) (rfl) (by omega) ?_
            refine go_imul rfl ?_
            refine go_ishl rfl ?_
            refine go_ild_5_4 rfl ?_
            refine go_c rfl ?_
            refine go_ald_5_0 rfl ?_
            refine go_getr rfl ⟨_, rfl, rfl, by decide, by decide⟩ ?_
            refine go_getr rfl ⟨_, rfl, rfl, by decide, by decide⟩ ?_
            refine go_ild_5_2 rfl ?_
            refine go_iald (j := k) rfl (⟨rfl, by decide, by decide, by decide⟩) (rfl) (by omega) ?_
            refine go_imul rfl ?_
            refine go_ishl rfl ?_
            refine go_ior rfl ?_
            refine go_ixor rfl ?_
            have hu : ∀ x, x < 8 → (qm_pk (qm_te lo hi Y nm (nm - (k + 1))) / 2 ^ (4 * lo k) ^^^ qm_pk (qm_te lo hi Y nm (nm - (k + 1))) / 2 ^ (4 * hi k)) % 16 * 2 ^ (4 * x) < 2 ^ 32 := fun x hx => by
              have h9 : 2 ^ (4 * x) ≤ 2 ^ 28 := Nat.pow_le_pow_right (by decide) (by omega)
              have h8 : (qm_pk (qm_te lo hi Y nm (nm - (k + 1))) / 2 ^ (4 * lo k) ^^^ qm_pk (qm_te lo hi Y nm (nm - (k + 1))) / 2 ^ (4 * hi k)) % 16 ≤ 15 := by omega
              have := Nat.mul_le_mul h8 h9
              omega
            rw [q1, q2, qx_four, qx_four, qx_shl (by omega) (hu _ (by omega)), qx_shl (by omega) (hu _ (by omega)), fa_or, fb_xorI, qm_pk_swap _ q3 (by omega)]
            have e5 : qm_pk (fun w => qm_te lo hi Y nm (nm - (k + 1)) (qm_bh lo hi true k w)) = qm_pk (qm_te lo hi Y nm (nm - k)) := qm_pk_cong (fun w _ => by rw [hte, hb])
            rw [e5]
            refine go_ist_5_3 rfl rfl ?_
            refine go_ald_5_0 rfl ?_
            refine go_getr rfl ⟨_, rfl, rfl, by decide, by decide⟩ ?_
            refine go_ild_5_2 rfl ?_
            refine go_ild_5_3 rfl ?_
            refine go_iast (j := k) rfl (⟨rfl, by decide, by decide, by decide⟩) (rfl) (by omega) ?_
            refine go_inc_5_2 rfl rfl ?_
            refine go_goto rfl ?_
            rw [show nI k + (-1) = nI k - 1 from (Int32.sub_eq_add_neg _ _).symm]
            exact h1
      · have e5 : qm_pk (qm_te lo hi Y nm (nm - (k + 1))) = qm_pk (qm_te lo hi Y nm (nm - k)) := qm_pk_cong (fun w _ => by rw [hte, eq_false_of_ne_true hb]; rfl)
        obtain ⟨t, h1, h2, h3⟩ := ih (qb_ui s 128 k (nI (qm_pk (qm_te lo hi Y nm (nm - k))))) (.int (nI (qm_pk (qm_te lo hi Y nm (nm - k))))) l4 (by omega) (hp.mv (qF.rf.ui (x := 128) (k := k) (P := fun x => x = 128) rfl) (by decide) (by decide) (by decide)) hY (fun j hj hj2 => by
          by_cases e : j = k
          · subst e; rw [qb_ui_1s]
          · rw [qb_ui_1n (Or.inr e)]; exact ht j (by omega) hj2)
        refine ⟨t, ?_, h2, (qF.rf.ui (P := fun x => x = 128) rfl).tr h3⟩
        rw [nI_pred]
        refine go_ild_5_2 rfl ?_
        refine go_iflt rfl (fun e => ?_) (fun e => ?_)
        · exact absurd e (nI_pos (by omega))
        · refine go_ald_5_0 rfl ?_
          refine go_getr rfl ⟨_, rfl, rfl, by decide, by decide⟩ ?_
          refine go_ild_5_2 rfl ?_
          refine go_c rfl ?_
          refine go_iadd rfl ?_
          refine go_iald (j := k + 1) rfl (⟨rfl, by decide, by decide, by decide⟩) (nI_1 k) (by omega) ?_
          rw [ht (k + 1) (by omega) (by omega)]
          refine go_ist_5_3 rfl rfl ?_
          refine go_ald_5_0 rfl ?_
          refine go_geti rfl ⟨_, rfl, rfl, by decide, by decide⟩ ?_
          refine go_ild_5_2 rfl ?_
          refine go_ishr rfl ?_
          refine go_c rfl ?_
          refine go_iand rfl ?_
          rw [hY, qx_bit (by omega) (by omega)]
          refine go_ifeq rfl (fun e2 => ?_) (fun e2 => ?_)
          · rw [e5]
            refine go_ald_5_0 rfl ?_
            refine go_getr rfl ⟨_, rfl, rfl, by decide, by decide⟩ ?_
            refine go_ild_5_2 rfl ?_
            refine go_ild_5_3 rfl ?_
            refine go_iast (j := k) rfl (⟨rfl, by decide, by decide, by decide⟩) (rfl) (by omega) ?_
            refine go_inc_5_2 rfl rfl ?_
            refine go_goto rfl ?_
            rw [show nI k + (-1) = nI k - 1 from (Int32.sub_eq_add_neg _ _).symm]
            exact h1
          · exact absurd (qx_bit0.mpr hb) e2
  obtain ⟨t, h1, h2, h3⟩ := loop m s (.retAddr 0) (.retAddr 0) hm hp hY ht
  refine ⟨t, ?_, h2, h3⟩
  refine (en_65 d 127 v _).trans ?_
  obtain ⟨p1, p2, p3, p4⟩ := hp
  refine go_ild_5_1 rfl ?_
  refine go_ald_5_0 rfl ?_
  refine go_getr rfl ⟨_, rfl, rfl, by decide, by decide⟩ ?_
  refine go_geti rfl ⟨_, rfl, rfl, by decide, by decide⟩ ?_
  rw [p2]
  refine go_c rfl ?_
  refine go_isub rfl ?_
  refine go_min rfl (Nat.le_of_ble_eq_true rfl) ?_
  rw [hv]
  refine go_ist_5_2 rfl rfl ?_
  exact h1
theorem qx_bcnt : ∀ n, n < 1024 → (let x := nI n; let x := x - (((x.toUInt32 >>> (Int32.toUInt32 1 &&& Int32.toUInt32 31)).toInt32) &&& 1431655765); let x := (x &&& 858993459) + (((x.toUInt32 >>> (Int32.toUInt32 2 &&& Int32.toUInt32 31)).toInt32) &&& 858993459); let x := (x + ((x.toUInt32 >>> (Int32.toUInt32 4 &&& Int32.toUInt32 31)).toInt32)) &&& 252645135; let x := x + ((x.toUInt32 >>> (Int32.toUInt32 8 &&& Int32.toUInt32 31)).toInt32); let x := x + ((x.toUInt32 >>> (Int32.toUInt32 16 &&& Int32.toUInt32 31)).toInt32); x &&& 63) = nI (qm_bc 32 n) ∧ qm_bc 32 n ≤ 10 := by decide +kernel
theorem sp_bitCount (d n : Nat) (hn : n < 1024) (h : qa_H) : qe (d + 1) 67 [.int (nI n)] h = some (some (.int (nI (qm_bc 32 n))), h) := by
  refine (en_67 d (nI n) h).trans ?_
  refine go_ild_1_0 rfl ?_
  refine go_ild_1_0 rfl ?_
  refine go_c rfl ?_
  refine go_iushr rfl ?_
  refine go_c rfl ?_
  refine go_iand rfl ?_
  refine go_isub rfl ?_
  refine go_ist_1_0 rfl rfl ?_
  refine go_ild_1_0 rfl ?_
  refine go_c rfl ?_
  refine go_iand rfl ?_
  refine go_ild_1_0 rfl ?_
  refine go_c rfl ?_
  refine go_iushr rfl ?_
  refine go_c rfl ?_
  refine go_iand rfl ?_
  refine go_iadd rfl ?_
  refine go_ist_1_0 rfl rfl ?_
  refine go_ild_1_0 rfl ?_
  refine go_ild_1_0 rfl ?_
  refine go_c rfl ?_
  refine go_iushr rfl ?_
  refine go_iadd rfl ?_
  refine go_c rfl ?_
  refine go_iand rfl ?_
  refine go_ist_1_0 rfl rfl ?_
  refine go_ild_1_0 rfl ?_
  refine go_ild_1_0 rfl ?_
  refine go_c rfl ?_
  refine go_iushr rfl ?_
  refine go_iadd rfl ?_
  refine go_ist_1_0 rfl rfl ?_
  refine go_ild_1_0 rfl ?_
  refine go_ild_1_0 rfl ?_
  refine go_c rfl ?_
  refine go_iushr rfl ?_
  refine go_iadd rfl ?_
  refine go_ist_1_0 rfl rfl ?_
  refine go_ild_1_0 rfl ?_
  refine go_c rfl ?_
  refine go_iand rfl ?_
  exact fin_i rfl rfl (qR_i (qx_bcnt n hn).1)
/-- the sweep at a setting -/
def qW (s : qb_M) (nm : Nat) (lo hi : Nat → Nat) (X F i : Nat) : Prop := s.1 127 2 = nI (qm_B nm X F) ∧ s.1 127 3 = nI (qm_L nm F) ∧ s.1 127 4 = nI (qm_y nm X F i) ∧ qW_t s nm lo hi (qm_y nm X F i) 0
theorem sp_start (d : Nat) (s : qb_M) (c : Nat × Nat) {nw nm : Nat} {lo hi : Nat → Nat} (hp : qP_pl s 67 nw nm lo hi) (X F : Nat) (hX : X < 2 ^ nm) : ∃ t, qe (d + 2) 64 [.ref 127, .int (nI X), .int (nI F)] (qb_hp (s), 149, c) = some (some (.int (nI (qm_N nm F))), (qb_hp (t), 149, c)) ∧ qW t nm lo hi X F 0 ∧ qF (fun x => x = 127 ∨ x = 128) s t := by
  have hok := hp.ok
  obtain ⟨p1, p2, ⟨p3, p4, p5⟩, p6⟩ := id hp
  have hB : qm_B nm X F < 1024 := Nat.lt_of_lt_of_le (qm_ac_lt _ nm) (Nat.pow_le_pow_right (n := 2) (by decide) p5)
  have hL : qm_L nm F < 1024 := Nat.lt_of_lt_of_le (qm_ac_lt _ nm) (Nat.pow_le_pow_right (n := 2) (by decide) p5)
  have hf : qF (fun x => x = 127 ∨ x = 128) s (qb_ui (qb_ui (qb_ui (qb_ui s 127 3 (nI (qm_L nm F))) 127 2 (nI (qm_B nm X F))) 127 4 (nI (qm_B nm X F))) 128 nm 1985229328) := (((qF.rf.ui (Or.inl rfl)).ui (Or.inl rfl)).ui (Or.inl rfl)).ui (Or.inr rfl)
  obtain ⟨t, h1, h2, h3⟩ := sp_layTails d c (nw := nw) (nm := nm) (lo := lo) (hi := hi) (qm_B nm X F) hB (qb_ui (qb_ui (qb_ui (qb_ui s 127 3 (nI (qm_L nm F))) 127 2 (nI (qm_B nm X F))) 127 4 (nI (qm_B nm X F))) 128 nm 1985229328) (hp.mv hf (by decide) (by decide) (by decide)) rfl (nI nm - 1) nm (Nat.le_refl _) (by split <;> rfl) (fun k hk hk2 => by
    have : k = nm := by omega
    subst this
    rw [qb_ui_1s, Nat.sub_self, show qm_te lo hi (qm_B k X F) k 0 = fun w => w from rfl, qm_pk_id]
    rfl)
  refine ⟨t, ?_, ⟨?_, ?_, ?_, ?_⟩, hf.tr (h3.mo (fun x hx => Or.inr hx))⟩
  · refine (en_64 (d + 1) 127 (nI X) (nI F) _).trans ?_
    refine go_c rfl ?_
    refine go_ald_4_0 rfl ?_
    refine go_getr rfl ⟨_, rfl, rfl, by decide, by decide⟩ ?_
    refine go_geti rfl ⟨_, rfl, rfl, by decide, by decide⟩ ?_
    rw [p2]
    refine go_ishl rfl ?_
    refine go_c rfl ?_
    refine go_isub rfl ?_
    rw [qx_all (by omega)]
    refine go_ist_4_3 rfl rfl ?_
    refine go_ald_4_0 rfl ?_
    refine go_ild_4_3 rfl ?_
    refine go_ild_4_2 rfl ?_
    refine go_c rfl ?_
    refine go_ixor rfl ?_
    refine go_iand rfl ?_
    rw [qx_not, fa_and, qm_L_and (by omega)]
    refine go_puti rfl ⟨_, rfl, rfl, by decide, by decide⟩ rfl rfl ?_
    refine go_ald_4_0 rfl ?_
    refine go_ild_4_1 rfl ?_
    refine go_ild_4_3 rfl ?_
    refine go_iand rfl ?_
    refine go_ild_4_2 rfl ?_
    refine go_iand rfl ?_
    rw [fa_and, fa_and, qm_B_and]
    refine go_puti rfl ⟨_, rfl, rfl, by decide, by decide⟩ rfl rfl ?_
    refine go_ald_4_0 rfl ?_
    refine go_ald_4_0 rfl ?_
    refine go_geti rfl ⟨_, rfl, rfl, by decide, by decide⟩ ?_
    rw [qb_ui_1s]
    refine go_puti rfl ⟨_, rfl, rfl, by decide, by decide⟩ rfl rfl ?_
    refine go_ald_4_0 rfl ?_
    refine go_getr rfl ⟨_, rfl, rfl, by decide, by decide⟩ ?_
    refine go_ald_4_0 rfl ?_
    refine go_getr rfl ⟨_, rfl, rfl, by decide, by decide⟩ ?_
    refine go_geti rfl ⟨_, rfl, rfl, by decide, by decide⟩ ?_
    rw [show (qb_ui (qb_ui (qb_ui s 127 3 (nI (qm_L nm F))) 127 2 (nI (qm_B nm X F))) 127 4 (nI (qm_B nm X F))).1 67 6 = nI nm from p2]
    refine go_c rfl ?_
    refine go_iast (j := nm) rfl (⟨rfl, by decide, by decide, by decide⟩) (rfl) (by omega) ?_
    refine go_ald_4_0 rfl ?_
    refine go_ald_4_0 rfl ?_
    refine go_getr rfl ⟨_, rfl, rfl, by decide, by decide⟩ ?_
    refine go_geti rfl ⟨_, rfl, rfl, by decide, by decide⟩ ?_
    rw [show (qb_ui (qb_ui (qb_ui (qb_ui s 127 3 (nI (qm_L nm F))) 127 2 (nI (qm_B nm X F))) 127 4 (nI (qm_B nm X F))) 128 nm 1985229328).1 67 6 = nI nm from p2]
    refine go_c rfl ?_
    refine go_isub rfl ?_
    refine go_call2 rfl (h1) (Nat.le_of_ble_eq_true rfl) (qb_qv rfl (by decide) (by decide)) ?_
    refine go_c rfl ?_
    refine go_ald_4_0 rfl ?_
    refine go_geti rfl ⟨_, rfl, rfl, by decide, by decide⟩ ?_
    rw [show t.1 127 3 = nI (qm_L nm F) from (h3.i (by decide)).trans rfl]
    refine go_call1 rfl (sp_bitCount d _ hL _) (Nat.le_of_ble_eq_true rfl) rfl ?_
    refine go_ishl rfl ?_
    rw [qx_1shl _ (by have := (qx_bcnt _ hL).2; omega)]
    exact fin_i rfl rfl rfl
  · exact (h3.i (by decide)).trans rfl
  · exact (h3.i (by decide)).trans rfl
  · rw [qm_y_0]; exact (h3.i (by decide)).trans rfl
  · rw [qm_y_0]; exact h2
theorem sp_ends (d : Nat) (s : qb_M) (c : Nat × Nat) : qe (d + 1) 68 [.ref 127] (qb_hp (s), 149, c) = some (some (.int (s.1 128 0)), (qb_hp (s), 149, c)) := by
  refine (en_68 d 127 _).trans ?_
  refine go_ald_1_0 rfl ?_
  refine go_getr rfl ⟨_, rfl, rfl, by decide, by decide⟩ ?_
  refine go_c rfl ?_
  refine go_iald (j := 0) rfl ⟨rfl, by decide, by decide, by decide⟩ rfl (by decide) ?_
  exact fin_i rfl rfl (rfl)
theorem qx_shr0 {n k : Nat} (hn : n < 2 ^ 31) (hk : k < 32) : nI n >>> (nI k &&& 31) = nI (n / 2 ^ k) := pk_shrN hn _ k (qx_sm k hk)
theorem sp_advance (d : Nat) (s : qb_M) (c : Nat × Nat) {nw nm : Nat} {lo hi : Nat → Nat} (hp : qP_pl s 67 nw nm lo hi) (X F i : Nat) (hw : qW s nm lo hi X F i) : ∃ t, qe (d + 2) 70 [.ref 127] (qb_hp (s), 149, c) = some (none, (qb_hp (t), 149, c)) ∧ qW t nm lo hi X F (i + 1) ∧ qF (fun x => x = 127 ∨ x = 128) s t := by
  have hok := hp.ok
  obtain ⟨p1, p2, ⟨p3, p4, p5⟩, p6⟩ := id hp
  obtain ⟨w1, w2, w3, w4⟩ := hw
  have hy : ∀ j, qm_y nm X F j < 1024 := fun j => Nat.lt_of_lt_of_le qm_y_lt (Nat.pow_le_pow_right (n := 2) (by decide) p5)
  have hch : qm_y nm X F (i + 1) ^^^ qm_y nm X F i < 1024 := Nat.xor_lt_two_pow (n := 10) (hy _) (hy _)
  have hf : qF (fun x => x = 127 ∨ x = 128) s (qb_ui s 127 4 (nI (qm_y nm X F (i + 1)))) := qF.rf.ui (Or.inl rfl)
  have hp2 := hp.mv hf (by decide) (by decide) (by decide)
  -- the tails from m on stand, where the settings agree from m on
  have fin : ∀ (p m : Nat), m ≤ nm → (nm = 0 ∧ m = 0 ∧ p = 0 ∨ m = p + 1) → (∀ j, m ≤ j → j < nm → (qm_y nm X F (i + 1)).testBit j = (qm_y nm X F i).testBit j) → ∃ t, qe (d + 1) 65 [.ref 127, .int (nI p)] (qb_hp (qb_ui s 127 4 (nI (qm_y nm X F (i + 1)))), 149, c) = some (none, (qb_hp (t), 149, c)) ∧ qW t nm lo hi X F (i + 1) ∧ qF (fun x => x = 127 ∨ x = 128) s t := fun p m hm hpm hb => by
    obtain ⟨t, h1, h2, h3⟩ := sp_layTails d c (qm_y nm X F (i + 1)) (hy _) _ hp2 rfl (nI p) m hm (by
      rcases hpm with ⟨e1, e2, e3⟩ | e1
      · subst e1 e2 e3; decide
      · subst e1
        rw [nI_pred]
        obtain ⟨n9, e9⟩ : ∃ n9, nm = n9 + 1 := ⟨nm - 1, by omega⟩
        rw [e9, nI_pred]
        rw [if_neg (nI_nlt (by omega) (by omega))]) (fun k hk hk2 => by
      rw [qb_ui_1n (Or.inl (by decide)), w4 k (by omega) hk2]
      exact congrArg nI (qm_pk_cong (fun w _ => qm_te_cong _ (fun j h1 h2 => (hb j (by omega) h2).symm) (by omega) w)))
    exact ⟨t, h1, ⟨(h3.i (by decide)).trans w1, (h3.i (by decide)).trans w2, (h3.i (by decide)).trans rfl, h2⟩, hf.tr (h3.mo (fun x hx => Or.inr hx))⟩
  have loop : ∀ (n p : Nat), p + n = 11 → (p = 0 ∨ p < nm) → ∃ t, qa_lm (qe (d + 1)) (qa_cd qc_70) (41, [.ref 127, .int (nI (qm_y nm X F (i + 1))), .int (nI (qm_y nm X F (i + 1) ^^^ qm_y nm X F i)), .int (nI p), .int (nI (p + 1))], [], (qb_hp (qb_ui s 127 4 (nI (qm_y nm X F (i + 1)))), 149, c)) = some (none, (qb_hp (t), 149, c)) ∧ qW t nm lo hi X F (i + 1) ∧ qF (fun x => x = 127 ∨ x = 128) s t := by
    intro n
    induction n with
    | zero => intro p h1 h2; omega
    | succ n ih =>
      intro p hpn hpm
      by_cases h1 : nm ≤ p + 1
      · obtain ⟨t, g1, g2, g3⟩ := fin p (if nm = 0 then 0 else p + 1) (by split <;> omega) (by split <;> omega) (fun j hj hj2 => by split at hj <;> omega)
        refine ⟨t, ?_, g2, g3⟩
        refine go_ild_5_4 rfl ?_
        refine go_ald_5_0 rfl ?_
        refine go_getr rfl ⟨_, rfl, rfl, by decide, by decide⟩ ?_
        refine go_geti rfl ⟨_, rfl, rfl, by decide, by decide⟩ ?_
        rw [show (qb_ui s 127 4 (nI (qm_y nm X F (i + 1)))).1 67 6 = nI nm from p2]
        refine go_icge rfl (fun e => ?_) (fun e => ?_)
        · refine go_ald_5_0 rfl ?_
          refine go_ild_5_3 rfl ?_
          refine go_call2 rfl (g1) (Nat.le_of_ble_eq_true rfl) (qb_qv rfl (by decide) (by decide)) ?_
          exact fin_v rfl rfl
        · exact absurd (nI_le h1 (by omega)) e
      · by_cases h2 : (qm_y nm X F (i + 1) ^^^ qm_y nm X F i) / 2 ^ (p + 1) = 0
        · obtain ⟨t, g1, g2, g3⟩ := fin p (p + 1) (by omega) (Or.inr rfl) (fun j hj hj2 => by
            have h9 : (qm_y nm X F (i + 1) ^^^ qm_y nm X F i).testBit j = false := by
              have : (qm_y nm X F (i + 1) ^^^ qm_y nm X F i) < 2 ^ (p + 1) := by
                rcases Nat.lt_or_ge (qm_y nm X F (i + 1) ^^^ qm_y nm X F i) (2 ^ (p + 1)) with z | z
                · exact z
                · have := Nat.div_pos z (Nat.two_pow_pos _); omega
              exact Nat.testBit_lt_two_pow (Nat.lt_of_lt_of_le this (Nat.pow_le_pow_right (by decide) hj))
            exact Classical.byContradiction fun z => by rw [qm_xor_bit.mpr z] at h9; exact absurd h9 (by decide))
          refine ⟨t, ?_, g2, g3⟩
          refine go_ild_5_4 rfl ?_
          refine go_ald_5_0 rfl ?_
          refine go_getr rfl ⟨_, rfl, rfl, by decide, by decide⟩ ?_
          refine go_geti rfl ⟨_, rfl, rfl, by decide, by decide⟩ ?_
          rw [show (qb_ui s 127 4 (nI (qm_y nm X F (i + 1)))).1 67 6 = nI nm from p2]
          refine go_icge rfl (fun e => ?_) (fun e => ?_)
          · exact absurd e (nI_ge (by omega) (by omega))
          · refine go_ild_5_2 rfl ?_
            refine go_ild_5_4 rfl ?_
            refine go_ishr rfl ?_
            rw [qx_shr0 (by omega) (by omega), h2]
            refine go_ifeq rfl (fun e2 => ?_) (fun e2 => ?_)
            · refine go_ald_5_0 rfl ?_
              refine go_ild_5_3 rfl ?_
              refine go_call2 rfl (g1) (Nat.le_of_ble_eq_true rfl) (qb_qv rfl (by decide) (by decide)) ?_
              exact fin_v rfl rfl
            · exact absurd rfl e2
        · obtain ⟨t, g1, g2, g3⟩ := ih (p + 1) (by omega) (by omega)
          refine ⟨t, ?_, g2, g3⟩
          refine go_ild_5_4 rfl ?_
          refine go_ald_5_0 rfl ?_
          refine go_getr rfl ⟨_, rfl, rfl, by decide, by decide⟩ ?_
          refine go_geti rfl ⟨_, rfl, rfl, by decide, by decide⟩ ?_
          rw [show (qb_ui s 127 4 (nI (qm_y nm X F (i + 1)))).1 67 6 = nI nm from p2]
          refine go_icge rfl (fun e => ?_) (fun e => ?_)
          · exact absurd e (nI_ge (by omega) (by omega))
          · refine go_ild_5_2 rfl ?_
            refine go_ild_5_4 rfl ?_
            refine go_ishr rfl ?_
            rw [qx_shr0 (by omega) (by omega)]
            refine go_ifeq rfl (fun e2 => ?_) (fun e2 => ?_)
            · exact absurd e2 (nI_ne0 (Nat.pos_of_ne_zero h2) (Nat.lt_of_le_of_lt (Nat.div_le_self _ _) (by omega)))
            · refine go_ild_5_4 rfl ?_
              refine go_ist_5_3 rfl rfl ?_
              refine go_inc_5_4 rfl rfl ?_
              refine go_goto rfl ?_
              rw [nI_1]
              exact g1
  obtain ⟨t, g1, g2, g3⟩ := loop 11 0 (by omega) (Or.inl rfl)
  refine ⟨t, ?_, g2, g3⟩
  refine (en_70 (d + 1) 127 _).trans ?_
  refine go_ald_5_0 rfl ?_
  refine go_geti rfl ⟨_, rfl, rfl, by decide, by decide⟩ ?_
  refine go_ald_5_0 rfl ?_
  refine go_geti rfl ⟨_, rfl, rfl, by decide, by decide⟩ ?_
  refine go_c rfl ?_
  refine go_ixor rfl ?_
  refine go_ior rfl ?_
  refine go_c rfl ?_
  refine go_iadd rfl ?_
  refine go_ald_5_0 rfl ?_
  refine go_geti rfl ⟨_, rfl, rfl, by decide, by decide⟩ ?_
  refine go_iand rfl ?_
  refine go_ald_5_0 rfl ?_
  refine go_geti rfl ⟨_, rfl, rfl, by decide, by decide⟩ ?_
  refine go_ior rfl ?_
  rw [w1, w2, w3, qm_y_adv (by omega)]
  refine go_ist_5_1 rfl rfl ?_
  refine go_ild_5_1 rfl ?_
  refine go_ald_5_0 rfl ?_
  refine go_geti rfl ⟨_, rfl, rfl, by decide, by decide⟩ ?_
  refine go_ixor rfl ?_
  rw [w3, fb_xorI]
  refine go_ist_5_2 rfl rfl ?_
  refine go_ald_5_0 rfl ?_
  refine go_ild_5_1 rfl ?_
  refine go_puti rfl ⟨_, rfl, rfl, by decide, by decide⟩ rfl rfl ?_
  refine go_c rfl ?_
  refine go_ist_5_3 rfl rfl ?_
  refine go_c rfl ?_
  refine go_ist_5_4 rfl rfl ?_
  exact g1

/-! the reference's search -/
theorem qb_ui_tw {s : qb_M} {a k : Nat} {v w : Int32} : qb_ui (qb_ui s a k v) a k w = qb_ui s a k w := by
  show (qb_u (qb_u s.1 a k v) a k w, s.2) = (qb_u s.1 a k w, s.2)
  have : qb_u (qb_u s.1 a k v) a k w = qb_u s.1 a k w := by
    funext b j
    unfold qb_u
    by_cases h : b = a ∧ j = k
    · rw [if_pos h, if_pos h]
    · rw [if_neg h, if_neg h, if_neg h]
  rw [this]
theorem sp_onWires (d : Nat) (s : qb_M) (c : Nat × Nat) : qe (d + 2) 211 [.ref 192] (qb_hp (s), 149, c) = some (some (.int (nI (qs_up (qm_so s)))), (qb_hp (s), 149, c)) := by
  have loop : ∀ (n w : Nat), w + n = 8 → qa_lm (qe (d + 1)) (qa_cd qc_211) (4, [.ref 192, .int (nI (qm_ac (qs_on (qm_so s)) w)), .int (nI w)], [], (qb_hp (s), 149, c)) = some (some (.int (nI (qs_up (qm_so s)))), (qb_hp (s), 149, c)) := by
    intro n
    induction n with
    | zero =>
      intro w hw
      have hw : w = 8 := by omega
      subst hw
      refine go_ild_3_2 rfl ?_
      refine go_c rfl ?_
      refine go_icge rfl (fun e => ?_) (fun e => ?_)
      · refine go_ild_3_1 rfl ?_
        exact fin_i rfl rfl (rfl)
      · exact absurd (by decide) e
    | succ n ih =>
      intro w hw
      refine go_ild_3_2 rfl ?_
      refine go_c rfl ?_
      refine go_icge rfl (fun e => ?_) (fun e => ?_)
      · exact absurd e (nI_ge (b := 8) (by omega) (by omega))
      · refine go_ald_3_0 rfl ?_
        refine go_ild_3_2 rfl ?_
        refine go_call2 rfl (sp_isOn' d s c w (by omega)) (Nat.le_of_ble_eq_true rfl) (qb_qv rfl (by decide) (by decide)) ?_
        refine go_ifeq rfl (fun e2 => ?_) (fun e2 => ?_)
        · refine go_inc_3_2 rfl rfl ?_
          refine go_goto rfl ?_
          rw [nI_1, qx_unset (p := qs_on (qm_so s)) (k := w) (qB_0.mp e2)]
          exact ih (w + 1) (by omega)
        · have h2 : qs_on (qm_so s) w = true := Classical.byContradiction fun z => e2 (qB_f z)
          refine go_ild_3_1 rfl ?_
          refine go_c rfl ?_
          refine go_ild_3_2 rfl ?_
          refine go_ishl rfl ?_
          refine go_ior rfl ?_
          rw [qx_set (p := qs_on (qm_so s)) (by omega) h2]
          refine go_ist_3_1 rfl rfl ?_
          refine go_inc_3_2 rfl rfl ?_
          refine go_goto rfl ?_
          rw [nI_1]
          exact ih (w + 1) (by omega)
  refine (en_211 (d + 1) 192 _).trans ?_
  refine go_c rfl ?_
  refine go_ist_3_1 rfl rfl ?_
  refine go_c rfl ?_
  refine go_ist_3_2 rfl rfl ?_
  exact loop 8 0 (by omega)
theorem sp_atWires (d : Nat) (s : qb_M) (c : Nat × Nat) : qe (d + 2) 212 [.ref 192] (qb_hp (s), 149, c) = some (some (.int (qs_at (qm_so s) 8)), (qb_hp (s), 149, c)) := by
  have loop : ∀ (n w : Nat), w + n = 8 → qa_lm (qe (d + 1)) (qa_cd qc_212) (4, [.ref 192, .int (qs_at (qm_so s) w), .int (nI w)], [], (qb_hp (s), 149, c)) = some (some (.int (qs_at (qm_so s) 8)), (qb_hp (s), 149, c)) := by
    intro n
    induction n with
    | zero =>
      intro w hw
      have hw : w = 8 := by omega
      subst hw
      refine go_ild_3_2 rfl ?_
      refine go_c rfl ?_
      refine go_icge rfl (fun e => ?_) (fun e => ?_)
      · refine go_ild_3_1 rfl ?_
        exact fin_i rfl rfl (rfl)
      · exact absurd (by decide) e
    | succ n ih =>
      intro w hw
      have ih := ih (w + 1) (by omega)
      unfold qs_at at ih
      refine go_ild_3_2 rfl ?_
      refine go_c rfl ?_
      refine go_icge rfl (fun e => ?_) (fun e => ?_)
      · exact absurd e (nI_ge (b := 8) (by omega) (by omega))
      · refine go_ald_3_0 rfl ?_
        refine go_ild_3_2 rfl ?_
        refine go_call2 rfl (sp_isOn' d s c w (by omega)) (Nat.le_of_ble_eq_true rfl) (qb_qv rfl (by decide) (by decide)) ?_
        refine go_ifeq rfl (fun e2 => ?_) (fun e2 => ?_)
        · rw [if_neg (qB_0.mp e2)] at ih
          refine go_inc_3_2 rfl rfl ?_
          refine go_goto rfl ?_
          rw [nI_1]
          exact ih
        · have h2 : qs_on (qm_so s) w = true := Classical.byContradiction fun z => e2 (qB_f z)
          rw [if_pos h2, show qm_so s (6 + w) = s.1 194 (36 + w) from by unfold qm_so; rw [show 30 + (6 + w) = 36 + w by omega]] at ih
          refine go_ild_3_1 rfl ?_
          refine go_c rfl ?_
          refine go_ald_3_0 rfl ?_
          refine go_getr rfl ⟨_, rfl, rfl, by decide, by decide⟩ ?_
          refine go_c rfl ?_
          refine go_ild_3_2 rfl ?_
          refine go_iadd rfl ?_
          refine go_iald (j := 36 + w) rfl (⟨rfl, by decide, by decide, by decide⟩) (nI_add 36 w) (by omega) ?_
          refine go_ishl rfl ?_
          refine go_ior rfl ?_
          refine go_ist_3_1 rfl rfl ?_
          refine go_inc_3_2 rfl rfl ?_
          refine go_goto rfl ?_
          rw [nI_1]
          exact ih
  refine (en_212 (d + 1) 192 _).trans ?_
  refine go_c rfl ?_
  refine go_ist_3_1 rfl rfl ?_
  refine go_c rfl ?_
  refine go_ist_3_2 rfl rfl ?_
  exact loop 8 0 (by omega)
/-- a wire where a call goes out -/
def qs_bz (f : Nat → Int32) (i o : Nat) : Bool := qs_on f i || (qs_at f 8 >>> (nI o &&& 31) &&& 1 == 1)
theorem qx_bit1 (x y : Int32) : (x >>> y) &&& 1 = 0 ∨ (x >>> y) &&& 1 = 1 := by
  obtain ⟨j, h1, h2⟩ := pk_andE (x >>> y) (m := 1) 1 (by decide)
  rw [h2]
  rcases (show j = 0 ∨ j = 1 by omega) with e | e <;> subst e
  · exact Or.inl rfl
  · exact Or.inr rfl
theorem sp_isBusyM (d : Nat) (s : qb_M) (c : Nat × Nat) (i o : Nat) (hi : i < 8) : qe (d + 3) 216 [.ref 192, .int (nI i), .int (nI o)] (qb_hp (s), 149, c) = some (some (.int (qB (qs_bz (qm_so s) i o = true))), (qb_hp (s), 149, c)) := by
  refine (en_216 (d + 2) 192 (nI i) (nI o) _).trans ?_
  refine go_ald_3_0 rfl ?_
  refine go_ild_3_1 rfl ?_
  refine go_call2 rfl (sp_isOn' (d + 1) s c i hi) (Nat.le_of_ble_eq_true rfl) (qb_qv rfl (by decide) (by decide)) ?_
  refine go_ifne rfl (fun e => ?_) (fun e => ?_)
  · have e := qB_0.mp e
    refine go_ald_3_0 rfl ?_
    refine go_call1 rfl (sp_atWires d s c) (Nat.le_of_ble_eq_true rfl) (qb_qv rfl (by decide) (by decide)) ?_
    refine go_ild_3_2 rfl ?_
    refine go_call2 rfl (sp_has0 (d + 1) _ _ _) (Nat.le_of_ble_eq_true rfl) rfl ?_
    refine go_ifeq rfl (fun e2 => ?_) (fun e2 => ?_)
    · refine go_c rfl ?_
      exact fin_i rfl rfl (qR_i (qB_f (by unfold qs_bz; rw [eq_false_of_ne_true e, Bool.false_or, beq_iff_eq]; exact qB_0.mp e2)).symm)
    · refine go_c rfl ?_
      refine go_goto rfl ?_
      exact fin_i rfl rfl (qR_i (qB_t (by unfold qs_bz; rw [eq_false_of_ne_true e, Bool.false_or, beq_iff_eq]; exact Classical.byContradiction fun z => e2 (qB_f z))).symm)
  · refine go_c rfl ?_
    refine go_goto rfl ?_
    exact fin_i rfl rfl (qR_i (qB_t (by unfold qs_bz; rw [Classical.byContradiction fun z => e (qB_f z)]; rfl)).symm)
theorem sp_isBusyS (d : Nat) (s : qb_M) (c : Nat × Nat) {a : Nat} (hS : qS_sh a) (i o : Nat) (hi : i < 8) : qe (d + 3) 61 [.ref a, .int (nI i), .int (nI o)] (qb_hp (s), 149, c) = some (some (.int (qB (qs_bz (qs_so s a) i o = true))), (qb_hp (s), 149, c)) := by
  refine (en_61 (d + 2) a (nI i) (nI o) _).trans ?_
  refine go_ald_3_0 rfl ?_
  refine go_ild_3_1 rfl ?_
  refine go_call2 rfl (sp_isUp (d + 1) s c hS i hi) (Nat.le_of_ble_eq_true rfl) (qS_v hS) ?_
  refine go_ifne rfl (fun e => ?_) (fun e => ?_)
  · have e := qB_0.mp e
    refine go_ald_3_0 rfl ?_
    refine go_call1 rfl (sp_wiresReached d s c hS) (Nat.le_of_ble_eq_true rfl) (qS_v hS) ?_
    refine go_ild_3_2 rfl ?_
    refine go_ishr rfl ?_
    refine go_c rfl ?_
    refine go_iand rfl ?_
    refine go_ifeq rfl (fun e2 => ?_) (fun e2 => ?_)
    · refine go_c rfl ?_
      exact fin_i rfl rfl (qR_i (qB_f (by unfold qs_bz; rw [eq_false_of_ne_true e, Bool.false_or, beq_iff_eq, e2]; decide)).symm)
    · refine go_c rfl ?_
      refine go_goto rfl ?_
      exact fin_i rfl rfl (qR_i (qB_t (by unfold qs_bz; rw [eq_false_of_ne_true e, Bool.false_or, beq_iff_eq]; exact (qx_bit1 _ _).resolve_left e2)).symm)
  · refine go_c rfl ?_
    refine go_goto rfl ?_
    exact fin_i rfl rfl (qR_i (qB_t (by unfold qs_bz; rw [Classical.byContradiction fun z => e (qB_f z)]; rfl)).symm)
theorem sp_isFixed (d : Nat) (s : qb_M) (c : Nat × Nat) {X Y J : Nat} (hX : s.1 194 31 = nI X) (hX3 : X < 2 ^ 31) (hY : Y < 2 ^ 31) : qe (d + 1) 219 [.ref 192, .int (nI Y), .int (nI J)] (qb_hp (s), 149, c) = some (some (.int (qB (qm_S X J Y = true))), (qb_hp (s), 149, c)) := by
  refine (en_219 d 192 (nI Y) (nI J) _).trans ?_
  have h9 : (X ^^^ Y) &&& J < 2 ^ 31 := Nat.lt_of_le_of_lt Nat.and_le_left (Nat.xor_lt_two_pow hX3 hY)
  refine go_ild_3_1 rfl ?_
  refine go_ald_3_0 rfl ?_
  refine go_getr rfl ⟨_, rfl, rfl, by decide, by decide⟩ ?_
  refine go_c rfl ?_
  refine go_iald (j := 31) rfl ⟨rfl, by decide, by decide, by decide⟩ rfl (by decide) ?_
  rw [hX]
  refine go_ixor rfl ?_
  refine go_ild_3_2 rfl ?_
  refine go_iand rfl ?_
  rw [fb_xorI, fa_and, Nat.xor_comm]
  refine go_ifne rfl (fun e => ?_) (fun e => ?_)
  · refine go_c rfl ?_
    refine go_goto rfl ?_
    exact fin_i rfl rfl (qR_i (qB_t (decide_eq_true ((nI_eq (b := 0) h9 (by decide)).mp e))).symm)
  · refine go_c rfl ?_
    exact fin_i rfl rfl (qR_i (qB_f (fun z => e (by rw [show (X ^^^ Y) &&& J = 0 from of_decide_eq_true z]; rfl))).symm)
theorem qm_so_1 {s : qb_M} {X : Nat} (h : qm_so s 1 = nI X) : s.1 194 31 = nI X := h
theorem sp_layWays (d : Nat) (s : qb_M) (c : Nat × Nat) {nw nm : Nat} {lo hi : Nat → Nat} (hp : qm_pl s nw nm lo hi) {X : Nat} (hX : s.1 194 31 = nI X) (hX3 : X < 1024) : qe (d + 4) 218 [.ref 192] (qb_hp (s), 149, c) = some (none, (qb_hp (qb_wl s 204 0 nw (fun w => lN (qm_wy lo hi X w nm))), 149, c)) := by
  obtain ⟨p1, p2, ⟨p3, p4, p5⟩, p6⟩ := id hp
  have loop : ∀ (n w : Nat), w + n = nw → qa_lm (qe (d + 3)) (qa_cd qc_218) (2, [.ref 192, .int (nI w)], [], (qb_hp (qb_wl s 204 0 w (fun w => lN (qm_wy lo hi X w nm))), 149, c)) = some (none, (qb_hp (qb_wl s 204 0 nw (fun w => lN (qm_wy lo hi X w nm))), 149, c)) := by
    intro n
    induction n with
    | zero =>
      intro w hw
      have hw : w = nw := by omega
      subst hw
      refine go_ild_2_1 rfl ?_
      refine go_ald_2_0 rfl ?_
      refine go_getr rfl ⟨_, rfl, rfl, by decide, by decide⟩ ?_
      refine go_c rfl ?_
      refine go_iald (j := 0) rfl ⟨rfl, by decide, by decide, by decide⟩ rfl (by decide) ?_
      rw [show (qb_wl s 204 0 w (fun w => lN (qm_wy lo hi X w nm))).1 194 0 = nI w from p1]
      refine go_icge rfl (fun e => ?_) (fun e => ?_)
      · exact fin_v rfl (rfl)
      · exact absurd (Int32.le_refl _) e
    | succ n ih =>
      intro w hw
      refine go_ild_2_1 rfl ?_
      refine go_ald_2_0 rfl ?_
      refine go_getr rfl ⟨_, rfl, rfl, by decide, by decide⟩ ?_
      refine go_c rfl ?_
      refine go_iald (j := 0) rfl ⟨rfl, by decide, by decide, by decide⟩ rfl (by decide) ?_
      rw [show (qb_wl s 204 0 w (fun w => lN (qm_wy lo hi X w nm))).1 194 0 = nI nw from p1]
      refine go_icge rfl (fun e => ?_) (fun e => ?_)
      · exact absurd e (nI_ge (by omega) (by omega))
      · refine go_ald_2_0 rfl ?_
        refine go_getr rfl ⟨_, rfl, rfl, by decide, by decide⟩ ?_
        refine go_ild_2_1 rfl ?_
        refine go_ald_2_0 rfl ?_
        refine go_ild_2_1 rfl ?_
        refine go_ald_2_0 rfl ?_
        refine go_getr rfl ⟨_, rfl, rfl, by decide, by decide⟩ ?_
        refine go_c rfl ?_
        refine go_iald (j := 31) rfl ⟨rfl, by decide, by decide, by decide⟩ rfl (by decide) ?_
        rw [show (qb_wl s 204 0 w (fun w => lN (qm_wy lo hi X w nm))).1 194 31 = nI X from hX]
        refine go_call3 rfl (sp_wayOf d _ c (show qm_pl (qb_wl s 204 0 w (fun w => lN (qm_wy lo hi X w nm))) nw nm lo hi from hp) X w hX3 (by omega)) (Nat.le_of_ble_eq_true rfl) (qb_qv rfl (by decide) (by decide)) ?_
        refine go_last (j := w) rfl (⟨rfl, by decide, by decide, by decide⟩) (rfl) (by omega) ?_
        rw [qb_wl_s (n := w) (g := fun w => lN (qm_wy lo hi X w nm)) (by omega) rfl]
        refine go_inc_2_1 rfl rfl ?_
        refine go_goto rfl ?_
        rw [nI_1]
        exact ih (w + 1) (by omega)
  refine (en_218 (d + 3) 192 _).trans ?_
  refine go_c rfl ?_
  refine go_ist_2_1 rfl rfl ?_
  have := loop nw 0 (by omega)
  rw [qb_wl_0] at this
  exact this
/-- a call that stands in the way of a setting -/
def qk_bad (lo hi : Nat → Nat) (nm X : Nat) (f : Nat → Int32) (b : Bool) (V : Nat) (Sh : Nat → Nat) (Y w : Nat) : Bool := qs_on f w && (qm_ch lo hi nm X Y w && (!b || (decide (V ≤ Sh w) || decide (qm_wr lo hi Y w nm ≠ qm_wr lo hi X w nm))))
theorem lg_cmp_0 {x y : Int64} : lg_cmp x y = 0 ↔ x = y := by
  unfold lg_cmp
  constructor
  · intro h
    split at h
    · exact absurd h (by decide)
    · split at h
      · assumption
      · exact absurd h (by decide)
  · intro e
    subst e
    rw [if_neg (fun z => absurd ((fa_lt64 _ _).mp z) (Int.lt_irrefl _)), if_pos rfl]
theorem sp_othersBy (d : Nat) (s : qb_M) (c : Nat × Nat) {nw nm : Nat} {lo hi : Nat → Nat} (hp : qm_pl s nw nm lo hi) {V : Nat} (hV : s.1 194 3 = nI V ∧ V ≤ 9) {H X J : Nat} {Lf Sh : Nat → Nat} (hI : qs_in nw nm lo hi (qm_so s) H X J Lf Sh) (hl : ∀ w, w < nw → s.2.1 204 w = lN (qm_wy lo hi X w nm)) (Y : Nat) (hY : Y < 1024) (h : Int32) (b : Bool) (hb : h = 0 ↔ b = false) : qe (d + 4) 220 [.ref 192, .int (nI Y), .int h] (qb_hp (s), 149, c) = some (some (.int (nI (if qm_any (qk_bad lo hi nm X (qm_so s) b V Sh Y) nw = true then 100000 else qk_ct lo hi nw nm X (qm_so s) Y))), (qb_hp (s), 149, c)) := by
  have hok := hp.ok
  obtain ⟨p1, p2, ⟨p3, p4, p5⟩, p6⟩ := id hp
  obtain ⟨hH, ⟨hX, hX2⟩, ⟨hJ, hJ2⟩, hW⟩ := hI
  have h10 : 2 ^ nm ≤ 2 ^ 10 := Nat.pow_le_pow_right (by decide) p5
  have loop : ∀ (n w : Nat) (l5 l6 : Value), w + n = nw → (∀ k, k < w → ¬ qk_bad lo hi nm X (qm_so s) b V Sh Y k = true) → qa_lm (qe (d + 3)) (qa_cd qc_220) (5, [.ref 192, .int (nI Y), .int h, .int (nI (fa_cnt (fun c => qs_on (qm_so s) c && qm_ch lo hi nm X Y c) w)), .int (nI w), l5, l6], [], (qb_hp (s), 149, c)) = some (some (.int (nI (if qm_any (qk_bad lo hi nm X (qm_so s) b V Sh Y) nw = true then 100000 else qk_ct lo hi nw nm X (qm_so s) Y))), (qb_hp (s), 149, c)) := by
    intro n
    induction n with
    | zero =>
      intro w l5 l6 hw hno
      have hw : w = nw := by omega
      subst hw
      refine go_ild_7_4 rfl ?_
      refine go_ald_7_0 rfl ?_
      refine go_getr rfl ⟨_, rfl, rfl, by decide, by decide⟩ ?_
      refine go_c rfl ?_
      refine go_iald (j := 0) rfl ⟨rfl, by decide, by decide, by decide⟩ rfl (by decide) ?_
      rw [p1]
      refine go_icge rfl (fun e => ?_) (fun e => ?_)
      · refine go_ild_7_3 rfl ?_
        rw [if_neg (fun z => by obtain ⟨k, h1, h2⟩ := qm_any_t.mp z; exact hno k h1 h2)]
        exact fin_i rfl rfl (rfl)
      · exact absurd (Int32.le_refl _) e
    | succ n ih =>
      intro w l5 l6 hw hno
      refine go_ild_7_4 rfl ?_
      refine go_ald_7_0 rfl ?_
      refine go_getr rfl ⟨_, rfl, rfl, by decide, by decide⟩ ?_
      refine go_c rfl ?_
      refine go_iald (j := 0) rfl ⟨rfl, by decide, by decide, by decide⟩ rfl (by decide) ?_
      rw [p1]
      refine go_icge rfl (fun e => ?_) (fun e => ?_)
      · exact absurd e (nI_ge (by omega) (by omega))
      · refine go_ald_7_0 rfl ?_
        refine go_ild_7_4 rfl ?_
        refine go_call2 rfl (sp_isOn' (d + 2) s c w (by omega)) (Nat.le_of_ble_eq_true rfl) (qb_qv rfl (by decide) (by decide)) ?_
        refine go_ifne rfl (fun e1 => ?_) (fun e1 => ?_)
        · have e1 := qB_0.mp e1
          have ih := ih (w + 1) l5 l6 (by omega) (fun k hk => by
            by_cases z : k = w
            · subst z; unfold qk_bad; rw [eq_false_of_ne_true e1, Bool.false_and]; decide
            · exact hno k (by omega))
          rw [fa_cnt_no (p := fun c => qs_on (qm_so s) c && qm_ch lo hi nm X Y c) (by rw [eq_false_of_ne_true e1]; rfl)] at ih
          refine go_goto rfl ?_
          refine go_inc_7_4 rfl rfl ?_
          refine go_goto rfl ?_
          rw [nI_1]
          exact ih
        · have e1 : qs_on (qm_so s) w = true := Classical.byContradiction fun z => e1 (qB_f z)
          obtain ⟨g1, g2, g3, g4⟩ := hW w (by omega) e1
          have hlt := qm_wr_lt hok X (i := w) (by omega) nm (Nat.le_refl _)
          have hlt2 := qm_wr_lt hok Y (i := w) (by omega) nm (Nat.le_refl _)
          -- a call in the way
          have fin : qk_bad lo hi nm X (qm_so s) b V Sh Y w = true → ∀ l5 l6 : Value, qa_lm (qe (d + 3)) (qa_cd qc_220) (100, [.ref 192, .int (nI Y), .int h, .int (nI (fa_cnt (fun c => qs_on (qm_so s) c && qm_ch lo hi nm X Y c) w)), .int (nI w), l5, l6], [], (qb_hp (s), 149, c)) = some (some (.int (nI (if qm_any (qk_bad lo hi nm X (qm_so s) b V Sh Y) nw = true then 100000 else qk_ct lo hi nw nm X (qm_so s) Y))), (qb_hp (s), 149, c)) := fun hbad l5 l6 => by
            rw [if_pos (qm_any_t.mpr ⟨w, by omega, hbad⟩)]
            refine go_c rfl ?_
            exact fin_i rfl rfl (rfl)
          refine go_ald_7_0 rfl ?_
          refine go_ild_7_4 rfl ?_
          refine go_ild_7_1 rfl ?_
          refine go_call3 rfl (sp_wayOf d s c hp Y w hY (by omega)) (Nat.le_of_ble_eq_true rfl) (qb_qv rfl (by decide) (by decide)) ?_
          refine go_lst_7_5 rfl rfl ?_
          refine go_lld_7_5 rfl ?_
          refine go_ald_7_0 rfl ?_
          refine go_getr rfl ⟨_, rfl, rfl, by decide, by decide⟩ ?_
          refine go_ild_7_4 rfl ?_
          refine go_lald (j := w) rfl (⟨rfl, by decide, by decide, by decide⟩) (rfl) (by omega) ?_
          rw [hl w (by omega)]
          refine go_lcmp rfl ?_
          refine go_ifne rfl (fun e2 => ?_) (fun e2 => ?_)
          · have e2 := (pk_lEQ (by have := qm_wy_62 hok Y (i := w) (by omega); omega) (by have := qm_wy_62 hok X (i := w) (by omega); omega)).mp (lg_cmp_0.mp e2)
            have hch : ¬ qm_ch lo hi nm X Y w = true := fun z => (qm_ch_iff hok X Y (by omega)).mp z e2
            have ih := ih (w + 1) (.long (lN (qm_wy lo hi Y w nm))) (.retAddr 0) (by omega) (fun k hk => by
              by_cases z : k = w
              · subst z; unfold qk_bad; rw [eq_false_of_ne_true hch, Bool.false_and, Bool.and_false]; decide
              · exact hno k (by omega))
            rw [fa_cnt_no (p := fun c => qs_on (qm_so s) c && qm_ch lo hi nm X Y c) (by rw [eq_false_of_ne_true hch, Bool.and_false])] at ih
            refine go_goto rfl ?_
            refine go_inc_7_4 rfl rfl ?_
            refine go_goto rfl ?_
            rw [nI_1]
            exact ih
          · have hch : qm_ch lo hi nm X Y w = true := (qm_ch_iff hok X Y (by omega)).mpr (fun z => e2 (by rw [z]; exact lg_cmp_0.mpr rfl))
            refine go_ild_7_2 rfl ?_
            refine go_ifeq rfl (fun e3 => ?_) (fun e3 => ?_)
            · exact fin (by unfold qk_bad; rw [e1, hch, hb.mp e3]; rfl) _ _
            · have hbt : b = true := by cases hbb : b; exact absurd (hb.mpr hbb) e3; rfl
              refine go_ald_7_0 rfl ?_
              refine go_getr rfl ⟨_, rfl, rfl, by decide, by decide⟩ ?_
              refine go_c rfl ?_
              refine go_ild_7_4 rfl ?_
              refine go_iadd rfl ?_
              refine go_iald (j := 52 + w) rfl (⟨rfl, by decide, by decide, by decide⟩) (nI_add 52 w) (by omega) ?_
              refine go_ald_7_0 rfl ?_
              refine go_getr rfl ⟨_, rfl, rfl, by decide, by decide⟩ ?_
              refine go_c rfl ?_
              refine go_iald (j := 3) rfl ⟨rfl, by decide, by decide, by decide⟩ rfl (by decide) ?_
              rw [hV.1, show s.1 194 (52 + w) = nI (Sh w) from by rw [← g4.1]; unfold qm_so; rw [show 30 + (22 + w) = 52 + w by omega]]
              refine go_icge rfl (fun e4 => ?_) (fun e4 => ?_)
              · exact fin (by unfold qk_bad; rw [e1, hch, decide_eq_true ((nI_leI (by omega) (by omega)).mp e4)]; cases b <;> rfl) _ _
              · refine go_lld_7_5 rfl ?_
                refine go_ald_7_0 rfl ?_
                refine go_getr rfl ⟨_, rfl, rfl, by decide, by decide⟩ ?_
                refine go_c rfl ?_
                refine go_iald (j := 1) rfl ⟨rfl, by decide, by decide, by decide⟩ rfl (by decide) ?_
                rw [p2]
                refine go_call2 rfl (sp_wireAt (d + 2) _ nm (qm_wy_62 hok Y (by omega)) (by omega) _) (Nat.le_of_ble_eq_true rfl) rfl ?_
                refine go_ald_7_0 rfl ?_
                refine go_getr rfl ⟨_, rfl, rfl, by decide, by decide⟩ ?_
                refine go_c rfl ?_
                refine go_ild_7_4 rfl ?_
                refine go_iadd rfl ?_
                refine go_iald (j := 36 + w) rfl (⟨rfl, by decide, by decide, by decide⟩) (nI_add 36 w) (by omega) ?_
                rw [qm_wy_at hok Y (by omega) nm (Nat.le_refl _) nm (Nat.le_refl _), show s.1 194 (36 + w) = nI (qm_wr lo hi X w nm) from by rw [← g2]; unfold qm_so; rw [show 30 + (6 + w) = 36 + w by omega]]
                refine go_iceq rfl (fun e5 => ?_) (fun e5 => ?_)
                · have e5 := (nI_eq (by omega) (by omega)).mp e5
                  have ih := ih (w + 1) (.long (lN (qm_wy lo hi Y w nm))) (.retAddr 0) (by omega) (fun k hk => by
                    by_cases z : k = w
                    · subst z
                      unfold qk_bad
                      rw [hbt, decide_eq_false (fun z : V ≤ Sh k => e4 (nI_le z (by omega))), decide_eq_false (fun z => z e5)]
                      simp
                    · exact hno k (by omega))
                  rw [fa_cnt_yes (p := fun c => qs_on (qm_so s) c && qm_ch lo hi nm X Y c) (by rw [e1, hch]; rfl)] at ih
                  refine go_inc_7_3 rfl rfl ?_
                  refine go_inc_7_4 rfl rfl ?_
                  refine go_goto rfl ?_
                  rw [nI_1, nI_1]
                  exact ih
                · exact fin (by unfold qk_bad; rw [e1, hch, decide_eq_true (show qm_wr lo hi Y w nm ≠ qm_wr lo hi X w nm from fun z => e5 (by rw [z]))]; simp) _ _
  refine (en_220 (d + 3) 192 (nI Y) h _).trans ?_
  refine go_c rfl ?_
  refine go_ist_7_3 rfl rfl ?_
  refine go_c rfl ?_
  refine go_ist_7_4 rfl rfl ?_
  exact loop nw 0 _ _ (by omega) (fun k hk => by omega)
def qk_okM (lo hi : Nat → Nat) (nw nm X J : Nat) (f : Nat → Int32) (b : Bool) (V : Nat) (Sh : Nat → Nat) (i o Y : Nat) : Bool := qm_S X J Y && (decide (qm_wr lo hi Y i nm = o) && !qm_any (qk_bad lo hi nm X f b V Sh Y) nw)
def qk_m (lo hi : Nat → Nat) (nw nm X J : Nat) (f : Nat → Int32) (b : Bool) (V : Nat) (Sh : Nat → Nat) (i o : Nat) (n : Nat) : Nat × Int32 := qm_fo (fun _ => true) (qk_g (qk_okM lo hi nw nm X J f b V Sh i o) (qk_ct lo hi nw nm X f)) (100000, -1) n
theorem qk_m_s {lo hi : Nat → Nat} {nw nm X J : Nat} {f : Nat → Int32} {b : Bool} {V : Nat} {Sh : Nat → Nat} {i o n : Nat} : qk_m lo hi nw nm X J f b V Sh i o (n + 1) = qk_g (qk_okM lo hi nw nm X J f b V Sh i o) (qk_ct lo hi nw nm X f) n (qk_m lo hi nw nm X J f b V Sh i o n) := by
  unfold qk_m
  exact if_pos rfl
theorem qk_m_z {lo hi : Nat → Nat} {nw nm X J : Nat} {f : Nat → Int32} {b : Bool} {V : Nat} {Sh : Nat → Nat} {i o x T : Nat} (hx : x ≤ T) (h : (qk_m lo hi nw nm X J f b V Sh i o x).1 = 0) : qk_m lo hi nw nm X J f b V Sh i o T = qk_m lo hi nw nm X J f b V Sh i o x := by
  obtain ⟨n, e⟩ := Nat.exists_eq_add_of_le hx
  subst e
  unfold qk_m at h ⊢
  exact qk_fo_0 h n
theorem qk_m_le {lo hi : Nat → Nat} {nw nm X J : Nat} {f : Nat → Int32} {b : Bool} {V : Nat} {Sh : Nat → Nat} {i o : Nat} : ∀ n, (qk_m lo hi nw nm X J f b V Sh i o n).1 ≤ 100000
  | 0 => Nat.le_refl _
  | n + 1 => by
    rw [qk_m_s]
    exact Nat.le_trans qk_g_1 (qk_m_le n)
theorem qm_pl.mv {P : Nat → Prop} {s t : qb_M} {nw nm : Nat} {lo hi : Nat → Nat} (h : qm_pl s nw nm lo hi) (hf : qF P s t) (h0 : ¬ P 194) : qm_pl t nw nm lo hi := by
  unfold qm_pl
  rw [(hf 194 h0).1]
  exact h
theorem sp_settingFor (d : Nat) (s : qb_M) (c : Nat × Nat) {nw nm : Nat} {lo hi : Nat → Nat} (hp : qm_pl s nw nm lo hi) {V : Nat} (hV : s.1 194 3 = nI V ∧ V ≤ 9) {H X J : Nat} {Lf Sh : Nat → Nat} (hI : qs_in nw nm lo hi (qm_so s) H X J Lf Sh) (i o : Nat) (hi0 : i < nw) (ho : o < nw) (h : Int32) (b : Bool) (hb : h = 0 ↔ b = false) : qe (d + 5) 217 [.ref 192, .int (nI i), .int (nI o), .int h] (qb_hp (s), 149, c) = some (some (.int ((qk_m lo hi nw nm X J (qm_so s) b V Sh i o (2 ^ nm)).2)), (qb_hp (qb_ui (qb_wl s 204 0 nw (fun w => lN (qm_wy lo hi X w nm))) 192 26 (nI (qk_m lo hi nw nm X J (qm_so s) b V Sh i o (2 ^ nm)).1)), 149, c)) := by
  have hok := hp.ok
  obtain ⟨p1, p2, ⟨p3, p4, p5⟩, p6⟩ := id hp
  obtain ⟨hH, ⟨hX, hX2⟩, ⟨hJ, hJ2⟩, hW⟩ := id hI
  have h10 : 2 ^ nm ≤ 2 ^ 10 := Nat.pow_le_pow_right (by decide) p5
  have hX31 : s.1 194 31 = nI X := hX
  have hJ32 : s.1 194 32 = nI J := hJ
  obtain ⟨q, hq⟩ : ∃ q, qk_m lo hi nw nm X J (qm_so s) b V Sh i o = q := ⟨_, rfl⟩
  have hqs : ∀ n, q (n + 1) = qk_g (qk_okM lo hi nw nm X J (qm_so s) b V Sh i o) (qk_ct lo hi nw nm X (qm_so s)) n (q n) := fun n => by rw [← hq]; exact qk_m_s
  have hqz : ∀ n, n ≤ 2 ^ nm → (q n).1 = 0 → q (2 ^ nm) = q n := fun n h1 h2 => by
    rw [← hq] at h2 ⊢
    exact qk_m_z h1 h2
  have hqle : ∀ n, (q n).1 ≤ 100000 := fun n => by rw [← hq]; exact qk_m_le n
  have hq0 : q 0 = (100000, -1) := by rw [← hq]; rfl
  rw [hq]
  obtain ⟨u, hu⟩ : ∃ u, qb_wl s 204 0 nw (fun w => lN (qm_wy lo hi X w nm)) = u := ⟨_, rfl⟩
  have hu1 : u.1 = s.1 := by rw [← hu]; rfl
  have hul : ∀ w, w < nw → u.2.1 204 w = lN (qm_wy lo hi X w nm) := fun w hw => by
    rw [← hu]
    have := qb_wl_in (s := s) (a := 204) (i := 0) (n := nw) (k := w) (g := fun w => lN (qm_wy lo hi X w nm)) hw
    rw [Nat.zero_add] at this
    exact this
  have hm : ∀ v, (qb_ui u 192 26 v).1 194 = s.1 194 := fun v => by
    rw [← hu1]
    exact funext fun k => qb_ui_1n (Or.inl (by decide))
  have hpm : ∀ v, qm_pl (qb_ui u 192 26 v) nw nm lo hi := fun v => by unfold qm_pl; rw [hm]; exact hp
  have hso : ∀ v, qm_so (qb_ui u 192 26 v) = qm_so s := fun v => funext fun k => by unfold qm_so; rw [hm]
  have loop : ∀ (n Y : Nat) (l6 : Value), Y + n = 2 ^ nm → qa_lm (qe (d + 4)) (qa_cd qc_217) (17, [.ref 192, .int (nI i), .int (nI o), .int h, .int (q Y).2, .int (nI Y), l6], [], (qb_hp (qb_ui u 192 26 (nI (q Y).1)), 149, c)) = some (some (.int ((q (2 ^ nm)).2)), (qb_hp (qb_ui u 192 26 (nI (q (2 ^ nm)).1)), 149, c)) := by
    intro n
    induction n with
    | zero =>
      intro Y l6 hY
      have hY : Y = 2 ^ nm := by omega
      refine go_ild_7_5 rfl ?_
      refine go_c rfl ?_
      refine go_ald_7_0 rfl ?_
      refine go_getr rfl ⟨_, rfl, rfl, by decide, by decide⟩ ?_
      refine go_c rfl ?_
      refine go_iald (j := 1) rfl ⟨rfl, by decide, by decide, by decide⟩ rfl (by decide) ?_
      rw [hm, p2]
      refine go_ishl rfl ?_
      rw [qx_1shl nm (by omega), ← hY]
      refine go_icge rfl (fun e => ?_) (fun e => ?_)
      · refine go_ild_7_4 rfl ?_
        exact fin_i rfl rfl (rfl)
      · exact absurd (Int32.le_refl _) e
    | succ n ih =>
      intro Y l6 hY
      have hYl : Y < 1024 := by omega
      have h9 := hqle Y
      have h9' := hqle (2 ^ nm)
      have hs := hqs Y
      unfold qk_g at hs
      have ih := ih (Y + 1)
      refine go_ild_7_5 rfl ?_
      refine go_c rfl ?_
      refine go_ald_7_0 rfl ?_
      refine go_getr rfl ⟨_, rfl, rfl, by decide, by decide⟩ ?_
      refine go_c rfl ?_
      refine go_iald (j := 1) rfl ⟨rfl, by decide, by decide, by decide⟩ rfl (by decide) ?_
      rw [hm, p2]
      refine go_ishl rfl ?_
      rw [qx_1shl nm (by omega)]
      refine go_icge rfl (fun e => ?_) (fun e => ?_)
      · exact absurd e (nI_ge (by omega) (by omega))
      · refine go_ald_7_0 rfl ?_
        refine go_geti rfl ⟨_, rfl, rfl, by decide, by decide⟩ ?_
        rw [qb_ui_1s]
        refine go_ifle rfl (fun e0 => ?_) (fun e0 => ?_)
        · have e0 : (q Y).1 = 0 := by
            have := (nI_leI (b := 0) (by omega) (by decide)).mp e0
            omega
          rw [hqz Y (by omega) e0]
          refine go_ild_7_4 rfl ?_
          exact fin_i rfl rfl (rfl)
        · have skip : ¬ (qk_okM lo hi nw nm X J (qm_so s) b V Sh i o Y = true ∧ qk_ct lo hi nw nm X (qm_so s) Y < (q Y).1) → ∀ l6 : Value, qa_lm (qe (d + 4)) (qa_cd qc_217) (98, [.ref 192, .int (nI i), .int (nI o), .int h, .int (q Y).2, .int (nI Y), l6], [], (qb_hp (qb_ui u 192 26 (nI (q Y).1)), 149, c)) = some (some (.int ((q (2 ^ nm)).2)), (qb_hp (qb_ui u 192 26 (nI (q (2 ^ nm)).1)), 149, c)) := fun hn l6 => by
            rw [if_neg hn] at hs
            have ih := ih l6 (by omega)
            rw [hs] at ih
            refine go_inc_7_5 rfl rfl ?_
            refine go_goto rfl ?_
            rw [nI_1]
            exact ih
          refine go_ald_7_0 rfl ?_
          refine go_ild_7_5 rfl ?_
          refine go_ald_7_0 rfl ?_
          refine go_getr rfl ⟨_, rfl, rfl, by decide, by decide⟩ ?_
          refine go_c rfl ?_
          refine go_iald (j := 32) rfl ⟨rfl, by decide, by decide, by decide⟩ rfl (by decide) ?_
          rw [hm, hJ32]
          refine go_call3 rfl (sp_isFixed (d + 3) _ c (X := X) (Y := Y) (J := J) (by rw [hm]; exact hX31) (by omega) (by omega)) (Nat.le_of_ble_eq_true rfl) (qb_qv rfl (by decide) (by decide)) ?_
          refine go_ifeq rfl (fun e1 => ?_) (fun e1 => ?_)
          · have e1 := qB_0.mp e1
            exact skip (fun z => e1 (by have := z.1; unfold qk_okM at this; rw [Bool.and_eq_true] at this; exact this.1)) _
          · have e1 : qm_S X J Y = true := Classical.byContradiction fun z => e1 (qB_f z)
            have hlt := qm_wr_lt hok Y hi0 nm (Nat.le_refl _)
            refine go_ald_7_0 rfl ?_
            refine go_ild_7_1 rfl ?_
            refine go_ild_7_5 rfl ?_
            refine go_call3 rfl (sp_outOf d _ c (hpm _) Y i hYl hi0) (Nat.le_of_ble_eq_true rfl) (qb_qv rfl (by decide) (by decide)) ?_
            refine go_ild_7_2 rfl ?_
            refine go_iceq rfl (fun e2 => ?_) (fun e2 => ?_)
            · have e2 := (nI_eq (by omega) (by omega)).mp e2
              have hct := qk_ct_le (lo := lo) (hi := hi) (nw := nw) (nm := nm) (X := X) (f := qm_so s) (Y := Y)
              have hob := sp_othersBy d (qb_ui u 192 26 (nI (q Y).1)) c (hpm _) (V := V) (H := H) (X := X) (J := J) (Lf := Lf) (Sh := Sh) (by rw [hm]; exact hV) (by rw [hso]; exact hI) (fun w hw => hul w hw) Y hYl h b hb
              rw [hso] at hob
              by_cases hbd : qm_any (qk_bad lo hi nm X (qm_so s) b V Sh Y) nw = true
              · rw [if_pos hbd] at hob
                refine go_ald_7_0 rfl ?_
                refine go_ild_7_5 rfl ?_
                refine go_ild_7_3 rfl ?_
                refine go_call3 rfl (hob) (Nat.le_of_ble_eq_true rfl) (qb_qv rfl (by decide) (by decide)) ?_
                refine go_ist_7_6 rfl rfl ?_
                refine go_ild_7_6 rfl ?_
                refine go_ald_7_0 rfl ?_
                refine go_geti rfl ⟨_, rfl, rfl, by decide, by decide⟩ ?_
                rw [qb_ui_1s]
                refine go_iclt rfl (fun e3 => ?_) (fun e3 => ?_)
                · exact absurd ((nI_ltI (by decide) (by omega)).mp e3) (by omega)
                · refine go_goto rfl ?_
                  exact skip (fun z => by have := z.1; unfold qk_okM at this; rw [hbd] at this; simp at this) _
              · rw [if_neg hbd] at hob
                refine go_ald_7_0 rfl ?_
                refine go_ild_7_5 rfl ?_
                refine go_ild_7_3 rfl ?_
                refine go_call3 rfl (hob) (Nat.le_of_ble_eq_true rfl) (qb_qv rfl (by decide) (by decide)) ?_
                refine go_ist_7_6 rfl rfl ?_
                refine go_ild_7_6 rfl ?_
                refine go_ald_7_0 rfl ?_
                refine go_geti rfl ⟨_, rfl, rfl, by decide, by decide⟩ ?_
                rw [qb_ui_1s]
                refine go_iclt rfl (fun e3 => ?_) (fun e3 => ?_)
                · have e3 := (nI_ltI (by omega) (by omega)).mp e3
                  rw [if_pos ⟨by unfold qk_okM; rw [e1, decide_eq_true e2, eq_false_of_ne_true hbd]; rfl, e3⟩] at hs
                  have ih := ih (.int (nI (qk_ct lo hi nw nm X (qm_so s) Y))) (by omega)
                  rw [hs] at ih
                  refine go_ald_7_0 rfl ?_
                  refine go_ild_7_6 rfl ?_
                  refine go_puti rfl ⟨_, rfl, rfl, by decide, by decide⟩ rfl rfl ?_
                  rw [qb_ui_tw]
                  refine go_ild_7_5 rfl ?_
                  refine go_ist_7_4 rfl rfl ?_
                  refine go_inc_7_5 rfl rfl ?_
                  refine go_goto rfl ?_
                  rw [nI_1]
                  exact ih
                · refine go_goto rfl ?_
                  exact skip (fun z => e3 (nI_lt z.2 (by omega))) _
            · refine go_goto rfl ?_
              exact skip (fun z => e2 (by have := z.1; unfold qk_okM at this; rw [Bool.and_eq_true, Bool.and_eq_true, decide_eq_true_eq] at this; rw [this.2.1])) _
  refine (en_217 (d + 4) 192 (nI i) (nI o) h _).trans ?_
  refine go_ald_7_0 rfl ?_
  refine go_call1 rfl (sp_layWays d s c hp hX31 (by omega)) (Nat.le_of_ble_eq_true rfl) (qb_qv rfl (by decide) (by decide)) ?_
  rw [hu]
  refine go_c rfl ?_
  refine go_ist_7_4 rfl rfl ?_
  refine go_ald_7_0 rfl ?_
  refine go_c rfl ?_
  refine go_puti rfl ⟨_, rfl, rfl, by decide, by decide⟩ rfl rfl ?_
  refine go_c rfl ?_
  refine go_ist_7_5 rfl rfl ?_
  have := loop (2 ^ nm) 0 (.retAddr 0) (by omega)
  rw [hq0] at this
  exact this
/-! both searches find the same -/
theorem qk_okM_iff {nw nm : Nat} {lo hi : Nat → Nat} (hok : qm_ok nw nm lo hi) {X J : Nat} {f : Nat → Int32} {b : Bool} {V : Nat} {Sh : Nat → Nat} {i o : Nat} (Y : Nat) : qk_okM lo hi nw nm X J f b V Sh i o Y = true ↔ qm_S X (qk_Fx lo hi nw nm X J f b V Sh) Y = true ∧ qk_ok lo hi nw nm X f i o Y = true := by
  unfold qk_okM qk_ok
  rw [Bool.and_eq_true, Bool.and_eq_true, Bool.and_eq_true, decide_eq_true_eq, Bool.not_eq_true', Bool.not_eq_true', ← Bool.not_eq_true, ← Bool.not_eq_true, qm_any_t, qm_any_t]
  have hS : qm_S X (qk_Fx lo hi nw nm X J f b V Sh) Y = true ↔ qm_S X J Y = true ∧ ∀ w, w < nw → qk_fx f b V Sh w = true → ¬ qm_ch lo hi nm X Y w = true := by
    unfold qm_S qm_ch
    rw [decide_eq_true_eq, decide_eq_true_eq]
    constructor
    · intro h
      rw [qm_and0] at h
      refine ⟨qm_and0.mpr (fun j h1 h2 => h j h1 ((qk_F_bit nw).mpr (Or.inl h2))), fun w hw hx hc => ?_⟩
      rw [decide_eq_true_eq] at hc
      exact hc (qm_and0.mpr (fun j h1 h2 => h j h2 ((qk_F_bit nw).mpr (Or.inr ⟨w, hw, hx, h1⟩))))
    · rintro ⟨h1, h2⟩
      refine qm_and0.mpr (fun j h3 h4 => ?_)
      rcases (qk_F_bit nw).mp h4 with h5 | ⟨w, hw, hx, h5⟩
      · exact qm_and0.mp h1 j h3 h5
      · refine h2 w hw hx (decide_eq_true (fun z => ?_))
        exact qm_and0.mp z j h5 h3
  rw [hS]
  constructor
  · rintro ⟨h1, h2, h3⟩
    refine ⟨⟨h1, fun w hw hx hc => h3 ⟨w, hw, ?_⟩⟩, h2, fun ⟨w, hw, hx⟩ => ?_⟩
    · unfold qk_fx at hx
      unfold qk_bad
      rw [Bool.and_eq_true] at hx
      rw [hx.1, hc]
      revert hx
      cases b <;> cases decide (V ≤ Sh w) <;> simp
    · rw [Bool.and_eq_true, decide_eq_true_eq] at hx
      by_cases hc : qm_ch lo hi nm X Y w = true
      · refine h3 ⟨w, hw, ?_⟩
        unfold qk_bad
        rw [hx.1, hc, decide_eq_true (show qm_wr lo hi Y w nm ≠ qm_wr lo hi X w nm from hx.2)]
        simp
      · exact hx.2 (qm_ch_end hok X Y hw hc)
  · rintro ⟨⟨h1, h2⟩, h3, h4⟩
    refine ⟨h1, h3, fun ⟨w, hw, hx⟩ => ?_⟩
    unfold qk_bad at hx
    rw [Bool.and_eq_true, Bool.and_eq_true, Bool.or_eq_true, Bool.or_eq_true, decide_eq_true_eq, decide_eq_true_eq] at hx
    obtain ⟨g1, g2, g3⟩ := hx
    have hfx : ¬ qk_fx f b V Sh w = true := fun z => h2 w hw z g2
    unfold qk_fx at hfx
    rw [g1, Bool.true_and, Bool.or_eq_true, decide_eq_true_eq] at hfx
    rcases g3 with g3 | g3 | g3
    · exact hfx (Or.inl g3)
    · exact hfx (Or.inr g3)
    · exact h4 ⟨w, hw, by rw [Bool.and_eq_true, decide_eq_true_eq]; exact ⟨g1, g3⟩⟩
theorem qk_same {S okM okC : Nat → Bool} {ct : Nat → Nat} {f0 : Int32} (h : ∀ Y, okM Y = true ↔ S Y = true ∧ okC Y = true) (hc : ∀ Y, ct Y ≤ 8) : ∀ n, (qm_fo (fun _ => true) (qk_g okM ct) (100000, -1) n = (100000, -1) ∧ qm_fo S (qk_g okC ct) (9, f0) n = (9, f0)) ∨ (qm_fo (fun _ => true) (qk_g okM ct) (100000, -1) n = qm_fo S (qk_g okC ct) (9, f0) n ∧ ∃ Z, Z < n ∧ okM Z = true ∧ qm_fo S (qk_g okC ct) (9, f0) n = (ct Z, nI Z))
  | 0 => Or.inl ⟨rfl, rfl⟩
  | n + 1 => by
    have ih := qk_same (f0 := f0) h hc n
    have e1 : qm_fo (fun _ => true) (qk_g okM ct) (100000, -1) (n + 1) = qk_g okM ct n (qm_fo (fun _ => true) (qk_g okM ct) (100000, -1) n) := by
      show (if true = true then _ else _) = _
      rw [if_pos rfl]
    have e2 : qm_fo S (qk_g okC ct) (9, f0) (n + 1) = if S n = true then qk_g okC ct n (qm_fo S (qk_g okC ct) (9, f0) n) else qm_fo S (qk_g okC ct) (9, f0) n := rfl
    rw [e1, e2]
    have hcn := hc n
    have hn := h n
    by_cases hm : okM n = true
    · obtain ⟨h1, h2⟩ := hn.mp hm
      rw [if_pos h1]
      rcases ih with ⟨g1, g2⟩ | ⟨g1, Z, g2, g3, g4⟩
      · rw [g1, g2]
        unfold qk_g
        rw [if_pos ⟨hm, by show ct n < 100000; omega⟩, if_pos ⟨h2, by show ct n < 9; omega⟩]
        exact Or.inr ⟨rfl, n, by omega, hm, rfl⟩
      · rw [g1, g4]
        unfold qk_g
        by_cases hl : ct n < ct Z
        · rw [if_pos ⟨hm, hl⟩, if_pos ⟨h2, hl⟩]
          exact Or.inr ⟨rfl, n, by omega, hm, rfl⟩
        · rw [if_neg (fun q => hl q.2), if_neg (fun q => hl q.2)]
          exact Or.inr ⟨rfl, Z, by omega, g3, rfl⟩
    · have e3 : (if S n = true then qk_g okC ct n (qm_fo S (qk_g okC ct) (9, f0) n) else qm_fo S (qk_g okC ct) (9, f0) n) = qm_fo S (qk_g okC ct) (9, f0) n := by
        split
        · unfold qk_g
          rw [if_neg (fun q => hm (hn.mpr ⟨by assumption, q.1⟩))]
        · rfl
      rw [e3]
      have e4 : qk_g okM ct n (qm_fo (fun _ => true) (qk_g okM ct) (100000, -1) n) = qm_fo (fun _ => true) (qk_g okM ct) (100000, -1) n := by
        unfold qk_g
        rw [if_neg (fun q => hm q.1)]
      rw [e4]
      rcases ih with ih | ⟨g1, Z, g2, g3⟩
      · exact Or.inl ih
      · exact Or.inr ⟨g1, Z, by omega, g3⟩
/-- what both searches come to -/
theorem qk_both {nw nm : Nat} {lo hi : Nat → Nat} (hok : qm_ok nw nm lo hi) {X J : Nat} {f : Nat → Int32} {b : Bool} {V : Nat} {Sh : Nat → Nat} {i o : Nat} {f0 : Int32} : (qk_m lo hi nw nm X J f b V Sh i o (2 ^ nm) = (100000, -1) ∧ qk_p lo hi nw nm X J f b V Sh i o f0 (2 ^ nm) = (9, f0)) ∨ ∃ Z, Z < 2 ^ nm ∧ qk_okM lo hi nw nm X J f b V Sh i o Z = true ∧ qk_m lo hi nw nm X J f b V Sh i o (2 ^ nm) = (qk_ct lo hi nw nm X f Z, nI Z) ∧ qk_p lo hi nw nm X J f b V Sh i o f0 (2 ^ nm) = (qk_ct lo hi nw nm X f Z, nI Z) := by
  have h8 := hok.1
  have := qk_same (S := qm_S X (qk_Fx lo hi nw nm X J f b V Sh)) (okM := qk_okM lo hi nw nm X J f b V Sh i o) (okC := qk_ok lo hi nw nm X f i o) (ct := qk_ct lo hi nw nm X f) (f0 := f0) (qk_okM_iff hok) (fun Y => Nat.le_trans qk_ct_le h8.2.1) (2 ^ nm)
  unfold qk_m qk_p
  rcases this with h | ⟨h1, Z, h2, h3, h4⟩
  · exact Or.inl h
  · exact Or.inr ⟨Z, h2, h3, h1.trans h4, h4⟩

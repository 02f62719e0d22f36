/-! CALLS of both, one after the other: alike answers, alike thereafter -/
def qT (d k k' : Nat) (As : List Value) : Prop := ∀ (s : qb_M) (c : Nat × Nat), qZ s → ∃ v t u, qe d k (.ref 64 :: As) (qb_hp s, 149, c) = some (some (.int v), (qb_hp t, 149, c)) ∧ qe d k' (.ref 192 :: As) (qb_hp t, 149, c) = some (some (.int v), (qb_hp u, 149, c)) ∧ qZ u
theorem qk_bad_on {lo hi : Nat → Nat} {nm X : Nat} {f g : Nat → Int32} {b : Bool} {V : Nat} {Sh : Nat → Nat} {Y w : Nat} (h : qs_on f w = qs_on g w) : qk_bad lo hi nm X f b V Sh Y w = qk_bad lo hi nm X g b V Sh Y w := by
  unfold qk_bad
  rw [h]
theorem qm_any_cong {p q : Nat → Bool} : ∀ {n : Nat}, (∀ k, k < n → p k = q k) → qm_any p n = qm_any q n
  | 0, _ => rfl
  | n + 1, h => by
    unfold qm_any
    rw [qm_any_cong (fun k hk => h k (by omega)), h n (by omega)]
theorem qk_m_cong {lo hi : Nat → Nat} {nw nm X J : Nat} {f g : Nat → Int32} {b : Bool} {V : Nat} {Sh : Nat → Nat} {i o n : Nat} (h : ∀ w, w < nw → qs_on f w = qs_on g w) : qk_m lo hi nw nm X J f b V Sh i o n = qk_m lo hi nw nm X J g b V Sh i o n := by
  have e1 : qk_okM lo hi nw nm X J f b V Sh i o = qk_okM lo hi nw nm X J g b V Sh i o := funext fun Y => by
    unfold qk_okM
    rw [qm_any_cong (fun k hk => qk_bad_on (h k hk))]
  have e2 : qk_ct lo hi nw nm X f = qk_ct lo hi nw nm X g := funext fun Y => fa_cnt_cong (fun k hk => by rw [h k hk])
  unfold qk_m
  rw [e1, e2]
theorem qk_okM_cong {lo hi : Nat → Nat} {nw nm X J : Nat} {f g : Nat → Int32} {b : Bool} {V : Nat} {Sh : Nat → Nat} {i o Y : Nat} (h : ∀ w, w < nw → qs_on f w = qs_on g w) : qk_okM lo hi nw nm X J f b V Sh i o Y = qk_okM lo hi nw nm X J g b V Sh i o Y := by
  unfold qk_okM
  rw [qm_any_cong (fun k hk => qk_bad_on (h k hk))]
/-- the verbs of the component -/
theorem sp_perf0 (d : Nat) (s : qb_M) (c : Nat × Nat) (x y n h : Int32) {b : Bool} (hb : h = 1 ↔ b = true) {R : Option (Option Value × qa_H)} {v : Int32} {H : qa_H} (hR : R = some (some (.int v), H)) (h1 : qe (d + 4) 60 [.ref 125, .ref 145, .int x, .int y, .int n, .int (qB (b = true))] (qb_hp (s), 149, c) = R) : qe (d + 5) 59 [.ref 125, .ref 145, .int 0, .int x, .int y, .int n, .int h] (qb_hp (s), 149, c) = R := by
  subst hR
  refine (en_59 (d + 4) 125 145 0 x y n h _).trans ?_
  refine go_ild_7_2 rfl ?_
  refine go_sw2 (n := 36) rfl (by decide +kernel) ?_
  refine go_ald_7_0 rfl ?_
  refine go_ald_7_1 rfl ?_
  refine go_ild_7_3 rfl ?_
  refine go_ild_7_4 rfl ?_
  refine go_ild_7_5 rfl ?_
  refine go_ild_7_6 rfl ?_
  refine go_c rfl ?_
  refine go_icne rfl (fun e => ?_) (fun e => ?_)
  · rw [qB_t (hb.mp e)] at h1
    refine go_c rfl ?_
    refine go_goto rfl ?_
    refine go_call6 rfl (h1) (Nat.le_of_ble_eq_true rfl) (qb_qv rfl (by decide) (by decide)) ?_
    exact fin_i rfl rfl rfl
  · rw [qB_f (fun z => e (hb.mpr z))] at h1
    refine go_c rfl ?_
    refine go_call6 rfl (h1) (Nat.le_of_ble_eq_true rfl) (qb_qv rfl (by decide) (by decide)) ?_
    exact fin_i rfl rfl rfl
theorem sp_perf1 (d : Nat) (s : qb_M) (c : Nat × Nat) (x y n h : Int32) {v : Int32} {H : qa_H} (h1 : qe (d + 4) 72 [.ref 125, .ref 145, .int x] (qb_hp (s), 149, c) = some (some (.int v), H)) : qe (d + 5) 59 [.ref 125, .ref 145, .int 1, .int x, .int y, .int n, .int h] (qb_hp (s), 149, c) = some (some (.int v), H) := by
  refine (en_59 (d + 4) 125 145 1 x y n h _).trans ?_
  refine go_ild_7_2 rfl ?_
  refine go_sw2 (n := 58) rfl (by decide +kernel) ?_
  refine go_ald_7_0 rfl ?_
  refine go_ald_7_1 rfl ?_
  refine go_ild_7_3 rfl ?_
  refine go_call3 rfl (h1) (Nat.le_of_ble_eq_true rfl) (qb_qv rfl (by decide) (by decide)) ?_
  exact fin_i rfl rfl rfl
theorem sp_perf2 (d : Nat) (s : qb_M) (c : Nat × Nat) (x y n h : Int32) {v : Int32} {H : qa_H} (h1 : qe (d + 4) 73 [.ref 125, .ref 145, .int x] (qb_hp (s), 149, c) = some (some (.int v), H)) : qe (d + 5) 59 [.ref 125, .ref 145, .int 2, .int x, .int y, .int n, .int h] (qb_hp (s), 149, c) = some (some (.int v), H) := by
  refine (en_59 (d + 4) 125 145 2 x y n h _).trans ?_
  refine go_ild_7_2 rfl ?_
  refine go_sw2 (n := 65) rfl (by decide +kernel) ?_
  refine go_ald_7_0 rfl ?_
  refine go_ald_7_1 rfl ?_
  refine go_ild_7_3 rfl ?_
  refine go_call3 rfl (h1) (Nat.le_of_ble_eq_true rfl) (qb_qv rfl (by decide) (by decide)) ?_
  exact fin_i rfl rfl rfl
theorem sp_perf3 (d : Nat) (s : qb_M) (c : Nat × Nat) (x y n h : Int32) {v : Int32} {H : qa_H} (h1 : qe (d + 4) 75 [.ref 125, .ref 145, .int x] (qb_hp (s), 149, c) = some (some (.int v), H)) : qe (d + 5) 59 [.ref 125, .ref 145, .int 3, .int x, .int y, .int n, .int h] (qb_hp (s), 149, c) = some (some (.int v), H) := by
  refine (en_59 (d + 4) 125 145 3 x y n h _).trans ?_
  refine go_ild_7_2 rfl ?_
  refine go_sw2 (n := 72) rfl (by decide +kernel) ?_
  refine go_ald_7_0 rfl ?_
  refine go_ald_7_1 rfl ?_
  refine go_ild_7_3 rfl ?_
  refine go_call3 rfl (h1) (Nat.le_of_ble_eq_true rfl) (qb_qv rfl (by decide) (by decide)) ?_
  exact fin_i rfl rfl rfl
theorem sp_perf4 (d : Nat) (s : qb_M) (c : Nat × Nat) (x y n h : Int32) {v : Int32} {H : qa_H} (h1 : qe (d + 4) 76 [.ref 125, .ref 145, .int x] (qb_hp (s), 149, c) = some (some (.int v), H)) : qe (d + 5) 59 [.ref 125, .ref 145, .int 4, .int x, .int y, .int n, .int h] (qb_hp (s), 149, c) = some (some (.int v), H) := by
  refine (en_59 (d + 4) 125 145 4 x y n h _).trans ?_
  refine go_ild_7_2 rfl ?_
  refine go_sw2 (n := 79) rfl (by decide +kernel) ?_
  refine go_ald_7_0 rfl ?_
  refine go_ald_7_1 rfl ?_
  refine go_ild_7_3 rfl ?_
  refine go_call3 rfl (h1) (Nat.le_of_ble_eq_true rfl) (qb_qv rfl (by decide) (by decide)) ?_
  exact fin_i rfl rfl rfl
theorem sp_perf5 (d : Nat) (s : qb_M) (c : Nat × Nat) (x y n h : Int32) {v : Int32} {H : qa_H} (h1 : qe (d + 4) 77 [.ref 125, .ref 145, .int n] (qb_hp (s), 149, c) = some (some (.int v), H)) : qe (d + 5) 59 [.ref 125, .ref 145, .int 5, .int x, .int y, .int n, .int h] (qb_hp (s), 149, c) = some (some (.int v), H) := by
  refine (en_59 (d + 4) 125 145 5 x y n h _).trans ?_
  refine go_ild_7_2 rfl ?_
  refine go_sw2 (n := 86) rfl (by decide +kernel) ?_
  refine go_ald_7_0 rfl ?_
  refine go_ald_7_1 rfl ?_
  refine go_ild_7_5 rfl ?_
  refine go_call3 rfl (h1) (Nat.le_of_ble_eq_true rfl) (qb_qv rfl (by decide) (by decide)) ?_
  exact fin_i rfl rfl rfl
/-! a call: what both come to at states that are alike -/
/-- the component's draft and the reference put a call through, or don't -/
theorem bo_put {nw nm ns V F0 : Nat} {lo hi se : Nat → Nat} (d d2 d3 : Nat) (s1 m : qb_M) (c : Nat × Nat) (hp : qP_pl s1 67 nw nm lo hi) (hV : s1.1 67 8 = nI V ∧ V ≤ 9) (hpm : qm_pl m nw nm lo hi) (hVm : m.1 194 3 = nI V ∧ V ≤ 9) (hR : qs_R (qs_so s1 145) (qm_so m)) {H X J : Nat} {Lf Sh : Nat → Nat} (hI : qs_in nw nm lo hi (qm_so m) H X J Lf Sh) (i o n : Nat) (hi0 : i < nw) (ho : o < nw) (hn1 : 1 ≤ n) (hn2 : n ≤ 30) (h : Int32) (b : Bool) (hb0 : h = 0 ↔ b = false) : ∃ r t, qe (d + 4) 60 [.ref 125, .ref 145, .int (nI i), .int (nI o), .int (nI n), .int (qB (b = true))] (qb_hp (s1), 149, c) = some (some (.int (r)), (qb_hp (t), 149, c)) ∧ qC_fr 145 s1 t ∧ (∃ m1, qe (d2 + 6) 215 [.ref 192, .int 0, .int (nI i), .int (nI o), .int h] (qb_hp (m), 149, c) = some (some (.int (r)), (qb_hp (m1), 149, c)) ∧ qm_so m1 = qm_so m ∧ qM_fr m m1) ∧ (r ≠ 0 → qs_so t 145 = qs_so s1 145) ∧ (r = 0 → ∃ Z, qs_so t 145 = qt_cl lo hi nw nm i o (nI n) X Z (qs_so s1 145) ∧ (∀ m', (∀ k, m'.1 194 k = m.1 194 k) → ∃ m2, qe (d3 + 6) 223 [.ref 192, .int (nI i), .int (nI o), .int (nI n), .int h] (qb_hp (m'), 149, c) = some (none, (qb_hp (m2), 149, c)) ∧ qm_so m2 = qt_cl lo hi nw nm i o (nI n) X Z (qm_so m) ∧ qM_fr m' m2) ∧ qs_R (qt_cl lo hi nw nm i o (nI n) X Z (qs_so s1 145)) (qt_cl lo hi nw nm i o (nI n) X Z (qm_so m)) ∧ ∃ Lf' Sh', qs_in nw nm lo hi (qt_cl lo hi nw nm i o (nI n) X Z (qm_so m)) H Z J Lf' Sh') := by
  have hok := hp.ok
  obtain ⟨p1, p2, ⟨p3, p4, p5⟩, p6⟩ := id hp
  have hS := qS_145
  have hIc := hR.in hI
  have hbz := hR.bz (i := i) (o := o) (by omega)
  by_cases hz : qs_bz (qm_so m) i o = true
  · refine ⟨1, s1, sp_putB d s1 c hS p1 p4 i o hi0 ho _ _ (by rw [hbz]; exact hz), qC_fr.rf, ⟨m, ?_, rfl, qM_fr.rf⟩, fun _ => rfl, fun z => absurd z (by decide)⟩
    refine (en_215 (d2 + 5) 192 0 (nI i) (nI o) h _).trans ?_
    refine go_ild_5_1 rfl ?_
    refine go_sw2 (n := 32) rfl (by decide +kernel) ?_
    refine go_ald_5_0 rfl ?_
    refine go_ild_5_2 rfl ?_
    refine go_ild_5_3 rfl ?_
    refine go_call3 rfl (sp_isBusyM (d2 + 2) m c i o (by omega)) (Nat.le_of_ble_eq_true rfl) (qb_qv rfl (by decide) (by decide)) ?_
    rw [qB_t hz]
    refine go_ifeq rfl (fun e => ?_) (fun e => ?_)
    · exact absurd e (by decide)
    · refine go_c rfl ?_
      refine go_goto rfl ?_
      exact fin_i rfl rfl (rfl)
  · have hz' : ¬ qs_bz (qs_so s1 145) i o = true := by rw [hbz]; exact hz
    have hon : ∀ w, w < nw → qs_on (qs_so s1 145) w = qs_on (qm_so m) w := fun w hw => hR.on (by omega)
    have hsf := sp_settingFor d2 m c hpm hVm hI i o hi0 ho h b hb0
    have hfm : ∀ v, qM_fr m (qb_ui (qb_wl m 204 0 nw (fun w => lN (qm_wy lo hi X w nm))) 192 26 v) := fun v => qG.ui (qG.wl qG.rf (fun k _ _ => Or.inr (Or.inr rfl))) (Or.inr (Or.inl ⟨rfl, rfl⟩))
    rcases qk_both hok (X := X) (J := J) (f := qs_so s1 145) (b := b) (V := V) (Sh := Sh) (i := i) (o := o) (f0 := s1.1 125 4) with ⟨g1, g2⟩ | ⟨Z, g0, g1, g2, g3⟩
    · obtain ⟨t, k1, k2, k3⟩ := sp_put2 d s1 c hS (by decide) hp hV hIc i o hi0 ho (nI n) b hz' g2
      rw [qk_m_cong hon] at g1
      rw [g1] at hsf
      refine ⟨2, t, k1, k3, ⟨_, ?_, ?_, hfm (nI 100000)⟩, fun _ => k2, fun z => absurd z (by decide)⟩
      · refine (en_215 (d2 + 5) 192 0 (nI i) (nI o) h _).trans ?_
        refine go_ild_5_1 rfl ?_
        refine go_sw2 (n := 32) rfl (by decide +kernel) ?_
        refine go_ald_5_0 rfl ?_
        refine go_ild_5_2 rfl ?_
        refine go_ild_5_3 rfl ?_
        refine go_call3 rfl (sp_isBusyM (d2 + 2) m c i o (by omega)) (Nat.le_of_ble_eq_true rfl) (qb_qv rfl (by decide) (by decide)) ?_
        rw [qB_f hz]
        refine go_ifeq rfl (fun e => ?_) (fun e => ?_)
        · refine go_ald_5_0 rfl ?_
          refine go_ild_5_2 rfl ?_
          refine go_ild_5_3 rfl ?_
          refine go_ild_5_4 rfl ?_
          refine go_call4 rfl (hsf) (Nat.le_of_ble_eq_true rfl) (qb_qv rfl (by decide) (by decide)) ?_
          refine go_c rfl ?_
          refine go_icne rfl (fun e2 => ?_) (fun e2 => ?_)
          · refine go_c rfl ?_
            refine go_goto rfl ?_
            exact fin_i rfl rfl rfl
          · exact absurd rfl e2
        · exact absurd rfl e
      · rfl
    · obtain ⟨t, k1, k2, k3⟩ := sp_put0 d s1 c hS (by decide) hp hV hIc i o hi0 ho (nI n) b hz' g0 g3
      have hct : qk_ct lo hi nw nm X (qs_so s1 145) Z = qk_ct lo hi nw nm X (qm_so m) Z := fa_cnt_cong (fun k hk => by rw [hon k hk])
      rw [qk_m_cong hon, hct] at g2
      rw [qk_okM_cong hon] at g1
      rw [g2] at hsf
      have h10 : 2 ^ nm ≤ 2 ^ 10 := Nat.pow_le_pow_right (by decide) p5
      refine ⟨0, t, k1, k3, ⟨_, ?_, ?_, hfm (nI (qk_ct lo hi nw nm X (qm_so m) Z))⟩, fun z => absurd rfl z, fun _ => ⟨Z, k2, fun m' hm' => ?_, hR.cl p4 p5 (by omega), _, _, hI.cl hok hi0 ho hn1 hn2 hV.2 g0 g1⟩⟩
      · refine (en_215 (d2 + 5) 192 0 (nI i) (nI o) h _).trans ?_
        refine go_ild_5_1 rfl ?_
        refine go_sw2 (n := 32) rfl (by decide +kernel) ?_
        refine go_ald_5_0 rfl ?_
        refine go_ild_5_2 rfl ?_
        refine go_ild_5_3 rfl ?_
        refine go_call3 rfl (sp_isBusyM (d2 + 2) m c i o (by omega)) (Nat.le_of_ble_eq_true rfl) (qb_qv rfl (by decide) (by decide)) ?_
        rw [qB_f hz]
        refine go_ifeq rfl (fun e => ?_) (fun e => ?_)
        · refine go_ald_5_0 rfl ?_
          refine go_ild_5_2 rfl ?_
          refine go_ild_5_3 rfl ?_
          refine go_ild_5_4 rfl ?_
          refine go_call4 rfl (hsf) (Nat.le_of_ble_eq_true rfl) (qb_qv rfl (by decide) (by decide)) ?_
          refine go_c rfl ?_
          refine go_icne rfl (fun e2 => ?_) (fun e2 => ?_)
          · exact absurd (e2.trans (show (-1 : Int32) = nI (2 ^ 32 - 1) from by decide +kernel)) (fun z => by have := (nI_eq32 (by omega) (by decide)).mp z; omega)
          · refine go_c rfl ?_
            exact fin_i rfl rfl rfl
        · exact absurd rfl e
      · rfl
      · have hso : qm_so m' = qm_so m := funext fun k => hm' _
        have hpm' : qm_pl m' nw nm lo hi := by
          unfold qm_pl
          rw [show m'.1 194 = m.1 194 from funext hm']
          exact hpm
        have := sp_doCall d3 m' c hpm' (V := V) (H := H) (X := X) (J := J) (Lf := Lf) (Sh := Sh) (by rw [hm']; exact hVm) (by rw [hso]; exact hI) i o hi0 ho (nI n) h b hb0 (Z := Z) g0 (by rw [hso]; exact g2)
        rw [hso] at this
        exact this

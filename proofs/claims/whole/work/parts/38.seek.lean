/-! what is so, kept in bounds -/
def qs_in (nw nm : Nat) (lo hi : Nat → Nat) (f : Nat → Int32) (H X J : Nat) (Lf Sh : Nat → Nat) : Prop := (f 0 = nI H ∧ H ≤ 400) ∧ (f 1 = nI X ∧ X < 2 ^ nm) ∧ (f 2 = nI J ∧ J < 2 ^ nm) ∧ ∀ w, w < 8 → qs_on f w = true → w < nw ∧ f (6 + w) = nI (qm_wr lo hi X w nm) ∧ (f (14 + w) = nI (Lf w) ∧ 1 ≤ Lf w ∧ Lf w ≤ 30) ∧ (f (22 + w) = nI (Sh w) ∧ Sh w ≤ 9)
def qm_any (p : Nat → Bool) : Nat → Bool
  | 0 => false
  | n + 1 => qm_any p n || p n
theorem qm_any_t {p : Nat → Bool} : ∀ {n : Nat}, qm_any p n = true ↔ ∃ k, k < n ∧ p k = true
  | 0 => ⟨fun h => absurd (show false = true from h) (by decide), fun ⟨k, hk, _⟩ => by omega⟩
  | n + 1 => by
    show (qm_any p n || p n) = true ↔ _
    rw [Bool.or_eq_true, qm_any_t]
    constructor
    · rintro (⟨k, h1, h2⟩ | h)
      · exact ⟨k, by omega, h2⟩
      · exact ⟨n, by omega, h⟩
    · rintro ⟨k, h1, h2⟩
      by_cases e : k = n
      · subst e; exact Or.inr h2
      · exact Or.inl ⟨k, by omega, h2⟩
/-! the component's search -/
def qk_Q (lo hi : Nat → Nat) (nm X : Nat) (f : Nat → Int32) (c : Nat) : Nat := if qs_on f c = true then qm_ac (qm_th lo hi X c) nm else 0
def qk_ct (lo hi : Nat → Nat) (nw nm X : Nat) (f : Nat → Int32) (Y : Nat) : Nat := fa_cnt (fun c => qs_on f c && qm_ch lo hi nm X Y c) nw
def qk_ok (lo hi : Nat → Nat) (nw nm X : Nat) (f : Nat → Int32) (i o Y : Nat) : Bool := decide (qm_wr lo hi Y i nm = o) && !qm_any (fun w => qs_on f w && decide (qm_wr lo hi Y w nm ≠ qm_wr lo hi X w nm)) nw
def qk_g (ok : Nat → Bool) (ct : Nat → Nat) (Y : Nat) (p : Nat × Int32) : Nat × Int32 := if ok Y = true ∧ ct Y < p.1 then (ct Y, nI Y) else p
def qk_F (J : Nat) (P : Nat → Nat) (q : Nat → Bool) : Nat → Nat
  | 0 => J
  | c + 1 => if q c = true then qk_F J P q c ||| P c else qk_F J P q c
theorem qk_F_bit {J : Nat} {P : Nat → Nat} {q : Nat → Bool} {j : Nat} : ∀ n, (qk_F J P q n).testBit j = true ↔ J.testBit j = true ∨ ∃ c, c < n ∧ q c = true ∧ (P c).testBit j = true
  | 0 => ⟨Or.inl, fun h => h.elim id (fun ⟨c, h, _⟩ => by omega)⟩
  | n + 1 => by
    have ih := qk_F_bit (J := J) (P := P) (q := q) (j := j) n
    unfold qk_F
    by_cases e : q n = true
    · rw [if_pos e, Nat.testBit_or, Bool.or_eq_true, ih]
      constructor
      · rintro ((h | ⟨c, h1, h2⟩) | h)
        · exact Or.inl h
        · exact Or.inr ⟨c, by omega, h2⟩
        · exact Or.inr ⟨n, by omega, e, h⟩
      · rintro (h | ⟨c, h1, h2, h3⟩)
        · exact Or.inl (Or.inl h)
        · by_cases z : c = n
          · subst z; exact Or.inr h3
          · exact Or.inl (Or.inr ⟨c, by omega, h2, h3⟩)
    · rw [if_neg e, ih]
      constructor
      · rintro (h | ⟨c, h1, h2⟩)
        · exact Or.inl h
        · exact Or.inr ⟨c, by omega, h2⟩
      · rintro (h | ⟨c, h1, h2, h3⟩)
        · exact Or.inl h
        · by_cases z : c = n
          · subst z; exact absurd h2 e
          · exact Or.inr ⟨c, by omega, h2, h3⟩
theorem qk_F_lt {J : Nat} {P : Nat → Nat} {q : Nat → Bool} {m : Nat} (hJ : J < 2 ^ m) (hP : ∀ c, P c < 2 ^ m) : ∀ n, qk_F J P q n < 2 ^ m
  | 0 => hJ
  | n + 1 => by
    unfold qk_F
    split
    · exact Nat.or_lt_two_pow (qk_F_lt hJ hP n) (hP n)
    · exact qk_F_lt hJ hP n
def qk_fx (f : Nat → Int32) (b : Bool) (V : Nat) (Sh : Nat → Nat) (c : Nat) : Bool := qs_on f c && (!b || decide (V ≤ Sh c))
def qk_Fx (lo hi : Nat → Nat) (nw nm X J : Nat) (f : Nat → Int32) (b : Bool) (V : Nat) (Sh : Nat → Nat) : Nat := qk_F J (fun c => qm_ac (qm_th lo hi X c) nm) (qk_fx f b V Sh) nw
/-- fewest shifts, and the first setting with them -/
def qk_p (lo hi : Nat → Nat) (nw nm X J : Nat) (f : Nat → Int32) (b : Bool) (V : Nat) (Sh : Nat → Nat) (i o : Nat) (f0 : Int32) (n : Nat) : Nat × Int32 := qm_fo (qm_S X (qk_Fx lo hi nw nm X J f b V Sh)) (qk_g (qk_ok lo hi nw nm X f i o) (qk_ct lo hi nw nm X f)) (9, f0) n
theorem qk_ct_le {lo hi : Nat → Nat} {nw nm X : Nat} {f : Nat → Int32} {Y : Nat} : qk_ct lo hi nw nm X f Y ≤ nw := fa_cnt_le _ _
theorem qk_g_1 {ok : Nat → Bool} {ct : Nat → Nat} {Y : Nat} {p : Nat × Int32} : (qk_g ok ct Y p).1 ≤ p.1 := by
  unfold qk_g
  split
  · rename_i h; exact Nat.le_of_lt h.2
  · exact Nat.le_refl _
theorem qk_g_0 {ok : Nat → Bool} {ct : Nat → Nat} {Y : Nat} {p : Nat × Int32} (h : p.1 = 0) : qk_g ok ct Y p = p := by
  unfold qk_g
  rw [if_neg (fun q => by have := q.2; omega)]
theorem qk_p_le {lo hi : Nat → Nat} {nw nm X J : Nat} {f : Nat → Int32} {b : Bool} {V : Nat} {Sh : Nat → Nat} {i o : Nat} {f0 : Int32} : ∀ n, (qk_p lo hi nw nm X J f b V Sh i o f0 n).1 ≤ 9
  | 0 => Nat.le_refl _
  | n + 1 => by
    have ih := qk_p_le (lo := lo) (hi := hi) (nw := nw) (nm := nm) (X := X) (J := J) (f := f) (b := b) (V := V) (Sh := Sh) (i := i) (o := o) (f0 := f0) n
    unfold qk_p at ih ⊢
    unfold qm_fo
    split
    · exact Nat.le_trans qk_g_1 ih
    · exact ih
theorem qk_fo_0 {S ok : Nat → Bool} {ct : Nat → Nat} {a : Nat × Int32} {x : Nat} (h : (qm_fo S (qk_g ok ct) a x).1 = 0) : ∀ n, qm_fo S (qk_g ok ct) a (x + n) = qm_fo S (qk_g ok ct) a x
  | 0 => rfl
  | n + 1 => by
    have ih := qk_fo_0 h n
    show (if S (x + n) = true then qk_g ok ct (x + n) (qm_fo S (qk_g ok ct) a (x + n)) else qm_fo S (qk_g ok ct) a (x + n)) = _
    rw [ih]
    split
    · exact qk_g_0 h
    · rfl
theorem sp_weigh (d : Nat) (s : qb_M) (c : Nat × Nat) {nw nm : Nat} {lo hi : Nat → Nat} (hp : qP_pl s 67 nw nm lo hi) (Q : Nat → Nat) (hQ : ∀ c, c < nw → s.1 126 c = nI (Q c) ∧ Q c < 1024) (T M : Nat) (hT : T < 1024) (hM : s.1 125 5 = nI M) (hM2 : M ≤ 9) : qe (d + 1) 69 [.ref 125, .int (nI T)] (qb_hp (s), 149, c) = some (none, (qb_hp (if fa_cnt (fun c => decide (Q c &&& T ≠ 0)) nw < M then qb_ui (qb_ui s 125 5 (nI (fa_cnt (fun c => decide (Q c &&& T ≠ 0)) nw))) 125 4 (s.1 127 4) else s), 149, c)) := by
  obtain ⟨p1, p2, ⟨p3, p4, p5⟩, p6⟩ := id hp
  have hle : ∀ n, fa_cnt (fun c => decide (Q c &&& T ≠ 0)) n ≤ n := fa_cnt_le _
  have loop : ∀ (n w : Nat), w + n = nw → qa_lm (qe (d)) (qa_cd qc_69) (4, [.ref 125, .int (nI T), .int (nI (fa_cnt (fun c => decide (Q c &&& T ≠ 0)) w)), .int (nI w)], [], (qb_hp (s), 149, c)) = some (none, (qb_hp (if fa_cnt (fun c => decide (Q c &&& T ≠ 0)) nw < M then qb_ui (qb_ui s 125 5 (nI (fa_cnt (fun c => decide (Q c &&& T ≠ 0)) nw))) 125 4 (s.1 127 4) else s), 149, c)) := by
    intro n
    induction n with
    | zero =>
      intro w hw
      have hw : w = nw := by omega
      subst hw
      have := hle w
      refine go_ild_4_3 rfl ?_
      refine go_ald_4_0 rfl ?_
      refine go_getr rfl ⟨_, rfl, rfl, by decide, by decide⟩ ?_
      refine go_geti rfl ⟨_, rfl, rfl, by decide, by decide⟩ ?_
      rw [p1]
      refine go_icge rfl (fun e => ?_) (fun e => ?_)
      · refine go_ild_4_2 rfl ?_
        refine go_ald_4_0 rfl ?_
        refine go_geti rfl ⟨_, rfl, rfl, by decide, by decide⟩ ?_
        rw [hM]
        refine go_icge rfl (fun e2 => ?_) (fun e2 => ?_)
        · rw [if_neg (Nat.not_lt.mpr ((nI_leI (by omega) (by omega)).mp e2))]
          exact fin_v rfl (rfl)
        · rw [if_pos (Nat.not_le.mp (fun z => e2 (nI_le z (by omega))))]
          refine go_ald_4_0 rfl ?_
          refine go_ild_4_2 rfl ?_
          refine go_puti rfl ⟨_, rfl, rfl, by decide, by decide⟩ rfl rfl ?_
          refine go_ald_4_0 rfl ?_
          refine go_ald_4_0 rfl ?_
          refine go_getr rfl ⟨_, rfl, rfl, by decide, by decide⟩ ?_
          refine go_geti rfl ⟨_, rfl, rfl, by decide, by decide⟩ ?_
          refine go_puti rfl ⟨_, rfl, rfl, by decide, by decide⟩ rfl rfl ?_
          exact fin_v rfl rfl
      · exact absurd (Int32.le_refl _) e
    | succ n ih =>
      intro w hw
      have ih := ih (w + 1) (by omega)
      obtain ⟨q1, q2⟩ := hQ w (by omega)
      have h9 : Q w &&& T < 1024 := Nat.lt_of_le_of_lt Nat.and_le_left q2
      refine go_ild_4_3 rfl ?_
      refine go_ald_4_0 rfl ?_
      refine go_getr rfl ⟨_, rfl, rfl, by decide, by decide⟩ ?_
      refine go_geti rfl ⟨_, rfl, rfl, by decide, by decide⟩ ?_
      rw [p1]
      refine go_icge rfl (fun e => ?_) (fun e => ?_)
      · exact absurd e (nI_ge (by omega) (by omega))
      · refine go_ald_4_0 rfl ?_
        refine go_getr rfl ⟨_, rfl, rfl, by decide, by decide⟩ ?_
        refine go_ild_4_3 rfl ?_
        refine go_iald (j := w) rfl (⟨rfl, by decide, by decide, by decide⟩) (rfl) (by omega) ?_
        refine go_ild_4_1 rfl ?_
        refine go_iand rfl ?_
        rw [q1, fa_and]
        refine go_ifeq rfl (fun e2 => ?_) (fun e2 => ?_)
        · have : Q w &&& T = 0 := (nI_eq (b := 0) (by omega) (by decide)).mp e2
          rw [fa_cnt_no (p := fun c => decide (Q c &&& T ≠ 0)) (decide_eq_false (fun z => z this))] at ih
          refine go_inc_4_3 rfl rfl ?_
          refine go_goto rfl ?_
          rw [nI_1]
          exact ih
        · rw [fa_cnt_yes (p := fun c => decide (Q c &&& T ≠ 0)) (decide_eq_true (fun z => e2 (by rw [z]; rfl)))] at ih
          refine go_inc_4_2 rfl rfl ?_
          refine go_inc_4_3 rfl rfl ?_
          refine go_goto rfl ?_
          rw [nI_1, nI_1]
          exact ih
  refine (en_69 d 125 (nI T) _).trans ?_
  refine go_c rfl ?_
  refine go_ist_4_2 rfl rfl ?_
  refine go_c rfl ?_
  refine go_ist_4_3 rfl rfl ?_
  exact loop nw 0 (by omega)
/-- the loop over all settings, whatever is looked for -/
theorem sp_seek2 (d : Nat) (s : qb_M) (c : Nat × Nat) {a : Nat} (hS : qS_sh a) (ha : a + 5 ≤ 125 ∨ 129 ≤ a) {nw nm : Nat} {lo hi : Nat → Nat} (hp : qP_pl s 67 nw nm lo hi) {X F N : Nat} (hX : s.1 a 5 = nI X) (hX3 : X < 1024) (hN : N ≤ 1024) (Q : Nat → Nat) (hQ : ∀ w, Q w < 1024) (l2 l3 l4 l5 : Int32) (mask wanted : Nat) (hm : mask < 2 ^ 32) (hwt : wanted < 2 ^ 32) (q : Nat → Nat × Int32) (hq9 : ∀ j, (q j).1 ≤ 9) (hq0 : ∀ j, j ≤ N → (q j).1 = 0 → q N = q j) (ct : Nat → Nat) (ok : Nat → Bool) (hcq : ∀ Y, fa_cnt (fun c => decide (Q c &&& (X ^^^ Y) ≠ 0)) nw = ct Y) (hokk : ∀ Y, qm_pk (qm_te lo hi Y nm nm) &&& mask = wanted ↔ ok Y = true) (hqs : ∀ j, j < N → q (j + 1) = qk_g ok ct (qm_y nm X F j) (q j)) : ∀ (n j : Nat), j + n = N → ∀ t, qW t nm lo hi X F j → t.1 125 5 = nI (q j).1 → t.1 125 4 = (q j).2 → (∀ w, w < nw → t.1 126 w = nI (Q w)) → t.1 125 3 = s.1 125 3 → qF (fun x => 125 ≤ x ∧ x ≤ 128) s t → ∃ u, qa_lm (qe (d + 2)) (qa_cd qc_62) (168, [.ref 125, .ref a, .int l2, .int l3, .int l4, .int l5, .int (nI mask), .int (nI wanted), .int (nI N), .int (nI j)], [], (qb_hp (t), 149, c)) = some (some (.int (qB ((q N).1 ≤ 8))), (qb_hp (u), 149, c)) ∧ u.1 125 5 = nI (q N).1 ∧ u.1 125 4 = (q N).2 ∧ (∀ w, w < nw → u.1 126 w = nI (Q w)) ∧ u.1 125 3 = s.1 125 3 ∧ qF (fun x => 125 ≤ x ∧ x ≤ 128) s u := by
  have hok := hp.ok
  obtain ⟨p1, p2, ⟨p3, p4, p5⟩, p6⟩ := id hp
  -- the end
  have fin : ∀ t (l9 : Int32), t.1 125 5 = nI (q N).1 → qa_lm (qe (d + 2)) (qa_cd qc_62) (226, [.ref 125, .ref a, .int l2, .int l3, .int l4, .int l5, .int (nI mask), .int (nI wanted), .int (nI N), .int l9], [], (qb_hp (t), 149, c)) = some (some (.int (qB ((q N).1 ≤ 8))), (qb_hp (t), 149, c)) := fun t l9 h5 => by
    have h9 := hq9 N
    refine go_ald_10_0 rfl ?_
    refine go_geti rfl ⟨_, rfl, rfl, by decide, by decide⟩ ?_
    refine go_c rfl ?_
    rw [h5]
    refine go_icgt rfl (fun e => ?_) (fun e => ?_)
    · have e := (nI_ltI (a := 8) (by decide) (by omega)).mp e
      refine go_c rfl ?_
      exact fin_i rfl rfl (qR_i (qB_f (by omega)).symm)
    · have e : ¬ 8 < (q N).1 := fun z => e (nI_lt (a := 8) z (by omega))
      refine go_c rfl ?_
      refine go_goto rfl ?_
      exact fin_i rfl rfl (qR_i (qB_t (by omega)).symm)
  intro n
  induction n with
  | zero =>
    intro j hj t hw h5 h4 h6 h3 hf
    have hj : j = N := by omega
    subst hj
    refine ⟨t, ?_, h5, h4, h6, h3, hf⟩
    refine go_ild_10_9 rfl ?_
    refine go_ild_10_8 rfl ?_
    refine go_icge rfl (fun e => ?_) (fun e => ?_)
    · exact fin t _ h5
    · exact absurd (Int32.le_refl _) e
  | succ n ih =>
    intro j hj t hw h5 h4 h6 h3 hf
    have hjN : j < N := by omega
    by_cases hz : (q j).1 = 0
    · have he := hq0 j (by omega) hz
      have h5' := h5
      rw [← he] at h5 h4
      refine ⟨t, ?_, h5, h4, h6, h3, hf⟩
      refine go_ild_10_9 rfl ?_
      refine go_ild_10_8 rfl ?_
      refine go_icge rfl (fun e => ?_) (fun e => ?_)
      · exact absurd e (nI_ge hjN (by omega))
      · refine go_ald_10_0 rfl ?_
        refine go_geti rfl ⟨_, rfl, rfl, by decide, by decide⟩ ?_
        rw [h5', hz]
        refine go_ifle rfl (fun e => ?_) (fun e => ?_)
        · exact fin t _ h5
        · exact absurd (by decide) e
    · have hp2 : qP_pl t 67 nw nm lo hi := hp.mv hf (by decide) (by decide) (by decide)
      obtain ⟨w1, w2, w3, w4⟩ := id hw
      have h9 := hq9 j
      have hY : qm_y nm X F j < 1024 := Nat.lt_of_lt_of_le qm_y_lt (Nat.pow_le_pow_right (n := 2) (by decide) p5)
      have hs := hqs j hjN
      have hok2 := hokk (qm_y nm X F j)
      have hct := hcq (qm_y nm X F j)
      unfold qk_g at hs
      have hX2 : t.1 a 5 = nI X := (hf.i (by omega)).trans hX
      -- behind the weighing
      have tail : ∀ u, qP_pl u 67 nw nm lo hi → qW u nm lo hi X F j → u.1 125 5 = nI (q (j + 1)).1 → u.1 125 4 = (q (j + 1)).2 → (∀ w, w < nw → u.1 126 w = nI (Q w)) → u.1 125 3 = s.1 125 3 → qF (fun x => 125 ≤ x ∧ x ≤ 128) s u → ∃ z, qa_lm (qe (d + 2)) (qa_cd qc_62) (213, [.ref 125, .ref a, .int l2, .int l3, .int l4, .int l5, .int (nI mask), .int (nI wanted), .int (nI N), .int (nI j)], [], (qb_hp (u), 149, c)) = some (some (.int (qB ((q N).1 ≤ 8))), (qb_hp (z), 149, c)) ∧ z.1 125 5 = nI (q N).1 ∧ z.1 125 4 = (q N).2 ∧ (∀ w, w < nw → z.1 126 w = nI (Q w)) ∧ z.1 125 3 = s.1 125 3 ∧ qF (fun x => 125 ≤ x ∧ x ≤ 128) s z := fun u hu1 hu2 hu3 hu4 hu5 hu6 hu7 => by
        obtain ⟨u2, k1, k2, k3⟩ := sp_advance d u c hu1 X F j hu2
        have k4 : qF (fun x => 125 ≤ x ∧ x ≤ 128) u u2 := k3.mo (fun x hx => by omega)
        obtain ⟨z, m1, m2⟩ := ih (j + 1) (by omega) u2 k2 ((k3.i (by decide)).trans hu3) ((k3.i (by decide)).trans hu4) (fun w hw => (k3.i (by decide)).trans (hu5 w hw)) ((k3.i (by decide)).trans hu6) (hu7.tr k4)
        refine ⟨z, ?_, m2⟩
        refine go_ald_10_0 rfl ?_
        refine go_getr rfl ⟨_, rfl, rfl, by decide, by decide⟩ ?_
        refine go_call1 rfl (k1) (Nat.le_of_ble_eq_true rfl) (qb_qv rfl (by decide) (by decide)) ?_
        refine go_inc_10_9 rfl rfl ?_
        refine go_goto rfl ?_
        rw [nI_1]
        exact m1
      have hte : ∀ w, w < 8 → qm_te lo hi (qm_y nm X F j) nm nm w < 8 := qm_te_lt hok _ nm (Nat.le_refl _)
      have hpl := qm_pk_lt (hte 7 (by decide))
      have hnn : 0 < (q j).1 := Nat.pos_of_ne_zero hz
      generalize ct (qm_y nm X F j) = ct at hs hct
      generalize ok (qm_y nm X F j) = ok at hs hok2
      generalize hpe : qm_pk (qm_te lo hi (qm_y nm X F j) nm nm) = pe at hok2 hpl
      by_cases hk : ok = true
      · -- weighed
        have hwg := sp_weigh (d + 1) t c hp2 Q (fun w hw => ⟨h6 w hw, hQ w⟩) (X ^^^ qm_y nm X F j) _ (Nat.xor_lt_two_pow (n := 10) hX3 hY) h5 h9
        rw [hct] at hwg
        have hres : ∃ z, qa_lm (qe (d + 2)) (qa_cd qc_62) (213, [.ref 125, .ref a, .int l2, .int l3, .int l4, .int l5, .int (nI mask), .int (nI wanted), .int (nI N), .int (nI j)], [], (qb_hp (if ct < (q j).1 then qb_ui (qb_ui t 125 5 (nI ct)) 125 4 (t.1 127 4) else t), 149, c)) = some (some (.int (qB ((q N).1 ≤ 8))), (qb_hp (z), 149, c)) ∧ z.1 125 5 = nI (q N).1 ∧ z.1 125 4 = (q N).2 ∧ (∀ w, w < nw → z.1 126 w = nI (Q w)) ∧ z.1 125 3 = s.1 125 3 ∧ qF (fun x => 125 ≤ x ∧ x ≤ 128) s z := by
          by_cases hl : ct < (q j).1
          · rw [if_pos hl]
            have hf2 : qF (fun x => x = 125) t (qb_ui (qb_ui t 125 5 (nI ct)) 125 4 (t.1 127 4)) := (qF.rf.ui (P := fun x => x = 125) rfl).ui rfl
            refine tail _ (hp2.mv hf2 (by decide) (by decide) (by decide)) ⟨(hf2.i (by decide)).trans w1, (hf2.i (by decide)).trans w2, (hf2.i (by decide)).trans w3, fun k h1 h2 => (hf2.i (by decide)).trans (w4 k h1 h2)⟩ ?_ ?_ (fun w hw => (hf2.i (by decide)).trans (h6 w hw)) ?_ (hf.tr (hf2.mo (fun x hx => by omega)))
            · rw [hs, if_pos ⟨hk, hl⟩, qb_ui_1n (Or.inr (by decide)), qb_ui_1s]
            · rw [hs, if_pos ⟨hk, hl⟩, qb_ui_1s]
              exact w3
            · rw [qb_ui_1n (Or.inr (by decide)), qb_ui_1n (Or.inr (by decide))]
              exact h3
          · rw [if_neg hl]
            refine tail t hp2 hw ?_ ?_ h6 h3 hf
            · rw [hs, if_neg (fun q => hl q.2)]; exact h5
            · rw [hs, if_neg (fun q => hl q.2)]; exact h4
        obtain ⟨z, m1, m2⟩ := hres
        refine ⟨z, ?_, m2⟩
        refine go_ild_10_9 rfl ?_
        refine go_ild_10_8 rfl ?_
        refine go_icge rfl (fun e => ?_) (fun e => ?_)
        · exact absurd e (nI_ge hjN (by omega))
        · refine go_ald_10_0 rfl ?_
          refine go_geti rfl ⟨_, rfl, rfl, by decide, by decide⟩ ?_
          rw [h5]
          refine go_ifle rfl (fun e => ?_) (fun e => ?_)
          · exact absurd e (nI_nle hnn (by omega))
          · refine go_ald_10_0 rfl ?_
            refine go_getr rfl ⟨_, rfl, rfl, by decide, by decide⟩ ?_
            refine go_call1 rfl (sp_ends (d + 1) t c) (Nat.le_of_ble_eq_true rfl) (qb_qv rfl (by decide) (by decide)) ?_
            refine go_ild_10_6 rfl ?_
            rw [w4 0 (Nat.le_refl _) (Nat.zero_le _), Nat.sub_zero, hpe]
            refine go_iand rfl ?_
            refine go_ild_10_7 rfl ?_
            rw [fa_and]
            refine go_icne rfl (fun e => ?_) (fun e => ?_)
            · refine go_ald_10_0 rfl ?_
              refine go_ald_10_1 rfl ?_
              refine go_geti rfl (qS_f hS rfl) ?_
              rw [hX2]
              refine go_ald_10_0 rfl ?_
              refine go_getr rfl ⟨_, rfl, rfl, by decide, by decide⟩ ?_
              refine go_geti rfl ⟨_, rfl, rfl, by decide, by decide⟩ ?_
              rw [w3]
              refine go_ixor rfl ?_
              rw [fb_xorI]
              refine go_call2 rfl (hwg) (Nat.le_of_ble_eq_true rfl) (qb_qv rfl (by decide) (by decide)) ?_
              exact m1
            · exact absurd (congrArg nI (hok2.mpr hk)) e
      · obtain ⟨z, m1, m2⟩ := tail t hp2 hw (by rw [hs, if_neg (fun q => hk q.1)]; exact h5) (by rw [hs, if_neg (fun q => hk q.1)]; exact h4) h6 h3 hf
        refine ⟨z, ?_, m2⟩
        refine go_ild_10_9 rfl ?_
        refine go_ild_10_8 rfl ?_
        refine go_icge rfl (fun e => ?_) (fun e => ?_)
        · exact absurd e (nI_ge hjN (by omega))
        · refine go_ald_10_0 rfl ?_
          refine go_geti rfl ⟨_, rfl, rfl, by decide, by decide⟩ ?_
          rw [h5]
          refine go_ifle rfl (fun e => ?_) (fun e => ?_)
          · exact absurd e (nI_nle hnn (by omega))
          · refine go_ald_10_0 rfl ?_
            refine go_getr rfl ⟨_, rfl, rfl, by decide, by decide⟩ ?_
            refine go_call1 rfl (sp_ends (d + 1) t c) (Nat.le_of_ble_eq_true rfl) (qb_qv rfl (by decide) (by decide)) ?_
            refine go_ild_10_6 rfl ?_
            rw [w4 0 (Nat.le_refl _) (Nat.zero_le _), Nat.sub_zero, hpe]
            refine go_iand rfl ?_
            refine go_ild_10_7 rfl ?_
            rw [fa_and]
            refine go_icne rfl (fun e => ?_) (fun e => ?_)
            · exact absurd (hok2.mp ((nI_eq32 (Nat.lt_of_le_of_lt Nat.and_le_left (by omega)) hwt).mp e)) hk
            · exact m1
/-- the loop over the wires, whatever it gathers -/
theorem sp_seek1 (d : Nat) (s : qb_M) (c : Nat × Nat) {a : Nat} (hS : qS_sh a) (ha : a + 5 ≤ 125 ∨ 129 ≤ a) {nw nm : Nat} {lo hi : Nat → Nat} (hp : qP_pl s 67 nw nm lo hi) {V X : Nat} (hV : s.1 67 8 = nI V ∧ V ≤ 9) (hX : s.1 a 5 = nI X) (hX3 : X < 1024) (Q O Sh Fk Mk Wk : Nat → Nat) (b : Bool) (l2 l3 : Int32) (h1 : ∀ w, w < nw → qs_on (qs_so s a) w = true → Q w = qm_ac (qm_th lo hi X w) nm ∧ s.1 (a + 1) w = nI (O w) ∧ O w < 8 ∧ s.1 (a + 3) w = nI (Sh w) ∧ Sh w ≤ 9 ∧ Fk (w + 1) = (if b = true ∧ Sh w < V then Fk w else Fk w ||| Q w) ∧ Mk (w + 1) = Mk w ||| 15 * 2 ^ (4 * w) ∧ Wk (w + 1) = Wk w ||| O w * 2 ^ (4 * w)) (h2 : ∀ w, w < nw → ¬ qs_on (qs_so s a) w = true → Q w = 0 ∧ Fk (w + 1) = Fk w ∧ Mk (w + 1) = Mk w ∧ Wk (w + 1) = Wk w) (R : Option (Option Value × qa_H)) (hR : qa_lm (qe (d + 2)) (qa_cd qc_62) (144, [.ref 125, .ref a, .int l2, .int l3, .int (qB (b = true)), .int (nI (Fk nw)), .int (nI (Mk nw)), .int (nI (Wk nw)), .int (nI nw), .retAddr 0], [], (qb_hp (qb_wr s 126 0 nw (fun w => nI (Q w))), 149, c)) = R) : ∀ (n w : Nat), w + n = nw → qa_lm (qe (d + 2)) (qa_cd qc_62) (24, [.ref 125, .ref a, .int l2, .int l3, .int (qB (b = true)), .int (nI (Fk w)), .int (nI (Mk w)), .int (nI (Wk w)), .int (nI w), .retAddr 0], [], (qb_hp (qb_wr s 126 0 w (fun w => nI (Q w))), 149, c)) = R := by
  have hok := hp.ok
  obtain ⟨p1, p2, ⟨p3, p4, p5⟩, p6⟩ := id hp
  obtain ⟨hV1, hV2⟩ := hV
  have hf : ∀ k, qF (fun x => x = 126) s (qb_wr s 126 0 k (fun w => nI (Q w))) := fun k => qF.rf.wr rfl
  have hso : ∀ k, qs_so (qb_wr s 126 0 k (fun w => nI (Q w))) a = qs_so s a := fun k => qs_so_F (hf k) (fun j hj => by omega)
  have hpk : ∀ k, qP_pl (qb_wr s 126 0 k (fun w => nI (Q w))) 67 nw nm lo hi := fun k => hp.mv (hf k) (by decide) (by decide) (by decide)
  intro n
  induction n with
  | zero =>
    intro w hw
    have hw : w = nw := by omega
    subst hw
    refine go_ild_10_8 rfl ?_
    refine go_ald_10_0 rfl ?_
    refine go_getr rfl ⟨_, rfl, rfl, by decide, by decide⟩ ?_
    refine go_geti rfl ⟨_, rfl, rfl, by decide, by decide⟩ ?_
    rw [show (qb_wr s 126 0 w (fun w => nI (Q w))).1 67 5 = nI w from ((hf w).i (by decide)).trans p1]
    refine go_icge rfl (fun e => ?_) (fun e => ?_)
    · exact hR
    · exact absurd (Int32.le_refl _) e
  | succ n ih =>
    intro w hw
    have ih := ih (w + 1) (by omega)
    refine go_ild_10_8 rfl ?_
    refine go_ald_10_0 rfl ?_
    refine go_getr rfl ⟨_, rfl, rfl, by decide, by decide⟩ ?_
    refine go_geti rfl ⟨_, rfl, rfl, by decide, by decide⟩ ?_
    rw [show (qb_wr s 126 0 w (fun w => nI (Q w))).1 67 5 = nI nw from ((hf w).i (by decide)).trans p1]
    refine go_icge rfl (fun e => ?_) (fun e => ?_)
    · exact absurd e (nI_ge (by omega) (by omega))
    · refine go_ald_10_0 rfl ?_
      refine go_getr rfl ⟨_, rfl, rfl, by decide, by decide⟩ ?_
      refine go_ild_10_8 rfl ?_
      refine go_ald_10_1 rfl ?_
      refine go_ild_10_8 rfl ?_
      refine go_call2 rfl (sp_isUp (d + 1) _ c hS w (by omega)) (Nat.le_of_ble_eq_true rfl) (qS_v hS) ?_
      rw [hso]
      refine go_ifeq rfl (fun e1 => ?_) (fun e1 => ?_)
      · have e1 := qB_0.mp e1
        obtain ⟨g1, g2, g3, g4⟩ := h2 w (by omega) e1
        rw [g2, g3, g4] at ih
        refine go_c rfl ?_
        refine go_iast (j := w) rfl (⟨rfl, by decide, by decide, by decide⟩) (rfl) (by omega) ?_
        rw [qb_wr_s (j := w) (n := w) (g := fun w => nI (Q w)) (by omega) (show (0 : Int32) = nI (Q w) by rw [g1]; rfl)]
        refine go_ald_10_1 rfl ?_
        refine go_ild_10_8 rfl ?_
        refine go_call2 rfl (sp_isUp (d + 1) _ c hS w (by omega)) (Nat.le_of_ble_eq_true rfl) (qS_v hS) ?_
        rw [hso]
        refine go_ifeq rfl (fun e2 => ?_) (fun e2 => ?_)
        · refine go_inc_10_8 rfl rfl ?_
          refine go_goto rfl ?_
          rw [nI_1]
          exact ih
        · exact absurd (qB_f e1) e2
      · have e1 : qs_on (qs_so s a) w = true := Classical.byContradiction fun z => e1 (qB_f z)
        obtain ⟨g1, g2, g3, g4, g5, g6, g7, g8⟩ := h1 w (by omega) e1
        refine go_ald_10_0 rfl ?_
        refine go_ald_10_1 rfl ?_
        refine go_geti rfl (qS_f hS rfl) ?_
        rw [show (qb_wr s 126 0 w (fun w => nI (Q w))).1 a 5 = nI X from ((hf w).i (by omega)).trans hX]
        refine go_ild_10_8 rfl ?_
        refine go_call3 rfl (sp_switchesOf d _ c (hpk w) X w hX3 (by omega)) (Nat.le_of_ble_eq_true rfl) (qb_qv rfl (by decide) (by decide)) ?_
        refine go_goto rfl ?_
        rw [← g1]
        refine go_iast (j := w) rfl (⟨rfl, by decide, by decide, by decide⟩) (rfl) (by omega) ?_
        rw [qb_wr_s (j := w) (g := fun w => nI (Q w)) (by omega) rfl]
        refine go_ald_10_1 rfl ?_
        refine go_ild_10_8 rfl ?_
        refine go_call2 rfl (sp_isUp (d + 1) _ c hS w (by omega)) (Nat.le_of_ble_eq_true rfl) (qS_v hS) ?_
        rw [hso]
        refine go_ifeq rfl (fun e2 => ?_) (fun e2 => ?_)
        · exact absurd e1 (qB_0.mp e2)
        · have h28 : 2 ^ (4 * w) ≤ 2 ^ 28 := Nat.pow_le_pow_right (by decide) (by omega)
          have hO : O w * 2 ^ (4 * w) ≤ 7 * 2 ^ 28 := Nat.mul_le_mul (by omega) h28
          refine go_ild_10_6 rfl ?_
          refine go_c rfl ?_
          refine go_c rfl ?_
          refine go_ild_10_8 rfl ?_
          refine go_imul rfl ?_
          refine go_ishl rfl ?_
          refine go_ior rfl ?_
          rw [qx_four, show (15 : Int32) = nI 15 from rfl, qx_shl (by omega) (by omega), fa_or, ← g7]
          refine go_ist_10_6 rfl rfl ?_
          refine go_ild_10_7 rfl ?_
          refine go_ald_10_1 rfl ?_
          refine go_getr rfl (qS_f hS rfl) ?_
          refine go_ild_10_8 rfl ?_
          refine go_iald (j := w) rfl (hS.2.1.1) (rfl) (by omega) ?_
          refine go_c rfl ?_
          refine go_ild_10_8 rfl ?_
          refine go_imul rfl ?_
          refine go_ishl rfl ?_
          refine go_ior rfl ?_
          rw [show (qb_wr s 126 0 (w + 1) (fun w => nI (Q w))).1 (a + 1) w = nI (O w) from ((hf _).i (by omega)).trans g2, qx_four, qx_shl (by omega) (by omega), fa_or, ← g8]
          refine go_ist_10_7 rfl rfl ?_
          refine go_ild_10_4 rfl ?_
          by_cases hb : b = true
          · refine go_ifeq rfl (fun e3 => ?_) (fun e3 => ?_)
            · exact absurd hb (qB_0.mp e3)
            · refine go_ald_10_1 rfl ?_
              refine go_getr rfl (qS_f hS rfl) ?_
              refine go_ild_10_8 rfl ?_
              refine go_iald (j := w) rfl (hS.2.1.2.2.1) (rfl) (by omega) ?_
              refine go_ald_10_0 rfl ?_
              refine go_getr rfl ⟨_, rfl, rfl, by decide, by decide⟩ ?_
              refine go_geti rfl ⟨_, rfl, rfl, by decide, by decide⟩ ?_
              rw [show (qb_wr s 126 0 (w + 1) (fun w => nI (Q w))).1 (a + 3) w = nI (Sh w) from ((hf _).i (by omega)).trans g4, show (qb_wr s 126 0 (w + 1) (fun w => nI (Q w))).1 67 8 = nI V from ((hf _).i (by decide)).trans hV1]
              refine go_iclt rfl (fun e4 => ?_) (fun e4 => ?_)
              · rw [if_pos ⟨hb, (nI_ltI (by omega) (by omega)).mp e4⟩] at g6
                rw [g6] at ih
                refine go_inc_10_8 rfl rfl ?_
                refine go_goto rfl ?_
                rw [nI_1]
                exact ih
              · rw [if_neg (fun q => e4 (nI_lt q.2 (by omega)))] at g6
                rw [g6] at ih
                refine go_ild_10_5 rfl ?_
                refine go_ald_10_0 rfl ?_
                refine go_getr rfl ⟨_, rfl, rfl, by decide, by decide⟩ ?_
                refine go_ild_10_8 rfl ?_
                refine go_iald (j := w) rfl (⟨rfl, by decide, by decide, by decide⟩) (rfl) (by omega) ?_
                rw [show (qb_wr s 126 0 (w + 1) (fun w => nI (Q w))).1 126 w = nI (Q w) from by have := qb_wr_in (s := s) (a := 126) (i := 0) (n := w + 1) (k := w) (g := fun w => nI (Q w)) (by omega); rw [Nat.zero_add] at this; exact this]
                refine go_ior rfl ?_
                rw [fa_or]
                refine go_ist_10_5 rfl rfl ?_
                refine go_inc_10_8 rfl rfl ?_
                refine go_goto rfl ?_
                rw [nI_1]
                exact ih
          · refine go_ifeq rfl (fun e3 => ?_) (fun e3 => ?_)
            · rw [if_neg (fun q => hb q.1)] at g6
              rw [g6] at ih
              refine go_ild_10_5 rfl ?_
              refine go_ald_10_0 rfl ?_
              refine go_getr rfl ⟨_, rfl, rfl, by decide, by decide⟩ ?_
              refine go_ild_10_8 rfl ?_
              refine go_iald (j := w) rfl (⟨rfl, by decide, by decide, by decide⟩) (rfl) (by omega) ?_
              rw [show (qb_wr s 126 0 (w + 1) (fun w => nI (Q w))).1 126 w = nI (Q w) from by have := qb_wr_in (s := s) (a := 126) (i := 0) (n := w + 1) (k := w) (g := fun w => nI (Q w)) (by omega); rw [Nat.zero_add] at this; exact this]
              refine go_ior rfl ?_
              rw [fa_or]
              refine go_ist_10_5 rfl rfl ?_
              refine go_inc_10_8 rfl rfl ?_
              refine go_goto rfl ?_
              rw [nI_1]
              exact ih
            · exact absurd (qB_f hb) e3
theorem qm_yy_le {nm X F j : Nat} : qm_yy nm X F j ≤ 2 ^ nm := by
  unfold qm_yy
  split
  · exact Nat.le_of_lt qm_y_lt
  · exact Nat.le_refl _
theorem qk_p_s {lo hi : Nat → Nat} {nw nm X J : Nat} {f : Nat → Int32} {b : Bool} {V : Nat} {Sh : Nat → Nat} {i o : Nat} {f0 : Int32} {F j : Nat} (hF : qk_Fx lo hi nw nm X J f b V Sh = F) (hn : nm ≤ 10) (hX : X < 2 ^ nm) (hj : j < qm_N nm F) : qk_p lo hi nw nm X J f b V Sh i o f0 (qm_yy nm X F (j + 1)) = qk_g (qk_ok lo hi nw nm X f i o) (qk_ct lo hi nw nm X f) (qm_y nm X F j) (qk_p lo hi nw nm X J f b V Sh i o f0 (qm_yy nm X F j)) := by
  unfold qk_p
  rw [hF]
  exact qm_sw_s (by omega) hX hj
theorem qk_p_0 {lo hi : Nat → Nat} {nw nm X J : Nat} {f : Nat → Int32} {b : Bool} {V : Nat} {Sh : Nat → Nat} {i o : Nat} {f0 : Int32} {F : Nat} (hF : qk_Fx lo hi nw nm X J f b V Sh = F) (hn : nm ≤ 10) (hX : X < 2 ^ nm) : qk_p lo hi nw nm X J f b V Sh i o f0 (qm_yy nm X F 0) = (9, f0) := by
  unfold qk_p
  rw [hF]
  exact qm_sw_0 (by omega) hX
theorem qk_p_z {lo hi : Nat → Nat} {nw nm X J : Nat} {f : Nat → Int32} {b : Bool} {V : Nat} {Sh : Nat → Nat} {i o : Nat} {f0 : Int32} {F j : Nat} (hz : (qk_p lo hi nw nm X J f b V Sh i o f0 (qm_yy nm X F j)).1 = 0) : qk_p lo hi nw nm X J f b V Sh i o f0 (2 ^ nm) = qk_p lo hi nw nm X J f b V Sh i o f0 (qm_yy nm X F j) := by
  have hle := qm_yy_le (nm := nm) (X := X) (F := F) (j := j)
  generalize qm_yy nm X F j = y at hz hle
  generalize 2 ^ nm = T at hle
  obtain ⟨n, e⟩ := Nat.exists_eq_add_of_le hle
  subst e
  unfold qk_p at hz ⊢
  exact qk_fo_0 hz n
theorem qm_N_le {nm F : Nat} (hn : nm ≤ 10) : qm_N nm F ≤ 1024 := by
  have h10 : 2 ^ nm ≤ 2 ^ 10 := Nat.pow_le_pow_right (by decide) hn
  have h1 : qm_L nm F < 1024 := Nat.lt_of_lt_of_le (qm_ac_lt _ nm) h10
  have : 2 ^ qm_bc 32 (qm_L nm F) ≤ 2 ^ 10 := Nat.pow_le_pow_right (by decide) (qx_bcnt _ h1).2
  exact this
theorem qk_ok_iff {nw nm : Nat} {lo hi : Nat → Nat} (hok : qm_ok nw nm lo hi) {X : Nat} {f : Nat → Int32} {i o : Nat} (hi0 : i < nw) (ho : o < nw) (hni : ¬ qs_on f i = true) (Y : Nat) : qm_pk (qm_te lo hi Y nm nm) &&& qm_mk (fun w => decide (w = i) || decide (w < nw) && qs_on f w) = qm_wt (fun w => decide (w = i) || decide (w < nw) && qs_on f w) (fun w => if w = i then o else qm_wr lo hi X w nm) ↔ qk_ok lo hi nw nm X f i o Y = true := by
  have h3 := hok.1
  have hoo : ∀ w, w < 8 → (decide (w = i) || decide (w < nw) && qs_on f w) = true → (if w = i then o else qm_wr lo hi X w nm) < 8 := fun w hw hd => by
    split
    · omega
    · rename_i hne
      rw [Bool.or_eq_true, decide_eq_true_eq, Bool.and_eq_true, decide_eq_true_eq] at hd
      have := qm_wr_lt hok X (i := w) (by omega) nm (Nat.le_refl _)
      omega
  rw [qm_mk_eq (qm_te_lt hok Y nm (Nat.le_refl _)) hoo]
  unfold qk_ok
  rw [Bool.and_eq_true, decide_eq_true_eq, Bool.not_eq_true', ← Bool.not_eq_true, qm_any_t]
  constructor
  · intro h
    refine ⟨?_, ?_⟩
    · have := h i (by omega) (by simp)
      rw [if_pos rfl, qm_te_end] at this
      exact this
    · rintro ⟨w, hw, h2⟩
      rw [Bool.and_eq_true, decide_eq_true_eq] at h2
      have := h w (by omega) (by simp [hw, h2.1])
      rw [if_neg (fun z : w = i => hni (by rw [← z]; exact h2.1)), qm_te_end] at this
      exact h2.2 this
  · rintro ⟨h1, h2⟩ w hw hd
    rw [qm_te_end]
    split
    · rename_i e; rw [e]; exact h1
    · rename_i hne
      rw [Bool.or_eq_true, decide_eq_true_eq, Bool.and_eq_true, decide_eq_true_eq] at hd
      exact Classical.byContradiction fun z => h2 ⟨w, by omega, by rw [Bool.and_eq_true, decide_eq_true_eq]; exact ⟨(hd.resolve_left hne).2, z⟩⟩
theorem qk_ct_iff {nw nm : Nat} {lo hi : Nat → Nat} {X : Nat} {f : Nat → Int32} (Y : Nat) : fa_cnt (fun c => decide (qk_Q lo hi nm X f c &&& (X ^^^ Y) ≠ 0)) nw = qk_ct lo hi nw nm X f Y := fa_cnt_cong (fun w hw => by
  unfold qk_Q qm_ch
  by_cases e : qs_on f w = true
  · rw [if_pos e, e]; rfl
  · rw [if_neg e, eq_false_of_ne_true e, Nat.zero_and]; rfl)
theorem sp_seek (d : Nat) (s : qb_M) (c : Nat × Nat) {a : Nat} (hS : qS_sh a) (ha : a + 5 ≤ 125 ∨ 129 ≤ a) {nw nm : Nat} {lo hi : Nat → Nat} (hp : qP_pl s 67 nw nm lo hi) {V : Nat} (hV : s.1 67 8 = nI V ∧ V ≤ 9) {H X J : Nat} {Lf Sh : Nat → Nat} (hI : qs_in nw nm lo hi (qs_so s a) H X J Lf Sh) (i o : Nat) (hi0 : i < nw) (ho : o < nw) (hni : ¬ qs_on (qs_so s a) i = true) (b : Bool) : ∃ t, qe (d + 3) 62 [.ref 125, .ref a, .int (nI i), .int (nI o), .int (qB (b = true))] (qb_hp (s), 149, c) = some (some (.int (qB ((qk_p lo hi nw nm X J (qs_so s a) b V Sh i o (s.1 125 4) (2 ^ nm)).1 ≤ 8))), (qb_hp (t), 149, c)) ∧ t.1 125 5 = nI (qk_p lo hi nw nm X J (qs_so s a) b V Sh i o (s.1 125 4) (2 ^ nm)).1 ∧ t.1 125 4 = (qk_p lo hi nw nm X J (qs_so s a) b V Sh i o (s.1 125 4) (2 ^ nm)).2 ∧ (∀ w, w < nw → t.1 126 w = nI (qk_Q lo hi nm X (qs_so s a) w)) ∧ t.1 125 3 = s.1 125 3 ∧ qF (fun x => 125 ≤ x ∧ x ≤ 128) s t := by
  have hok := hp.ok
  obtain ⟨p1, p2, ⟨p3, p4, p5⟩, p6⟩ := id hp
  obtain ⟨hH, ⟨hX, hX2⟩, ⟨hJ, hJ2⟩, hW⟩ := hI
  have h10 : 2 ^ nm ≤ 2 ^ 10 := Nat.pow_le_pow_right (by decide) p5
  have hX3 : X < 1024 := by omega
  have hQ : ∀ w, qk_Q lo hi nm X (qs_so s a) w < 1024 := fun w => by
    unfold qk_Q
    split
    · exact Nat.lt_of_lt_of_le (qm_ac_lt _ nm) h10
    · decide
  have hX5 : s.1 a 5 = nI X := by rw [← qs_so_h (s := s) (a := a) (k := 1) (by decide)]; exact hX
  have hJ5 : s.1 a 6 = nI J := by rw [← qs_so_h (s := s) (a := a) (k := 2) (by decide)]; exact hJ
  obtain ⟨F, hF⟩ : ∃ F, qk_Fx lo hi nw nm X J (qs_so s a) b V Sh = F := ⟨_, rfl⟩
  obtain ⟨Q, hQe⟩ : ∃ Q, qk_Q lo hi nm X (qs_so s a) = Q := ⟨_, rfl⟩
  obtain ⟨q, hq⟩ : ∃ q : Nat → Nat × Int32, ∀ j, q j = qk_p lo hi nw nm X J (qs_so s a) b V Sh i o (s.1 125 4) (qm_yy nm X F j) := ⟨_, fun _ => rfl⟩
  have hqN : qk_p lo hi nw nm X J (qs_so s a) b V Sh i o (s.1 125 4) (2 ^ nm) = q (qm_N nm F) := by rw [hq, qm_sw_e]
  have hq0 := (hq 0).trans (qk_p_0 hF p5 hX2)
  have hct : ∀ Y, fa_cnt (fun c => decide (Q c &&& (X ^^^ Y) ≠ 0)) nw = qk_ct lo hi nw nm X (qs_so s a) Y := by rw [← hQe]; exact qk_ct_iff
  have hN := qm_N_le (nm := nm) (F := F) p5
  rw [hqN, hQe]
  rw [hQe] at hQ
  have hf1 : qF (fun x => 125 ≤ x ∧ x ≤ 128) s (qb_ui (qb_wr s 126 0 nw (fun w => nI (Q w))) 125 5 9) := (qF.rf.wr (by decide)).ui (by decide)
  obtain ⟨t, k1, k2, k3⟩ := sp_start d (qb_ui (qb_wr s 126 0 nw (fun w => nI (Q w))) 125 5 9) c (hp.mv hf1 (by decide) (by decide) (by decide)) X F hX2
  have hqs : ∀ j, j < qm_N nm F → q (j + 1) = qk_g (qk_ok lo hi nw nm X (qs_so s a) i o) (qk_ct lo hi nw nm X (qs_so s a)) (qm_y nm X F j) (q j) := fun j hj => by
    rw [hq, hq]
    exact qk_p_s hF p5 hX2 hj
  have hqz : ∀ j, j ≤ qm_N nm F → (q j).1 = 0 → q (qm_N nm F) = q j := fun j _ hz => by
    rw [← hqN, hq]
    rw [hq] at hz
    exact qk_p_z hz
  have hq9 : ∀ j, (q j).1 ≤ 9 := fun j => by rw [hq]; exact qk_p_le _
  have hFe : ∀ R, qa_lm (qe (d + 2)) (qa_cd qc_62) (144, [.ref 125, .ref a, .int (nI i), .int (nI o), .int (qB (b = true)), .int (nI F), .int (nI (qm_mk (fun w => decide (w = i) || decide (w < nw) && qs_on (qs_so s a) w))), .int (nI (qm_wt (fun w => decide (w = i) || decide (w < nw) && qs_on (qs_so s a) w) (fun w => if w = i then o else qm_wr lo hi X w nm))), .int (nI nw), .retAddr 0], [], (qb_hp (qb_wr s 126 0 nw (fun w => nI (Q w))), 149, c)) = R → qe (d + 3) 62 [.ref 125, .ref a, .int (nI i), .int (nI o), .int (qB (b = true))] (qb_hp (s), 149, c) = R := fun R hR => by
    refine (en_62 (d + 2) 125 a (nI i) (nI o) (qB (b = true)) _).trans ?_
    have h28 : 2 ^ (4 * i) ≤ 2 ^ 28 := Nat.pow_le_pow_right (by decide) (by omega)
    have hO : o * 2 ^ (4 * i) ≤ 7 * 2 ^ 28 := Nat.mul_le_mul (by omega) h28
    have hl := sp_seek1 d s c hS ha hp hV hX5 hX3 Q (fun w => qm_wr lo hi X w nm) Sh (qk_F J (fun c => qm_ac (qm_th lo hi X c) nm) (qk_fx (qs_so s a) b V Sh)) (fun k => qm_mk (fun w => decide (w = i) || decide (w < k) && qs_on (qs_so s a) w)) (fun k => qm_wt (fun w => decide (w = i) || decide (w < k) && qs_on (qs_so s a) w) (fun w => if w = i then o else qm_wr lo hi X w nm)) b (nI i) (nI o) (fun w hw hon => by
      obtain ⟨g1, g2, g3, g4⟩ := hW w (by omega) hon
      have hlt := qm_wr_lt hok X hw nm (Nat.le_refl _)
      have hwi : w ≠ i := fun z => hni (by rw [← z]; exact hon)
      have hE : ∀ x, x < 8 → (decide (x = i) || decide (x < w + 1) && qs_on (qs_so s a) x) = ((decide (x = i) || decide (x < w) && qs_on (qs_so s a) x) || decide (x = w)) := fun x hx => by
        by_cases e : x = w
        · subst e; simp [hon]
        · by_cases e2 : x < w
          · simp [e, e2, show x < w + 1 by omega]
          · simp [e, e2, show ¬ x < w + 1 by omega]
      refine ⟨by rw [← hQe]; exact if_pos hon, (qs_so_o (s := s) (a := a) (w := w) (by omega)).symm.trans g2, by omega, (qs_so_s (s := s) (a := a) (w := w) (by omega)).symm.trans g4.1, g4.2, ?_, (qm_mk_add (by omega) hE).symm, ?_⟩
      · rw [show Q w = qm_ac (qm_th lo hi X w) nm from by rw [← hQe]; exact if_pos hon]
        show (if qk_fx (qs_so s a) b V Sh w = true then _ else _) = _
        unfold qk_fx
        by_cases z : b = true ∧ Sh w < V
        · rw [if_pos z, if_neg]
          rw [hon, z.1, decide_eq_false (by omega)]
          decide
        · rw [if_neg z, if_pos]
          rw [hon]
          cases hb : b
          · rfl
          · rw [decide_eq_true (by rw [hb] at z; exact Nat.not_lt.mp (fun q => z ⟨rfl, q⟩))]; rfl
      · have := (qm_wt_add (o := fun w => if w = i then o else qm_wr lo hi X w nm) (c := w) (by omega) (by rw [if_neg hwi]; omega) hE).symm
        rw [if_neg hwi] at this
        exact this) (fun w hw hon => by
      have hE : (fun x => decide (x = i) || decide (x < w + 1) && qs_on (qs_so s a) x) = (fun x => decide (x = i) || decide (x < w) && qs_on (qs_so s a) x) := funext fun x => by
        by_cases e : x = w
        · subst e; simp [hon]
        · by_cases e2 : x < w
          · simp [e2, show x < w + 1 by omega]
          · simp [e2, show ¬ x < w + 1 by omega]
      refine ⟨by rw [← hQe]; exact if_neg hon, ?_, by rw [hE], by rw [hE]⟩
      show (if qk_fx (qs_so s a) b V Sh w = true then _ else _) = _
      rw [if_neg (fun z => hon (by unfold qk_fx at z; rw [Bool.and_eq_true] at z; exact z.1))]) R (by rw [show qk_F J (fun c => qm_ac (qm_th lo hi X c) nm) (qk_fx (qs_so s a) b V Sh) nw = F from hF]; exact hR) nw 0 (by omega)
    have e1 : (fun w => decide (w = i) || decide (w < 0) && qs_on (qs_so s a) w) = (fun w => decide (w = i)) := funext fun w => by simp
    have e2 : qm_mk (fun w => decide (w = i)) = 15 * 2 ^ (4 * i) := by
      have := qm_mk_add (D := fun _ => false) (E := fun w => decide (w = i)) (c := i) (by omega) (fun w _ => by simp)
      rw [qm_mk_0, Nat.zero_or] at this
      exact this.symm
    have e3 : qm_wt (fun w => decide (w = i)) (fun w => if w = i then o else qm_wr lo hi X w nm) = o * 2 ^ (4 * i) := by
      have := qm_wt_add (D := fun _ => false) (E := fun w => decide (w = i)) (o := fun w => if w = i then o else qm_wr lo hi X w nm) (c := i) (by omega) (by rw [if_pos rfl]; omega) (fun w _ => by simp)
      rw [qm_wt_0, Nat.zero_or, if_pos rfl] at this
      exact this.symm
    rw [qb_wr_0] at hl
    rw [e1, e2, e3] at hl
    refine go_ald_10_1 rfl ?_
    refine go_geti rfl (qS_f hS rfl) ?_
    rw [hJ5]
    refine go_ist_10_5 rfl rfl ?_
    refine go_c rfl ?_
    refine go_c rfl ?_
    refine go_ild_10_2 rfl ?_
    refine go_imul rfl ?_
    refine go_ishl rfl ?_
    rw [qx_four, show (15 : Int32) = nI 15 from rfl, qx_shl (by omega) (by omega)]
    refine go_ist_10_6 rfl rfl ?_
    refine go_ild_10_3 rfl ?_
    refine go_c rfl ?_
    refine go_ild_10_2 rfl ?_
    refine go_imul rfl ?_
    refine go_ishl rfl ?_
    rw [qx_four, qx_shl (by omega) (by omega)]
    refine go_ist_10_7 rfl rfl ?_
    refine go_c rfl ?_
    refine go_ist_10_8 rfl rfl ?_
    exact hl
  obtain ⟨u, m1, m2⟩ := sp_seek2 d s c hS ha hp (X := X) (F := F) (N := qm_N nm F) hX5 hX3 hN Q hQ (nI i) (nI o) (qB (b = true)) (nI F) (qm_mk (fun w => decide (w = i) || decide (w < nw) && qs_on (qs_so s a) w)) (qm_wt (fun w => decide (w = i) || decide (w < nw) && qs_on (qs_so s a) w) (fun w => if w = i then o else qm_wr lo hi X w nm)) (qm_ac_lt _ 32) (qm_ac_lt _ 32) q hq9 hqz (qk_ct lo hi nw nm X (qs_so s a)) (qk_ok lo hi nw nm X (qs_so s a) i o) hct (qk_ok_iff hok hi0 ho hni) hqs (qm_N nm F) 0 (Nat.zero_add _) t k2 (by rw [k3.i (by decide), hq0]; rfl) (by rw [k3.i (by decide), hq0]; rfl) (fun w hw => by
      rw [k3.i (by decide), qb_ui_1n (Or.inl (by decide))]
      have := qb_wr_in (s := s) (a := 126) (i := 0) (n := nw) (k := w) (g := fun w => nI (Q w)) hw
      rw [Nat.zero_add] at this
      exact this) (by rw [k3.i (by decide)]; rfl) (hf1.tr (k3.mo (fun x hx => by omega)))
  refine ⟨u, hFe _ ?_, m2⟩
  have hX6 : (qb_ui (qb_wr s 126 0 nw (fun w => nI (Q w))) 125 5 9).1 a 5 = nI X := (hf1.i (by omega)).trans hX5
  refine go_ald_10_0 rfl ?_
  refine go_c rfl ?_
  refine go_puti rfl ⟨_, rfl, rfl, by decide, by decide⟩ rfl rfl ?_
  refine go_ald_10_0 rfl ?_
  refine go_getr rfl ⟨_, rfl, rfl, by decide, by decide⟩ ?_
  refine go_ald_10_1 rfl ?_
  refine go_geti rfl (qS_f hS rfl) ?_
  rw [hX6]
  refine go_ild_10_5 rfl ?_
  refine go_call3 rfl (k1) (Nat.le_of_ble_eq_true rfl) (qb_qv rfl (by decide) (by decide)) ?_
  refine go_ist_10_8 rfl rfl ?_
  refine go_c rfl ?_
  refine go_ist_10_9 rfl rfl ?_
  exact m1

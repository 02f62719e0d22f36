/-! faulty, in both -/
def fy_s (X f : Nat) : Nat := if f = 10 then X else X ^^^ 2 ^ f
theorem fy_s_lt {X f : Nat} (hX : X < 1024) (hf : f ≤ 10) : fy_s X f < 1024 := by
  unfold fy_s
  split
  · exact hX
  · have h : 2 ^ f < 2 ^ 10 := Nat.pow_lt_pow_right (by decide) (by omega)
    exact Nat.xor_lt_two_pow (n := 10) hX h
def fy_ex (lo hi : Nat → Nat) (nm : Nat) (B : Nat → Nat) (h Y : Nat) : Bool := !qm_any (fun i => decide (qm_wr lo hi Y (B (2 * i)) nm ≠ B (2 * i + 1))) h
theorem fy_ex_iff {lo hi : Nat → Nat} {nm : Nat} {B : Nat → Nat} {h Y : Nat} : fy_ex lo hi nm B h Y = true ↔ ∀ i, i < h → qm_wr lo hi Y (B (2 * i)) nm = B (2 * i + 1) := by
  unfold fy_ex
  rw [Bool.not_eq_true', Bool.eq_false_iff, Ne, qm_any_t]
  constructor
  · intro q i hi
    exact Classical.byContradiction fun z => q ⟨i, hi, decide_eq_true z⟩
  · rintro q ⟨i, hi, z⟩
    rw [decide_eq_true_eq] at z
    exact z (q i hi)
def fy_p (lo hi : Nat → Nat) (nm X : Nat) (B : Nat → Nat) (h f : Nat) : Bool := (decide (f < nm) || decide (f = 10)) && fy_ex lo hi nm B h (fy_s X f)
/-- how many are left where o came, and the most so far -/
def fy_L (lo hi : Nat → Nat) (nm X S i o : Nat) : Nat → Nat := fa_cnt (fun g => S.testBit g && decide (qm_wr lo hi (fy_s X g) i nm = o))
def fy_M (lo hi : Nat → Nat) (nm X S i : Nat) : Nat → Nat
  | 0 => 0
  | f + 1 => if S.testBit f = true then (if fy_M lo hi nm X S i f < fy_L lo hi nm X S i (qm_wr lo hi (fy_s X f) i nm) (f + 1) then fy_L lo hi nm X S i (qm_wr lo hi (fy_s X f) i nm) (f + 1) else fy_M lo hi nm X S i f) else fy_M lo hi nm X S i f
theorem fy_L_le {lo hi : Nat → Nat} {nm X S i o f : Nat} : fy_L lo hi nm X S i o f ≤ f := fa_cnt_le _ _
theorem fy_M_le {lo hi : Nat → Nat} {nm X S i : Nat} : ∀ f, fy_M lo hi nm X S i f ≤ f
  | 0 => Nat.le_refl _
  | f + 1 => by
    have h1 := fy_M_le (lo := lo) (hi := hi) (nm := nm) (X := X) (S := S) (i := i) f
    have h2 := fy_L_le (lo := lo) (hi := hi) (nm := nm) (X := X) (S := S) (i := i) (o := qm_wr lo hi (fy_s X f) i nm) (f := f + 1)
    unfold fy_M
    split
    · split <;> omega
    · omega
theorem fy_L_y {lo hi : Nat → Nat} {nm X S i f : Nat} (hb : S.testBit f = true) (o : Nat) : fy_L lo hi nm X S i o (f + 1) = if o = qm_wr lo hi (fy_s X f) i nm then fy_L lo hi nm X S i o f + 1 else fy_L lo hi nm X S i o f := by
  unfold fy_L
  by_cases e : o = qm_wr lo hi (fy_s X f) i nm
  · rw [if_pos e, fa_cnt_yes (p := fun g => S.testBit g && decide (qm_wr lo hi (fy_s X g) i nm = o)) (by rw [hb, decide_eq_true e.symm]; rfl)]
  · rw [if_neg e, fa_cnt_no (p := fun g => S.testBit g && decide (qm_wr lo hi (fy_s X g) i nm = o)) (by rw [decide_eq_false (fun z => e z.symm), Bool.and_false])]
theorem fy_L_n {lo hi : Nat → Nat} {nm X S i f : Nat} (hb : ¬ S.testBit f = true) (o : Nat) : fy_L lo hi nm X S i o (f + 1) = fy_L lo hi nm X S i o f := by
  unfold fy_L
  rw [fa_cnt_no (p := fun g => S.testBit g && decide (qm_wr lo hi (fy_s X g) i nm = o)) (by rw [eq_false_of_ne_true hb, Bool.false_and])]
theorem fy_M_y {lo hi : Nat → Nat} {nm X S i f : Nat} (hb : S.testBit f = true) : fy_M lo hi nm X S i (f + 1) = if fy_M lo hi nm X S i f < fy_L lo hi nm X S i (qm_wr lo hi (fy_s X f) i nm) (f + 1) then fy_L lo hi nm X S i (qm_wr lo hi (fy_s X f) i nm) (f + 1) else fy_M lo hi nm X S i f := if_pos hb
theorem fy_M_n {lo hi : Nat → Nat} {nm X S i f : Nat} (hb : ¬ S.testBit f = true) : fy_M lo hi nm X S i (f + 1) = fy_M lo hi nm X S i f := if_neg hb
def fy_t (m : Nat → Nat) : Nat → Nat
  | 0 => 0
  | k + 1 => if m (k + 1) < m (fy_t m k) then k + 1 else fy_t m k
theorem fy_t_le (m : Nat → Nat) : ∀ k, fy_t m k ≤ k
  | 0 => Nat.le_refl _
  | k + 1 => by
    have := fy_t_le m k
    unfold fy_t
    split <;> omega
theorem sp_settingBy (d : Nat) (s : qb_M) (c : Nat × Nat) {X : Nat} (hX : s.1 73 5 = nI X) (f : Nat) (hf : f ≤ 10) : qe (d + 1) 107 [.ref 73, .int (nI f)] (qb_hp (s), 149, c) = some (some (.int (nI (fy_s X f))), (qb_hp (s), 149, c)) := by
  have hS := qS_73
  refine (en_107 d 73 (nI f) _).trans ?_
  unfold fy_s
  refine go_ild_2_1 rfl ?_
  refine go_c rfl ?_
  refine go_icne rfl (fun e => ?_) (fun e => ?_)
  · have e := (nI_eq (b := 10) (by omega) (by decide)).mp e
    rw [if_pos e]
    refine go_ald_2_0 rfl ?_
    refine go_geti rfl (qS_f hS rfl) ?_
    refine go_goto rfl ?_
    rw [hX]
    exact fin_i rfl rfl rfl
  · rw [if_neg (fun z => e (by rw [z]; rfl))]
    refine go_ald_2_0 rfl ?_
    refine go_geti rfl (qS_f hS rfl) ?_
    refine go_c rfl ?_
    refine go_ild_2_1 rfl ?_
    refine go_ishl rfl ?_
    rw [hX, qx_1shl f (by omega)]
    refine go_ixor rfl ?_
    rw [fb_xorI]
    exact fin_i rfl rfl rfl
theorem sp_settingByM (d : Nat) (s : qb_M) (c : Nat × Nat) {X : Nat} (hX : s.1 194 31 = nI X) (f : Nat) (hf : f ≤ 10) : qe (d + 1) 250 [.ref 192, .int (nI f)] (qb_hp (s), 149, c) = some (some (.int (nI (fy_s X f))), (qb_hp (s), 149, c)) := by
  refine (en_250 d 192 (nI f) _).trans ?_
  unfold fy_s
  refine go_ild_2_1 rfl ?_
  refine go_c rfl ?_
  refine go_icne rfl (fun e => ?_) (fun e => ?_)
  · have e := (nI_eq (b := 10) (by omega) (by decide)).mp e
    rw [if_pos e]
    refine go_ald_2_0 rfl ?_
    refine go_getr rfl ⟨_, rfl, rfl, by decide, by decide⟩ ?_
    refine go_c rfl ?_
    refine go_iald (j := 31) rfl ⟨rfl, by decide, by decide, by decide⟩ rfl (by decide) ?_
    refine go_goto rfl ?_
    rw [hX]
    exact fin_i rfl rfl rfl
  · rw [if_neg (fun z => e (by rw [z]; rfl))]
    refine go_ald_2_0 rfl ?_
    refine go_getr rfl ⟨_, rfl, rfl, by decide, by decide⟩ ?_
    refine go_c rfl ?_
    refine go_iald (j := 31) rfl ⟨rfl, by decide, by decide, by decide⟩ rfl (by decide) ?_
    refine go_c rfl ?_
    refine go_ild_2_1 rfl ?_
    refine go_ishl rfl ?_
    rw [hX, qx_1shl f (by omega)]
    refine go_ixor rfl ?_
    rw [fb_xorI]
    exact fin_i rfl rfl rfl
theorem sp_explains (d : Nat) (s : qb_M) (c : Nat × Nat) {nw nm : Nat} {lo hi : Nat → Nat} (hp : qP_pl s 67 nw nm lo hi) {h : Nat} {B : Nat → Nat} (hn : s.1 65 1 = nI (2 * h)) (hh : h ≤ 8) (hB : ∀ k, k < 2 * h → s.1 66 k = nI (B k) ∧ B k < nw) (Y : Nat) (hY : Y < 1024) : qe (d + 4) 108 [.ref 129, .int (nI Y), .ref 65] (qb_hp (s), 149, c) = some (some (.int (qB (fy_ex lo hi nm B h Y = true))), (qb_hp (s), 149, c)) := by
  have hok := hp.ok
  have h8 := hok.1
  have loop : ∀ m i, i + m = h → (∀ j, j < i → qm_wr lo hi Y (B (2 * j)) nm = B (2 * j + 1)) → qa_lm (qe (d + 3)) (qa_cd qc_108) (2, [.ref 129, .int (nI Y), .ref 65, .int (nI (2 * i))], [], (qb_hp (s), 149, c)) = some (some (.int (qB (fy_ex lo hi nm B h Y = true))), (qb_hp (s), 149, c)) := by
    intro m
    induction m with
    | zero =>
      intro i hi0 hj
      have hi0 : i = h := by omega
      subst hi0
      refine go_ild_4_3 rfl ?_
      refine go_c rfl ?_
      refine go_iadd rfl ?_
      refine go_ald_4_2 rfl ?_
      refine go_geti rfl ⟨_, rfl, rfl, by decide, by decide⟩ ?_
      rw [nI_1, hn]
      refine go_icge rfl (fun e => ?_) (fun e => ?_)
      · refine go_c rfl ?_
        exact fin_i rfl rfl (qR_i (qB_t (fy_ex_iff.mpr hj)).symm)
      · exact absurd (nI_le (by omega) (by omega)) e
    | succ m ih =>
      intro i hi0 hj
      have ih := ih (i + 1) (by omega)
      obtain ⟨b1, b2⟩ := hB (2 * i) (by omega)
      obtain ⟨b3, b4⟩ := hB (2 * i + 1) (by omega)
      have hlt := qm_wr_lt hok Y b2 nm (Nat.le_refl _)
      refine go_ild_4_3 rfl ?_
      refine go_c rfl ?_
      refine go_iadd rfl ?_
      refine go_ald_4_2 rfl ?_
      refine go_geti rfl ⟨_, rfl, rfl, by decide, by decide⟩ ?_
      rw [nI_1, hn]
      refine go_icge rfl (fun e => ?_) (fun e => ?_)
      · exact absurd ((nI_leI (by omega) (by omega)).mp e) (by omega)
      · refine go_ald_4_0 rfl ?_
        refine go_getr rfl ⟨_, rfl, rfl, by decide, by decide⟩ ?_
        refine go_ild_4_1 rfl ?_
        refine go_ald_4_2 rfl ?_
        refine go_getr rfl ⟨_, rfl, rfl, by decide, by decide⟩ ?_
        refine go_ild_4_3 rfl ?_
        refine go_iald (j := 2 * i) rfl (⟨rfl, by decide, by decide, by decide⟩) (rfl) (by omega) ?_
        rw [b1]
        refine go_call3 rfl (sp_endOf d s c hp Y (B (2 * i)) hY b2) (Nat.le_of_ble_eq_true rfl) (qb_qv rfl (by decide) (by decide)) ?_
        refine go_ald_4_2 rfl ?_
        refine go_getr rfl ⟨_, rfl, rfl, by decide, by decide⟩ ?_
        refine go_ild_4_3 rfl ?_
        refine go_c rfl ?_
        refine go_iadd rfl ?_
        rw [nI_1]
        refine go_iald (j := 2 * i + 1) rfl (⟨rfl, by decide, by decide, by decide⟩) (rfl) (by omega) ?_
        rw [b3]
        refine go_iceq rfl (fun e2 => ?_) (fun e2 => ?_)
        · have e2 := (nI_eq (by omega) (by omega)).mp e2
          refine go_inc_4_3 rfl rfl ?_
          refine go_goto rfl ?_
          rw [show (2 : Int32) = nI 2 from rfl, nI_add, show 2 * i + 2 = 2 * (i + 1) by omega]
          exact ih (fun j hj2 => by
            by_cases q : j = i
            · subst q; exact e2
            · exact hj j (by omega))
        · have e2 : ¬ qm_wr lo hi Y (B (2 * i)) nm = B (2 * i + 1) := fun q => e2 (by rw [q])
          refine go_c rfl ?_
          exact fin_i rfl rfl (qR_i (qB_f (fun q => e2 (fy_ex_iff.mp q i (by omega)))).symm)
  refine (en_108 (d + 3) 129 (nI Y) 65 _).trans ?_
  refine go_c rfl ?_
  refine go_ist_4_3 rfl rfl ?_
  exact loop h 0 (by omega) (fun j hj => absurd hj (Nat.not_lt_zero j))
theorem sp_explainsM (d : Nat) (s : qb_M) (c : Nat × Nat) {nw nm : Nat} {lo hi : Nat → Nat} (hp : qm_pl s nw nm lo hi) {X h : Nat} {B : Nat → Nat} (hX : s.1 194 31 = nI X) (hX2 : X < 1024) (hh : h ≤ 8) (hB : ∀ k, k < 2 * h → s.1 193 k = nI (B k) ∧ B k < nw) (f : Nat) (hf : f ≤ 10) : qe (d + 5) 249 [.ref 192, .int (nI f), .int (nI (2 * h))] (qb_hp (s), 149, c) = some (some (.int (qB (fy_ex lo hi nm B h (fy_s X f) = true))), (qb_hp (s), 149, c)) := by
  have hok := hp.ok
  have h8 := hok.1
  have hY := fy_s_lt hX2 hf
  have loop : ∀ m i, i + m = h → (∀ j, j < i → qm_wr lo hi (fy_s X f) (B (2 * j)) nm = B (2 * j + 1)) → qa_lm (qe (d + 4)) (qa_cd qc_249) (2, [.ref 192, .int (nI f), .int (nI (2 * h)), .int (nI (2 * i))], [], (qb_hp (s), 149, c)) = some (some (.int (qB (fy_ex lo hi nm B h (fy_s X f) = true))), (qb_hp (s), 149, c)) := by
    intro m
    induction m with
    | zero =>
      intro i hi0 hj
      have hi0 : i = h := by omega
      subst hi0
      refine go_ild_4_3 rfl ?_
      refine go_ild_4_2 rfl ?_
      refine go_icge rfl (fun e => ?_) (fun e => ?_)
      · refine go_c rfl ?_
        exact fin_i rfl rfl (qR_i (qB_t (fy_ex_iff.mpr hj)).symm)
      · exact absurd (Int32.le_refl _) e
    | succ m ih =>
      intro i hi0 hj
      have ih := ih (i + 1) (by omega)
      obtain ⟨b1, b2⟩ := hB (2 * i) (by omega)
      obtain ⟨b3, b4⟩ := hB (2 * i + 1) (by omega)
      have hlt := qm_wr_lt hok (fy_s X f) b2 nm (Nat.le_refl _)
      refine go_ild_4_3 rfl ?_
      refine go_ild_4_2 rfl ?_
      refine go_icge rfl (fun e => ?_) (fun e => ?_)
      · exact absurd ((nI_leI (by omega) (by omega)).mp e) (by omega)
      · refine go_ald_4_0 rfl ?_
        refine go_ald_4_0 rfl ?_
        refine go_getr rfl ⟨_, rfl, rfl, by decide, by decide⟩ ?_
        refine go_ild_4_3 rfl ?_
        refine go_iald (j := 2 * i) rfl (⟨rfl, by decide, by decide, by decide⟩) (rfl) (by omega) ?_
        rw [b1]
        refine go_ald_4_0 rfl ?_
        refine go_ild_4_1 rfl ?_
        refine go_call2 rfl (sp_settingByM (d + 3) s c hX f hf) (Nat.le_of_ble_eq_true rfl) (qb_qv rfl (by decide) (by decide)) ?_
        refine go_call3 rfl (sp_outOf d s c hp (fy_s X f) (B (2 * i)) hY b2) (Nat.le_of_ble_eq_true rfl) (qb_qv rfl (by decide) (by decide)) ?_
        refine go_ald_4_0 rfl ?_
        refine go_getr rfl ⟨_, rfl, rfl, by decide, by decide⟩ ?_
        refine go_ild_4_3 rfl ?_
        refine go_c rfl ?_
        refine go_iadd rfl ?_
        rw [nI_1]
        refine go_iald (j := 2 * i + 1) rfl (⟨rfl, by decide, by decide, by decide⟩) (rfl) (by omega) ?_
        rw [b3]
        refine go_iceq rfl (fun e2 => ?_) (fun e2 => ?_)
        · have e2 := (nI_eq (by omega) (by omega)).mp e2
          refine go_inc_4_3 rfl rfl ?_
          refine go_goto rfl ?_
          rw [show (2 : Int32) = nI 2 from rfl, nI_add, show 2 * i + 2 = 2 * (i + 1) by omega]
          exact ih (fun j hj2 => by
            by_cases q : j = i
            · subst q; exact e2
            · exact hj j (by omega))
        · have e2 : ¬ qm_wr lo hi (fy_s X f) (B (2 * i)) nm = B (2 * i + 1) := fun q => e2 (by rw [q])
          refine go_c rfl ?_
          exact fin_i rfl rfl (qR_i (qB_f (fun q => e2 (fy_ex_iff.mp q i (by omega)))).symm)
  refine (en_249 (d + 4) 192 (nI f) (nI (2 * h)) _).trans ?_
  refine go_c rfl ?_
  refine go_ist_4_3 rfl rfl ?_
  exact loop h 0 (by omega) (fun j hj => absurd hj (Nat.not_lt_zero j))
theorem sp_mostLeft (d : Nat) (s : qb_M) (c : Nat × Nat) {nw nm : Nat} {lo hi : Nat → Nat} (hp : qP_pl s 67 nw nm lo hi) {X S i : Nat} (hX : s.1 73 5 = nI X) (hX2 : X < 1024) (hS2 : S < 2 ^ 11) (hi0 : i < nw) : ∃ t, qe (d + 4) 110 [.ref 129, .ref 73, .int (nI S), .int (nI i)] (qb_hp (s), 149, c) = some (some (.int (nI (fy_M lo hi nm X S i 11))), (qb_hp (t), 149, c)) ∧ qF (fun x => x = 132) s t := by
  have hok := hp.ok
  have h8 := hok.1
  have loop : ∀ m f (t : qb_M) l6, f + m = 11 → qF (fun x => x = 132) s t → (∀ o, o < 8 → t.1 132 o = nI (fy_L lo hi nm X S i o f)) → ∃ z, qa_lm (qe (d + 3)) (qa_cd qc_110) (14, [.ref 129, .ref 73, .int (nI S), .int (nI i), .int (nI (fy_M lo hi nm X S i f)), .int (nI f), l6], [], (qb_hp (t), 149, c)) = some (some (.int (nI (fy_M lo hi nm X S i 11))), (qb_hp (z), 149, c)) ∧ qF (fun x => x = 132) s z := by
    intro m
    induction m with
    | zero =>
      intro f t l6 hf hF hL
      have hf : f = 11 := by omega
      subst hf
      refine ⟨t, ?_, hF⟩
      refine go_ild_7_5 rfl ?_
      refine go_c rfl ?_
      refine go_icgt rfl (fun e => ?_) (fun e => ?_)
      · refine go_ild_7_4 rfl ?_
        exact fin_i rfl rfl rfl
      · exact absurd (by decide) e
    | succ m ih =>
      intro f t l6 hf hF hL
      have hpt : qP_pl t 67 nw nm lo hi := hp.mv hF (by decide) (by decide) (by decide)
      have hXt : t.1 73 5 = nI X := (hF.i (by decide)).trans hX
      have hbit := qx_bit (X := S) (k := f) (by omega) (by omega)
      have hY := fy_s_lt hX2 (f := f) (by omega)
      have hlt := qm_wr_lt hok (fy_s X f) hi0 nm (Nat.le_refl _)
      by_cases hb : S.testBit f = true
      · have hLo := hL (qm_wr lo hi (fy_s X f) i nm) (by omega)
        have hy := fy_L_y (lo := lo) (hi := hi) (nm := nm) (X := X) (i := i) hb (qm_wr lo hi (fy_s X f) i nm)
        rw [if_pos rfl] at hy
        have hM := fy_M_y (lo := lo) (hi := hi) (nm := nm) (X := X) (i := i) hb
        have hM9 := fy_M_le (lo := lo) (hi := hi) (nm := nm) (X := X) (S := S) (i := i) f
        have hL9 := fy_L_le (lo := lo) (hi := hi) (nm := nm) (X := X) (S := S) (i := i) (o := qm_wr lo hi (fy_s X f) i nm) (f := f + 1)
        obtain ⟨z, z1, z2⟩ := ih (f + 1) (qb_ui t 132 (qm_wr lo hi (fy_s X f) i nm) (nI (fy_L lo hi nm X S i (qm_wr lo hi (fy_s X f) i nm) (f + 1)))) (.int (nI (qm_wr lo hi (fy_s X f) i nm))) (by omega) (hF.ui rfl) (fun o ho => by
          by_cases e : o = qm_wr lo hi (fy_s X f) i nm
          · subst e
            exact qb_ui_1s
          · rw [qb_ui_1n (Or.inr e), hL o ho, fy_L_y hb, if_neg e])
        refine ⟨z, ?_, z2⟩
        have hmx : (if nI (fy_M lo hi nm X S i f) < nI (fy_L lo hi nm X S i (qm_wr lo hi (fy_s X f) i nm) (f + 1)) then nI (fy_L lo hi nm X S i (qm_wr lo hi (fy_s X f) i nm) (f + 1)) else nI (fy_M lo hi nm X S i f)) = nI (fy_M lo hi nm X S i (f + 1)) := by
          rw [hM]
          by_cases q : fy_M lo hi nm X S i f < fy_L lo hi nm X S i (qm_wr lo hi (fy_s X f) i nm) (f + 1)
          · rw [if_pos q, if_pos (nI_lt q (by omega))]
          · rw [if_neg q, if_neg (fun z => q ((nI_ltI (by omega) (by omega)).mp z))]
        refine go_ild_7_5 rfl ?_
        refine go_c rfl ?_
        refine go_icgt rfl (fun e => ?_) (fun e => ?_)
        · exact absurd e (Int32.not_lt.mpr (nI_le (b := 10) (by omega) (by decide)))
        · refine go_ild_7_2 rfl ?_
          refine go_ild_7_5 rfl ?_
          refine go_ishr rfl ?_
          refine go_c rfl ?_
          refine go_iand rfl ?_
          rw [hbit]
          refine go_ifeq rfl (fun e2 => ?_) (fun e2 => ?_)
          · exact absurd hb (qx_bit0.mp e2)
          · refine go_ald_7_0 rfl ?_
            refine go_getr rfl ⟨_, rfl, rfl, by decide, by decide⟩ ?_
            refine go_ald_7_1 rfl ?_
            refine go_ild_7_5 rfl ?_
            refine go_call2 rfl (sp_settingBy (d + 2) t c hXt f (by omega)) (Nat.le_of_ble_eq_true rfl) rfl ?_
            refine go_ild_7_3 rfl ?_
            refine go_call3 rfl (sp_endOf d t c hpt (fy_s X f) i hY hi0) (Nat.le_of_ble_eq_true rfl) (qb_qv rfl (by decide) (by decide)) ?_
            refine go_ist_7_6 rfl rfl ?_
            refine go_ald_7_0 rfl ?_
            refine go_getr rfl ⟨_, rfl, rfl, by decide, by decide⟩ ?_
            refine go_ild_7_6 rfl ?_
            refine go_dup2 rfl ?_
            refine go_iald (j := qm_wr lo hi (fy_s X f) i nm) rfl (⟨rfl, by decide, by decide, by decide⟩) (rfl) (by omega) ?_
            rw [hLo]
            refine go_c rfl ?_
            refine go_iadd rfl ?_
            rw [nI_1, ← hy]
            refine go_iast (j := qm_wr lo hi (fy_s X f) i nm) rfl (⟨rfl, by decide, by decide, by decide⟩) (rfl) (by omega) ?_
            refine go_ild_7_4 rfl ?_
            refine go_ald_7_0 rfl ?_
            refine go_getr rfl ⟨_, rfl, rfl, by decide, by decide⟩ ?_
            refine go_ild_7_6 rfl ?_
            refine go_iald (j := qm_wr lo hi (fy_s X f) i nm) rfl (⟨rfl, by decide, by decide, by decide⟩) (rfl) (by omega) ?_
            rw [qb_ui_1s]
            refine go_max rfl (Nat.le_of_ble_eq_true rfl) ?_
            rw [hmx]
            refine go_ist_7_4 rfl rfl ?_
            refine go_inc_7_5 rfl rfl ?_
            refine go_goto rfl ?_
            rw [nI_1]
            exact z1
      · obtain ⟨z, z1, z2⟩ := ih (f + 1) t l6 (by omega) hF (fun o ho => by rw [fy_L_n hb]; exact hL o ho)
        refine ⟨z, ?_, z2⟩
        rw [fy_M_n hb] at z1
        refine go_ild_7_5 rfl ?_
        refine go_c rfl ?_
        refine go_icgt rfl (fun e => ?_) (fun e => ?_)
        · exact absurd e (Int32.not_lt.mpr (nI_le (b := 10) (by omega) (by decide)))
        · refine go_ild_7_2 rfl ?_
          refine go_ild_7_5 rfl ?_
          refine go_ishr rfl ?_
          refine go_c rfl ?_
          refine go_iand rfl ?_
          rw [hbit]
          refine go_ifeq rfl (fun e2 => ?_) (fun e2 => ?_)
          · refine go_inc_7_5 rfl rfl ?_
            refine go_goto rfl ?_
            rw [nI_1]
            exact z1
          · exact absurd (qx_bit0.mpr hb) e2
  obtain ⟨z, z1, z2⟩ := loop 11 0 (qb_wr s 132 0 8 (fun _ => 0)) (.retAddr 0) (by omega) (qF.rf.wr rfl) (fun o ho => by
    have := qb_wr_in (s := s) (a := 132) (i := 0) (n := 8) (k := o) (g := fun _ => 0) ho
    rw [Nat.zero_add] at this
    exact this)
  refine ⟨z, ?_, z2⟩
  refine (en_110 (d + 3) 129 73 (nI S) (nI i) _).trans ?_
  refine go_ald_7_0 rfl ?_
  refine go_getr rfl ⟨_, rfl, rfl, by decide, by decide⟩ ?_
  refine go_c rfl ?_
  refine go_call2 rfl (sp_fill (d + 2) s c (a := 132) (N := 8) ⟨rfl, by decide, by decide, by decide⟩ 0) (Nat.le_of_ble_eq_true rfl) rfl ?_
  refine go_c rfl ?_
  refine go_ist_7_4 rfl rfl ?_
  refine go_c rfl ?_
  refine go_ist_7_5 rfl rfl ?_
  exact z1
theorem sp_leftBy (d : Nat) (s : qb_M) (c : Nat × Nat) {nw nm : Nat} {lo hi : Nat → Nat} (hp : qm_pl s nw nm lo hi) {X S i : Nat} (hX : s.1 194 31 = nI X) (hX2 : X < 1024) (hS2 : S < 2 ^ 11) (hi0 : i < nw) : ∃ t, qe (d + 5) 251 [.ref 192, .int (nI i), .int (nI S)] (qb_hp (s), 149, c) = some (some (.int (nI (fy_M lo hi nm X S i 11))), (qb_hp (t), 149, c)) ∧ qF (fun x => x = 207) s t := by
  have hok := hp.ok
  have h8 := hok.1
  have loop : ∀ m f (t : qb_M) l5, f + m = 11 → qF (fun x => x = 207) s t → (∀ o, o < 8 → t.1 207 o = nI (fy_L lo hi nm X S i o f)) → ∃ z, qa_lm (qe (d + 4)) (qa_cd qc_251) (26, [.ref 192, .int (nI i), .int (nI S), .int (nI (fy_M lo hi nm X S i f)), .int (nI f), l5], [], (qb_hp (t), 149, c)) = some (some (.int (nI (fy_M lo hi nm X S i 11))), (qb_hp (z), 149, c)) ∧ qF (fun x => x = 207) s z := by
    intro m
    induction m with
    | zero =>
      intro f t l5 hf hF hL
      have hf : f = 11 := by omega
      subst hf
      refine ⟨t, ?_, hF⟩
      refine go_ild_6_4 rfl ?_
      refine go_c rfl ?_
      refine go_icgt rfl (fun e => ?_) (fun e => ?_)
      · refine go_ild_6_3 rfl ?_
        exact fin_i rfl rfl rfl
      · exact absurd (by decide) e
    | succ m ih =>
      intro f t l5 hf hF hL
      have hpt : qm_pl t nw nm lo hi := hp.mv hF (by decide)
      have hXt : t.1 194 31 = nI X := (hF.i (by decide)).trans hX
      have hY := fy_s_lt hX2 (f := f) (by omega)
      have hlt := qm_wr_lt hok (fy_s X f) hi0 nm (Nat.le_refl _)
      by_cases hb : S.testBit f = true
      · have hLo := hL (qm_wr lo hi (fy_s X f) i nm) (by omega)
        have hy := fy_L_y (lo := lo) (hi := hi) (nm := nm) (X := X) (i := i) hb (qm_wr lo hi (fy_s X f) i nm)
        rw [if_pos rfl] at hy
        have hM := fy_M_y (lo := lo) (hi := hi) (nm := nm) (X := X) (i := i) hb
        have hM9 := fy_M_le (lo := lo) (hi := hi) (nm := nm) (X := X) (S := S) (i := i) f
        have hL9 := fy_L_le (lo := lo) (hi := hi) (nm := nm) (X := X) (S := S) (i := i) (o := qm_wr lo hi (fy_s X f) i nm) (f := f + 1)
        obtain ⟨z, z1, z2⟩ := ih (f + 1) (qb_ui t 207 (qm_wr lo hi (fy_s X f) i nm) (nI (fy_L lo hi nm X S i (qm_wr lo hi (fy_s X f) i nm) (f + 1)))) (.int (nI (qm_wr lo hi (fy_s X f) i nm))) (by omega) (hF.ui rfl) (fun o ho => by
          by_cases e : o = qm_wr lo hi (fy_s X f) i nm
          · subst e
            exact qb_ui_1s
          · rw [qb_ui_1n (Or.inr e), hL o ho, fy_L_y hb, if_neg e])
        refine ⟨z, ?_, z2⟩
        refine go_ild_6_4 rfl ?_
        refine go_c rfl ?_
        refine go_icgt rfl (fun e => ?_) (fun e => ?_)
        · exact absurd e (Int32.not_lt.mpr (nI_le (b := 10) (by omega) (by decide)))
        · refine go_ild_6_2 rfl ?_
          refine go_ild_6_4 rfl ?_
          refine go_call2 rfl (sp_has (d + 3) S f (by omega) (by omega) _) (Nat.le_of_ble_eq_true rfl) rfl ?_
          refine go_ifne rfl (fun e2 => ?_) (fun e2 => ?_)
          · exact absurd hb (qB_0.mp e2)
          · refine go_ald_6_0 rfl ?_
            refine go_ild_6_1 rfl ?_
            refine go_ald_6_0 rfl ?_
            refine go_ild_6_4 rfl ?_
            refine go_call2 rfl (sp_settingByM (d + 3) t c hXt f (by omega)) (Nat.le_of_ble_eq_true rfl) (qb_qv rfl (by decide) (by decide)) ?_
            refine go_call3 rfl (sp_outOf d t c hpt (fy_s X f) i hY hi0) (Nat.le_of_ble_eq_true rfl) (qb_qv rfl (by decide) (by decide)) ?_
            refine go_ist_6_5 rfl rfl ?_
            refine go_ald_6_0 rfl ?_
            refine go_getr rfl ⟨_, rfl, rfl, by decide, by decide⟩ ?_
            refine go_ild_6_5 rfl ?_
            refine go_dup2 rfl ?_
            refine go_iald (j := qm_wr lo hi (fy_s X f) i nm) rfl (⟨rfl, by decide, by decide, by decide⟩) (rfl) (by omega) ?_
            rw [hLo]
            refine go_c rfl ?_
            refine go_iadd rfl ?_
            rw [nI_1, ← hy]
            refine go_iast (j := qm_wr lo hi (fy_s X f) i nm) rfl (⟨rfl, by decide, by decide, by decide⟩) (rfl) (by omega) ?_
            refine go_ald_6_0 rfl ?_
            refine go_getr rfl ⟨_, rfl, rfl, by decide, by decide⟩ ?_
            refine go_ild_6_5 rfl ?_
            refine go_iald (j := qm_wr lo hi (fy_s X f) i nm) rfl (⟨rfl, by decide, by decide, by decide⟩) (rfl) (by omega) ?_
            refine go_ild_6_3 rfl ?_
            rw [qb_ui_1s]
            refine go_icle rfl (fun e3 => ?_) (fun e3 => ?_)
            · rw [hM, if_neg (fun q => absurd e3 (nI_ge q (by omega)))] at z1
              refine go_inc_6_4 rfl rfl ?_
              refine go_goto rfl ?_
              rw [nI_1]
              exact z1
            · rw [hM, if_pos ((nI_ltI (by omega) (by omega)).mp (Int32.not_le.mp e3))] at z1
              refine go_ald_6_0 rfl ?_
              refine go_getr rfl ⟨_, rfl, rfl, by decide, by decide⟩ ?_
              refine go_ild_6_5 rfl ?_
              refine go_iald (j := qm_wr lo hi (fy_s X f) i nm) rfl (⟨rfl, by decide, by decide, by decide⟩) (rfl) (by omega) ?_
              rw [qb_ui_1s]
              refine go_ist_6_3 rfl rfl ?_
              refine go_inc_6_4 rfl rfl ?_
              refine go_goto rfl ?_
              rw [nI_1]
              exact z1
      · obtain ⟨z, z1, z2⟩ := ih (f + 1) t l5 (by omega) hF (fun o ho => by rw [fy_L_n hb]; exact hL o ho)
        refine ⟨z, ?_, z2⟩
        rw [fy_M_n hb] at z1
        refine go_ild_6_4 rfl ?_
        refine go_c rfl ?_
        refine go_icgt rfl (fun e => ?_) (fun e => ?_)
        · exact absurd e (Int32.not_lt.mpr (nI_le (b := 10) (by omega) (by decide)))
        · refine go_ild_6_2 rfl ?_
          refine go_ild_6_4 rfl ?_
          refine go_call2 rfl (sp_has (d + 3) S f (by omega) (by omega) _) (Nat.le_of_ble_eq_true rfl) rfl ?_
          refine go_ifne rfl (fun e2 => ?_) (fun e2 => ?_)
          · refine go_goto rfl ?_
            refine go_inc_6_4 rfl rfl ?_
            refine go_goto rfl ?_
            rw [nI_1]
            exact z1
          · exact absurd (qB_f hb) e2
  obtain ⟨z, z1, z2⟩ := loop 11 0 (qb_wr s 207 0 8 (fun _ => 0)) (.retAddr 0) (by omega) (qF.rf.wr rfl) (fun o ho => by
    have := qb_wr_in (s := s) (a := 207) (i := 0) (n := 8) (k := o) (g := fun _ => 0) ho
    rw [Nat.zero_add] at this
    exact this)
  refine ⟨z, ?_, z2⟩
  have fill : ∀ m k, k + m = 8 → qa_lm (qe (d + 4)) (qa_cd qc_251) (2, [.ref 192, .int (nI i), .int (nI S), .int (nI k), .retAddr 0, .retAddr 0], [], (qb_hp (qb_wr s 207 0 k (fun _ => 0)), 149, c)) = some (some (.int (nI (fy_M lo hi nm X S i 11))), (qb_hp (z), 149, c)) := by
    intro m
    induction m with
    | zero =>
      intro k hk
      have hk : k = 8 := by omega
      subst hk
      refine go_ild_6_3 rfl ?_
      refine go_c rfl ?_
      refine go_icge rfl (fun e => ?_) (fun e => ?_)
      · refine go_c rfl ?_
        refine go_ist_6_3 rfl rfl ?_
        refine go_c rfl ?_
        refine go_ist_6_4 rfl rfl ?_
        exact z1
      · exact absurd (Int32.le_refl _) e
    | succ m ih =>
      intro k hk
      have ih := ih (k + 1) (by omega)
      refine go_ild_6_3 rfl ?_
      refine go_c rfl ?_
      refine go_icge rfl (fun e => ?_) (fun e => ?_)
      · exact absurd e (nI_ge (b := 8) (by omega) (by decide))
      · refine go_ald_6_0 rfl ?_
        refine go_getr rfl ⟨_, rfl, rfl, by decide, by decide⟩ ?_
        refine go_ild_6_3 rfl ?_
        refine go_c rfl ?_
        refine go_iast (j := k) rfl (⟨rfl, by decide, by decide, by decide⟩) (rfl) (by omega) ?_
        rw [qb_wr_s (j := k) (n := k) (g := fun _ => 0) (by omega) rfl]
        refine go_inc_6_3 rfl rfl ?_
        refine go_goto rfl ?_
        rw [nI_1]
        exact ih
  refine (en_251 (d + 4) 192 (nI i) (nI S) _).trans ?_
  refine go_c rfl ?_
  refine go_ist_6_3 rfl rfl ?_
  have := fill 8 0 (by omega)
  rw [qb_wr_0] at this
  exact this
theorem sp_bestTrial (d : Nat) (s : qb_M) (c : Nat × Nat) {nw nm : Nat} {lo hi : Nat → Nat} (hp : qP_pl s 67 nw nm lo hi) {X S : Nat} (hX : s.1 73 5 = nI X) (hX2 : X < 1024) (hS2 : S < 2 ^ 11) : ∃ t, qe (d + 5) 109 [.ref 129, .ref 73, .int (nI S)] (qb_hp (s), 149, c) = some (some (.int (nI (fy_t (fun i => fy_M lo hi nm X S i 11) (nw - 1)))), (qb_hp (t), 149, c)) ∧ qF (fun x => x = 132) s t := by
  obtain ⟨p1, p2, ⟨p3, p4, p5⟩, p6⟩ := id hp
  have hM9 : ∀ i, fy_M lo hi nm X S i 11 ≤ 11 := fun i => fy_M_le 11
  have loop : ∀ m k (t : qb_M) l6, k + 1 + m = nw → qF (fun x => x = 132) s t → ∃ z, qa_lm (qe (d + 4)) (qa_cd qc_109) (9, [.ref 129, .ref 73, .int (nI S), .int (nI (fy_M lo hi nm X S (fy_t (fun i => fy_M lo hi nm X S i 11) k) 11)), .int (nI (fy_t (fun i => fy_M lo hi nm X S i 11) k)), .int (nI (k + 1)), l6], [], (qb_hp (t), 149, c)) = some (some (.int (nI (fy_t (fun i => fy_M lo hi nm X S i 11) (nw - 1)))), (qb_hp (z), 149, c)) ∧ qF (fun x => x = 132) s z := by
    intro m
    induction m with
    | zero =>
      intro k t l6 hk hF
      have hk : nw = k + 1 := by omega
      refine ⟨t, ?_, hF⟩
      refine go_ild_7_5 rfl ?_
      refine go_ald_7_0 rfl ?_
      refine go_getr rfl ⟨_, rfl, rfl, by decide, by decide⟩ ?_
      refine go_geti rfl ⟨_, rfl, rfl, by decide, by decide⟩ ?_
      rw [show t.1 67 5 = nI nw from (hF.i (by decide)).trans p1]
      refine go_icge rfl (fun e => ?_) (fun e => ?_)
      · refine go_ild_7_4 rfl ?_
        rw [hk]
        exact fin_i rfl rfl rfl
      · exact absurd (by rw [hk]; exact Int32.le_refl _) e
    | succ m ih =>
      intro k t l6 hk hF
      have hpt : qP_pl t 67 nw nm lo hi := hp.mv hF (by decide) (by decide) (by decide)
      obtain ⟨v, v1, v2⟩ := sp_mostLeft d t c hpt (X := X) (S := S) (i := k + 1) ((hF.i (by decide)).trans hX) hX2 hS2 (by omega)
      obtain ⟨z, z1, z2⟩ := ih (k + 1) v (.int (nI (fy_M lo hi nm X S (k + 1) 11))) (by omega) (hF.tr v2)
      refine ⟨z, ?_, z2⟩
      have hs : fy_t (fun i => fy_M lo hi nm X S i 11) (k + 1) = if fy_M lo hi nm X S (k + 1) 11 < fy_M lo hi nm X S (fy_t (fun i => fy_M lo hi nm X S i 11) k) 11 then k + 1 else fy_t (fun i => fy_M lo hi nm X S i 11) k := rfl
      have a1 := hM9 (k + 1)
      have a2 := hM9 (fy_t (fun i => fy_M lo hi nm X S i 11) k)
      refine go_ild_7_5 rfl ?_
      refine go_ald_7_0 rfl ?_
      refine go_getr rfl ⟨_, rfl, rfl, by decide, by decide⟩ ?_
      refine go_geti rfl ⟨_, rfl, rfl, by decide, by decide⟩ ?_
      rw [show t.1 67 5 = nI nw from (hF.i (by decide)).trans p1]
      refine go_icge rfl (fun e => ?_) (fun e => ?_)
      · exact absurd e (nI_ge (by omega) (by omega))
      · refine go_ald_7_0 rfl ?_
        refine go_ald_7_1 rfl ?_
        refine go_ild_7_2 rfl ?_
        refine go_ild_7_5 rfl ?_
        refine go_call4 rfl (v1) (Nat.le_of_ble_eq_true rfl) (qb_qv rfl (by decide) (by decide)) ?_
        refine go_ist_7_6 rfl rfl ?_
        refine go_ild_7_6 rfl ?_
        refine go_ild_7_3 rfl ?_
        refine go_icge rfl (fun e2 => ?_) (fun e2 => ?_)
        · rw [hs, if_neg (fun q => absurd e2 (nI_ge q (by omega)))] at z1
          refine go_inc_7_5 rfl rfl ?_
          refine go_goto rfl ?_
          rw [nI_1]
          exact z1
        · rw [hs, if_pos ((nI_ltI (by omega) (by omega)).mp (Int32.not_le.mp e2))] at z1
          refine go_ild_7_6 rfl ?_
          refine go_ist_7_3 rfl rfl ?_
          refine go_ild_7_5 rfl ?_
          refine go_ist_7_4 rfl rfl ?_
          refine go_inc_7_5 rfl rfl ?_
          refine go_goto rfl ?_
          rw [nI_1]
          exact z1
  obtain ⟨v, v1, v2⟩ := sp_mostLeft d s c hp (X := X) (S := S) (i := 0) hX hX2 hS2 (by omega)
  obtain ⟨z, z1, z2⟩ := loop (nw - 1) 0 v (.int (nI (fy_M lo hi nm X S 0 11))) (by omega) v2
  refine ⟨z, ?_, z2⟩
  have a1 := hM9 0
  refine (en_109 (d + 4) 129 73 (nI S) _).trans ?_
  refine go_c rfl ?_
  refine go_ist_7_3 rfl rfl ?_
  refine go_c rfl ?_
  refine go_ist_7_4 rfl rfl ?_
  refine go_c rfl ?_
  refine go_ist_7_5 rfl rfl ?_
  refine go_ild_7_5 rfl ?_
  refine go_ald_7_0 rfl ?_
  refine go_getr rfl ⟨_, rfl, rfl, by decide, by decide⟩ ?_
  refine go_geti rfl ⟨_, rfl, rfl, by decide, by decide⟩ ?_
  rw [p1]
  refine go_icge rfl (fun e => ?_) (fun e => ?_)
  · exact absurd e (nI_ge (a := 0) (by omega) (by omega))
  · refine go_ald_7_0 rfl ?_
    refine go_ald_7_1 rfl ?_
    refine go_ild_7_2 rfl ?_
    refine go_ild_7_5 rfl ?_
    refine go_call4 rfl (v1) (Nat.le_of_ble_eq_true rfl) (qb_qv rfl (by decide) (by decide)) ?_
    refine go_ist_7_6 rfl rfl ?_
    refine go_ild_7_6 rfl ?_
    refine go_ild_7_3 rfl ?_
    refine go_icge rfl (fun e2 => ?_) (fun e2 => ?_)
    · exact absurd e2 (nI_ge (b := 12) (by omega) (by decide))
    · refine go_ild_7_6 rfl ?_
      refine go_ist_7_3 rfl rfl ?_
      refine go_ild_7_5 rfl ?_
      refine go_ist_7_4 rfl rfl ?_
      refine go_inc_7_5 rfl rfl ?_
      refine go_goto rfl ?_
      exact z1

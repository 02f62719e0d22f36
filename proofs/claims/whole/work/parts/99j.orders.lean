/-! orders: what is counted -/
def od_g (f : Nat → Nat) (Y : Nat) (ls : List Nat) : List Nat := if f Y ∈ ls then ls else f Y :: ls
theorem od_same {S : Nat → Bool} {f g : Nat → Nat} (h : ∀ Y Z, f Y = f Z ↔ g Y = g Z) : ∀ n, ∃ rs : List Nat, qm_fo S (od_g f) [] n = rs.map f ∧ qm_fo S (od_g g) [] n = rs.map g
  | 0 => ⟨[], rfl, rfl⟩
  | n + 1 => by
    obtain ⟨rs, h1, h2⟩ := od_same h n
    show ∃ rs : List Nat, (if S n = true then od_g f n (qm_fo S (od_g f) [] n) else qm_fo S (od_g f) [] n) = _ ∧ (if S n = true then od_g g n (qm_fo S (od_g g) [] n) else qm_fo S (od_g g) [] n) = _
    rw [h1, h2]
    by_cases hS : S n = true
    · rw [if_pos hS, if_pos hS]
      unfold od_g
      have e : f n ∈ rs.map f ↔ g n ∈ rs.map g := by
        rw [List.mem_map, List.mem_map]
        exact ⟨fun ⟨r, a, b⟩ => ⟨r, a, (h r n).mp b⟩, fun ⟨r, a, b⟩ => ⟨r, a, (h r n).mpr b⟩⟩
      by_cases hm : f n ∈ rs.map f
      · rw [if_pos hm, if_pos (e.mp hm)]
        exact ⟨rs, rfl, rfl⟩
      · rw [if_neg hm, if_neg (fun z => hm (e.mpr z))]
        exact ⟨n :: rs, rfl, rfl⟩
    · rw [if_neg hS, if_neg hS]
      exact ⟨rs, rfl, rfl⟩
theorem od_len {S : Nat → Bool} {f : Nat → Nat} : ∀ n, (qm_fo S (od_g f) [] n).length ≤ n
  | 0 => Nat.le_refl _
  | n + 1 => by
    have ih := od_len (S := S) (f := f) n
    show (if S n = true then od_g f n (qm_fo S (od_g f) [] n) else qm_fo S (od_g f) [] n).length ≤ _
    generalize qm_fo S (od_g f) [] n = ls at ih ⊢
    split
    · unfold od_g
      split
      · omega
      · rw [List.length_cons]; omega
    · omega
theorem od_all {S : Nat → Bool} {f : Nat → Nat} {P : Nat → Prop} (h : ∀ Y, P (f Y)) : ∀ n, ∀ x, x ∈ qm_fo S (od_g f) [] n → P x
  | 0, x, hx => absurd hx (by intro z; cases z)
  | n + 1, x, hx => by
    have ih := od_all (S := S) h n
    have hx : x ∈ (if S n = true then od_g f n (qm_fo S (od_g f) [] n) else qm_fo S (od_g f) [] n) := hx
    split at hx
    · unfold od_g at hx
      split at hx
      · exact ih x hx
      · rcases List.mem_cons.mp hx with e | e
        · rw [e]; exact h n
        · exact ih x e
    · exact ih x hx
/-- a wire's end tells the wire -/
theorem qm_bh_inj {lo hi : Nat → Nat} {b : Bool} {k v w : Nat} (hk : lo k < hi k) (h : qm_bh lo hi b k v = qm_bh lo hi b k w) : v = w := by
  unfold qm_bh at h
  cases b with
  | false => exact h
  | true =>
    rw [if_pos rfl, if_pos rfl] at h
    split at h
    · split at h
      · omega
      · split at h <;> omega
    · split at h
      · split at h
        · omega
        · split at h <;> omega
      · split at h
        · omega
        · split at h <;> omega
theorem qm_te_inj {nw nm : Nat} {lo hi : Nat → Nat} (h : qm_ok nw nm lo hi) (Y : Nat) : ∀ r, r ≤ nm → ∀ v w, qm_te lo hi Y nm r v = qm_te lo hi Y nm r w → v = w
  | 0, _, _, _, e => e
  | r + 1, hr, v, w, e => qm_bh_inj (h.2 (nm - 1 - r) (by omega)).1 (qm_te_inj h Y r (by omega) _ _ e)
theorem qm_te_out {nw nm : Nat} {lo hi : Nat → Nat} (h : qm_ok nw nm lo hi) (Y : Nat) : ∀ r, r ≤ nm → ∀ w, nw ≤ w → qm_te lo hi Y nm r w = w
  | 0, _, _, _ => rfl
  | r + 1, hr, w, hw => by
    have h4 := h.2 (nm - 1 - r) (by omega)
    show qm_te lo hi Y nm r (qm_bh lo hi (Y.testBit (nm - 1 - r)) (nm - 1 - r) w) = w
    rw [qm_bh_off (by omega)]
    exact qm_te_out h Y r (by omega) w hw
/-- the order as the reference writes it -/
def od_m (lo hi : Nat → Nat) (nm Y : Nat) : Nat → Nat
  | 0 => 0
  | w + 1 => od_m lo hi nm Y w * 8 + qm_wr lo hi Y w nm
theorem od_m_lt {lo hi : Nat → Nat} {nm Y : Nat} : ∀ w, (∀ i, i < w → qm_wr lo hi Y i nm < 8) → od_m lo hi nm Y w < 8 ^ w
  | 0, _ => by show 0 < 1; decide
  | w + 1, h => by
    have h1 := od_m_lt w (fun i hi => h i (by omega))
    have h2 := h w (by omega)
    show od_m lo hi nm Y w * 8 + qm_wr lo hi Y w nm < 8 ^ w * 8
    omega
theorem od_m_inj {lo hi : Nat → Nat} {nm Y Z : Nat} : ∀ w, (∀ i, i < w → qm_wr lo hi Y i nm < 8) → (∀ i, i < w → qm_wr lo hi Z i nm < 8) → (od_m lo hi nm Y w = od_m lo hi nm Z w ↔ ∀ i, i < w → qm_wr lo hi Y i nm = qm_wr lo hi Z i nm)
  | 0, _, _ => ⟨fun _ i hi => absurd hi (Nat.not_lt_zero i), fun _ => rfl⟩
  | w + 1, h1, h2 => by
    have ih := od_m_inj w (fun i hi => h1 i (by omega)) (fun i hi => h2 i (by omega))
    have a := h1 w (by omega)
    have b := h2 w (by omega)
    show od_m lo hi nm Y w * 8 + qm_wr lo hi Y w nm = od_m lo hi nm Z w * 8 + qm_wr lo hi Z w nm ↔ _
    constructor
    · intro e i hi9
      have e1 : od_m lo hi nm Y w = od_m lo hi nm Z w := by omega
      by_cases hw : i = w
      · subst hw; omega
      · exact ih.mp e1 i (by omega)
    · intro e
      have e1 := ih.mpr (fun i hi => e i (by omega))
      have e2 := e w (by omega)
      omega
theorem od_both {nw nm : Nat} {lo hi : Nat → Nat} (h : qm_ok nw nm lo hi) (Y Z : Nat) : qm_pk (qm_te lo hi Y nm nm) = qm_pk (qm_te lo hi Z nm nm) ↔ od_m lo hi nm Y nw = od_m lo hi nm Z nw := by
  have h8 : ∀ X i, i < nw → qm_wr lo hi X i nm < 8 := fun X i hi => Nat.lt_of_lt_of_le (qm_wr_lt h X hi nm (Nat.le_refl _)) h.1.2.1
  rw [od_m_inj nw (h8 Y) (h8 Z)]
  constructor
  · intro e i hi
    have := qm_pk_inj (fun w hw => qm_te_lt h Y nm (Nat.le_refl _) w hw) (fun w hw => qm_te_lt h Z nm (Nat.le_refl _) w hw) e i (Nat.lt_of_lt_of_le hi h.1.2.1)
    rw [qm_te_end, qm_te_end] at this
    exact this
  · intro e
    refine qm_pk_cong (fun w hw => ?_)
    by_cases hn : w < nw
    · rw [qm_te_end, qm_te_end]
      exact e w hn
    · rw [qm_te_out h Y nm (Nat.le_refl _) w (by omega), qm_te_out h Z nm (Nat.le_refl _) w (by omega)]
theorem od_pos {nw nm : Nat} {lo hi : Nat → Nat} (h : qm_ok nw nm lo hi) (Y : Nat) : 0 < qm_pk (qm_te lo hi Y nm nm) ∧ qm_pk (qm_te lo hi Y nm nm) < 2 ^ 31 := by
  refine ⟨Nat.pos_of_ne_zero (fun e => ?_), qm_pk_lt (qm_te_lt h Y nm (Nat.le_refl _) 7 (by decide))⟩
  have e0 : qm_pk (fun _ => 0) = 0 := by decide +kernel
  have hz := qm_pk_inj (fun w hw => qm_te_lt h Y nm (Nat.le_refl _) w hw) (fun _ _ => by decide) (e.trans e0.symm)
  have := qm_te_inj h Y nm (Nat.le_refl _) 0 1 ((hz 0 (by decide)).trans (hz 1 (by decide)).symm)
  exact absurd this (by decide)
/-! rooms: an order's room is found, or an empty one -/
def hs_h (x : Nat) : Nat := (nI x * (-1640531535)).toBitVec.toNat / 2 ^ 21
theorem hs_h_lt (x : Nat) : hs_h x < 2048 := by
  unfold hs_h
  have := (nI x * (-1640531535)).toBitVec.isLt
  omega
theorem hs_h_eq (x : Nat) : ((nI x * (-1640531535)).toUInt32 >>> ((21 : Int32).toUInt32 &&& Int32.toUInt32 31)).toInt32 = nI (hs_h x) := by
  obtain ⟨e1, e2⟩ := qx_nI (nI x * (-1640531535))
  have := qx_ushr (n := (nI x * (-1640531535)).toBitVec.toNat) (k := 21) e2 (by decide)
  rw [← e1] at this
  exact this
def hs_I (r : Nat → Int32) (ls : List Nat) : Prop := (∀ k, k < 2048 → r k ≠ 0 → ∃ x, x ∈ ls ∧ r k = nI x) ∧ (∀ x, x ∈ ls → ∃ t, t < 2048 ∧ r ((hs_h x + t) % 2048) = nI x ∧ ∀ t', t' < t → r ((hs_h x + t') % 2048) ≠ 0) ∧ fa_cnt (fun k => decide (r k ≠ 0)) 2048 = ls.length
theorem hs_I_0 {r : Nat → Int32} (h : ∀ k, k < 2048 → r k = 0) : hs_I r [] := ⟨fun k hk z => absurd (h k hk) z, fun x hx => (by cases hx), fa_cnt_0 (fun k hk z => absurd (h k hk) (of_decide_eq_true z))⟩
theorem hs_empty {r : Nat → Int32} {ls : List Nat} (h : hs_I r ls) (hl : ls.length ≤ 1024) (a : Nat) (ha : a < 2048) : ∃ t, t < 2048 ∧ r ((a + t) % 2048) = 0 := Classical.byContradiction fun hn => by
  have all : ∀ k, k < 2048 → decide (r k ≠ 0) = true := fun k hk => decide_eq_true (fun e => hn ⟨(k + 2048 - a) % 2048, Nat.mod_lt _ (by decide), by rw [show (a + (k + 2048 - a) % 2048) % 2048 = k by omega]; exact e⟩)
  have h3 := h.2.2
  rw [fa_cnt_all all] at h3
  omega
theorem fa_cnt_one {p q : Nat → Bool} {R : Nat} (hR : p R = false) (hq : q R = true) (ho : ∀ k, k ≠ R → q k = p k) : ∀ n, fa_cnt q n = fa_cnt p n + (if R < n then 1 else 0)
  | 0 => by rw [if_neg (Nat.not_lt_zero R)]; rfl
  | n + 1 => by
    have ih := fa_cnt_one hR hq ho n
    by_cases e : n = R
    · subst e
      rw [fa_cnt_yes hq, fa_cnt_no hR, ih, if_neg (Nat.lt_irrefl _), if_pos (Nat.lt_succ_self _)]
    · have hn := ho n e
      have hx : (if R < n + 1 then 1 else 0 : Nat) = (if R < n then 1 else 0) := by
        by_cases hl : R < n
        · rw [if_pos hl, if_pos (by omega)]
        · rw [if_neg hl, if_neg (by omega)]
      rw [hx]
      cases hp : p n with
      | true => rw [fa_cnt_yes hp, fa_cnt_yes (hn.trans hp), ih]; omega
      | false => rw [fa_cnt_no hp, fa_cnt_no (hn.trans hp), ih]
theorem hs_find {r : Nat → Int32} {ls : List Nat} (h : hs_I r ls) (hl : ls.length ≤ 1024) (hls : ∀ y, y ∈ ls → 0 < y ∧ y < 2 ^ 31) {x : Nat} (hx : 0 < x ∧ x < 2 ^ 31) : ∃ T, T < 2048 ∧ (∀ t, t < T → r ((hs_h x + t) % 2048) ≠ 0 ∧ r ((hs_h x + t) % 2048) ≠ nI x) ∧ ((x ∈ ls ∧ r ((hs_h x + T) % 2048) = nI x) ∨ (x ∉ ls ∧ r ((hs_h x + T) % 2048) = 0 ∧ ∀ r' : Nat → Int32, r' ((hs_h x + T) % 2048) = nI x → (∀ k, k ≠ (hs_h x + T) % 2048 → r' k = r k) → hs_I r' (x :: ls))) := by
  obtain ⟨t0, t1, t2⟩ := hs_empty h hl (hs_h x) (hs_h_lt x)
  obtain ⟨T, hT, hm⟩ := pk_least (fun t => r ((hs_h x + t) % 2048) = 0 ∨ r ((hs_h x + t) % 2048) = nI x) ⟨t0, Or.inl t2⟩
  have hT0 : T ≤ t0 := Classical.byContradiction fun z => hm t0 (by omega) (Or.inl t2)
  have hx0 : nI x ≠ 0 := nI_ne0 hx.1 hx.2
  obtain ⟨h1, h2, h3⟩ := id h
  have hR : (hs_h x + T) % 2048 < 2048 := Nat.mod_lt _ (by decide)
  refine ⟨T, by omega, fun t ht => ⟨fun e => hm t ht (Or.inl e), fun e => hm t ht (Or.inr e)⟩, ?_⟩
  by_cases hf : r ((hs_h x + T) % 2048) = nI x
  · obtain ⟨y, y1, y2⟩ := h1 _ hR (by rw [hf]; exact hx0)
    have e : x = y := (nI_eq hx.2 (hls y y1).2).mp (hf.symm.trans y2)
    exact Or.inl ⟨by rw [e]; exact y1, hf⟩
  · have hz : r ((hs_h x + T) % 2048) = 0 := hT.resolve_right hf
    refine Or.inr ⟨fun hxl => ?_, hz, fun r' e1 e2 => ⟨fun k hk hk0 => ?_, fun y hy => ?_, ?_⟩⟩
    · obtain ⟨t, a1, a2, a3⟩ := h2 x hxl
      have htT : T ≤ t := Classical.byContradiction fun z => hm t (by omega) (Or.inr a2)
      by_cases e : T = t
      · subst e; exact hf a2
      · exact a3 T (by omega) hz
    · by_cases e : k = (hs_h x + T) % 2048
      · exact ⟨x, List.mem_cons_self, by rw [e, e1]⟩
      · rw [e2 k e] at hk0 ⊢
        obtain ⟨y, y1, y2⟩ := h1 k hk hk0
        exact ⟨y, List.mem_cons_of_mem _ y1, y2⟩
    · have up : ∀ k, r k ≠ 0 → r' k ≠ 0 := fun k hk => by
        by_cases e : k = (hs_h x + T) % 2048
        · rw [e, e1]; exact hx0
        · rw [e2 k e]; exact hk
      by_cases hyx : y = x
      · subst hyx
        exact ⟨T, by omega, e1, fun t' ht' => up _ (fun e => hm t' ht' (Or.inl e))⟩
      · have hy : y ∈ ls := (List.mem_cons.mp hy).resolve_left hyx
        obtain ⟨t, a1, a2, a3⟩ := h2 y hy
        refine ⟨t, a1, ?_, fun t' ht' => up _ (a3 t' ht')⟩
        rw [e2 _ (fun e => ?_)]
        · exact a2
        · rw [e, hz] at a2
          exact nI_ne0 (hls y hy).1 (hls y hy).2 a2.symm
    · rw [fa_cnt_one (p := fun k => decide (r k ≠ 0)) (R := (hs_h x + T) % 2048) (decide_eq_false (fun z => z hz)) (decide_eq_true (by rw [e1]; exact hx0)) (fun k hk => by rw [e2 k hk]) 2048, h3, if_pos hR, List.length_cons]
theorem sp_isNewC (d : Nat) (s : qb_M) (c : Nat × Nat) {ls : List Nat} (h : hs_I (s.1 130) ls) (hl : ls.length ≤ 1024) (hls : ∀ y, y ∈ ls → 0 < y ∧ y < 2 ^ 31) {x : Nat} (hx : 0 < x ∧ x < 2 ^ 31) : ∃ t, qe (d + 1) 96 [.ref 129, .int (nI x)] (qb_hp (s), 149, c) = some (some (.int (if x ∈ ls then 0 else 1)), (qb_hp (t), 149, c)) ∧ hs_I (t.1 130) (if x ∈ ls then ls else x :: ls) ∧ qF (fun y => y = 130) s t := by
  obtain ⟨T, hT, hb, hc⟩ := hs_find h hl hls hx
  have hx0 : nI x ≠ 0 := nI_ne0 hx.1 hx.2
  have loop : ∀ R, qa_lm (qe (d)) (qa_cd qc_96) (17, [.ref 129, .int (nI x), .int (nI ((hs_h x + T) % 2048)), .int (nI T)], [], (qb_hp (s), 149, c)) = R → ∀ m t, t + m = T → qa_lm (qe (d)) (qa_cd qc_96) (10, [.ref 129, .int (nI x), .int (nI ((hs_h x + t) % 2048)), .int (nI t)], [], (qb_hp (s), 149, c)) = R := by
    intro R hR m
    induction m with
    | zero =>
      intro t ht
      have ht : t = T := by omega
      subst ht
      refine go_ild_4_3 rfl ?_
      refine go_c rfl ?_
      refine go_icge rfl (fun e => ?_) (fun e => ?_)
      · exact absurd e (nI_ge (b := 2048) hT (by decide))
      · exact hR
    | succ m ih =>
      intro t ht
      have ih := ih (t + 1) (by omega)
      have hk : (hs_h x + t) % 2048 < 2048 := Nat.mod_lt _ (by decide)
      obtain ⟨b1, b2⟩ := hb t (by omega)
      refine go_ild_4_3 rfl ?_
      refine go_c rfl ?_
      refine go_icge rfl (fun e => ?_) (fun e => ?_)
      · exact absurd e (nI_ge (b := 2048) (by omega) (by decide))
      · refine go_ald_4_0 rfl ?_
        refine go_getr rfl ⟨_, rfl, rfl, by decide, by decide⟩ ?_
        refine go_ild_4_2 rfl ?_
        refine go_iald (j := (hs_h x + t) % 2048) rfl (⟨rfl, by decide, by decide, by decide⟩) (rfl) (by omega) ?_
        refine go_ild_4_1 rfl ?_
        refine go_icne rfl (fun e2 => ?_) (fun e2 => ?_)
        · exact absurd e2 b2
        · refine go_ald_4_0 rfl ?_
          refine go_getr rfl ⟨_, rfl, rfl, by decide, by decide⟩ ?_
          refine go_ild_4_2 rfl ?_
          refine go_iald (j := (hs_h x + t) % 2048) rfl (⟨rfl, by decide, by decide, by decide⟩) (rfl) (by omega) ?_
          refine go_ifne rfl (fun e3 => ?_) (fun e3 => ?_)
          · exact absurd e3 b1
          · refine go_ild_4_2 rfl ?_
            refine go_c rfl ?_
            refine go_iadd rfl ?_
            refine go_c rfl ?_
            refine go_iand rfl ?_
            rw [nI_1, show (2047 : Int32) = nI (2 ^ 11 - 1) from rfl, fa_mask, show ((hs_h x + t) % 2048 + 1) % 2 ^ 11 = (hs_h x + (t + 1)) % 2048 by omega]
            refine go_ist_4_2 rfl rfl ?_
            refine go_inc_4_3 rfl rfl ?_
            refine go_goto rfl ?_
            rw [nI_1]
            exact ih
  have hk : (hs_h x + T) % 2048 < 2048 := Nat.mod_lt _ (by decide)
  have en : ∀ R, qa_lm (qe (d)) (qa_cd qc_96) (17, [.ref 129, .int (nI x), .int (nI ((hs_h x + T) % 2048)), .int (nI T)], [], (qb_hp (s), 149, c)) = R → qe (d + 1) 96 [.ref 129, .int (nI x)] (qb_hp (s), 149, c) = R := fun R hR => by
    have h0 := loop R hR T 0 (by omega)
    rw [Nat.add_zero, Nat.mod_eq_of_lt (hs_h_lt x)] at h0
    refine (en_96 d 129 (nI x) _).trans ?_
    refine go_ild_4_1 rfl ?_
    refine go_c rfl ?_
    refine go_imul rfl ?_
    refine go_c rfl ?_
    refine go_iushr rfl ?_
    rw [hs_h_eq]
    refine go_ist_4_2 rfl rfl ?_
    refine go_c rfl ?_
    refine go_ist_4_3 rfl rfl ?_
    exact h0
  rcases hc with ⟨c1, c2⟩ | ⟨c1, c2, c3⟩
  · rw [if_pos c1, if_pos c1]
    refine ⟨s, en _ ?_, h, qF.rf⟩
    refine go_ald_4_0 rfl ?_
    refine go_getr rfl ⟨_, rfl, rfl, by decide, by decide⟩ ?_
    refine go_ild_4_2 rfl ?_
    refine go_iald (j := (hs_h x + T) % 2048) rfl ⟨rfl, by decide, by decide, by decide⟩ rfl hk ?_
    rw [c2]
    refine go_ild_4_1 rfl ?_
    refine go_icne rfl (fun e2 => ?_) (fun e2 => ?_)
    · refine go_c rfl ?_
      exact fin_i rfl rfl rfl
    · exact absurd rfl e2
  · rw [if_neg c1, if_neg c1]
    refine ⟨qb_ui s 130 ((hs_h x + T) % 2048) (nI x), en _ ?_, c3 _ qb_ui_1s (fun k hk => qb_ui_1n (Or.inr hk)), qF.rf.ui rfl⟩
    refine go_ald_4_0 rfl ?_
    refine go_getr rfl ⟨_, rfl, rfl, by decide, by decide⟩ ?_
    refine go_ild_4_2 rfl ?_
    refine go_iald (j := (hs_h x + T) % 2048) rfl ⟨rfl, by decide, by decide, by decide⟩ rfl hk ?_
    rw [c2]
    refine go_ild_4_1 rfl ?_
    refine go_icne rfl (fun e2 => ?_) (fun e2 => ?_)
    · exact absurd e2.symm hx0
    · refine go_ald_4_0 rfl ?_
      refine go_getr rfl ⟨_, rfl, rfl, by decide, by decide⟩ ?_
      refine go_ild_4_2 rfl ?_
      refine go_iald (j := (hs_h x + T) % 2048) rfl ⟨rfl, by decide, by decide, by decide⟩ rfl hk ?_
      rw [c2]
      refine go_ifne rfl (fun e3 => ?_) (fun e3 => ?_)
      · refine go_ald_4_0 rfl ?_
        refine go_getr rfl ⟨_, rfl, rfl, by decide, by decide⟩ ?_
        refine go_ild_4_2 rfl ?_
        refine go_ild_4_1 rfl ?_
        refine go_iast (j := (hs_h x + T) % 2048) rfl ⟨rfl, by decide, by decide, by decide⟩ rfl hk ?_
        refine go_c rfl ?_
        exact fin_i rfl rfl rfl
      · exact absurd rfl e3
theorem sp_countOrders (d : Nat) (s : qb_M) (c : Nat × Nat) {nw nm : Nat} {lo hi : Nat → Nat} (hp : qP_pl s 67 nw nm lo hi) {X J : Nat} (hX : s.1 73 5 = nI X) (hX2 : X < 2 ^ nm) (hJ : s.1 73 6 = nI J) : ∃ t, qe (d + 3) 95 [.ref 129, .ref 73] (qb_hp (s), 149, c) = some (some (.int (nI (qm_fo (qm_S X J) (od_g (fun Y => qm_pk (qm_te lo hi Y nm nm))) [] (2 ^ nm)).length)), (qb_hp (t), 149, c)) ∧ qF (fun x => x = 127 ∨ x = 128 ∨ x = 130) s t := by
  have hS := qS_73
  have hok := hp.ok
  obtain ⟨p1, p2, ⟨p3, p4, p5⟩, p6⟩ := id hp
  have h10 : 2 ^ nm ≤ 2 ^ 10 := Nat.pow_le_pow_right (by decide) p5
  obtain ⟨f, hf⟩ : ∃ f : Nat → Nat, f = fun Y => qm_pk (qm_te lo hi Y nm nm) := ⟨_, rfl⟩
  rw [← hf]
  have hfp : ∀ Y, 0 < f Y ∧ f Y < 2 ^ 31 := fun Y => by rw [hf]; exact od_pos hok Y
  obtain ⟨q, hq⟩ : ∃ q : Nat → List Nat, ∀ j, q j = qm_fo (qm_S X J) (od_g f) [] (qm_yy nm X J j) := ⟨_, fun _ => rfl⟩
  have hq0 : q 0 = [] := by rw [hq]; exact qm_sw_0 (by omega) hX2
  have hqs : ∀ j, j < qm_N nm J → q (j + 1) = od_g f (qm_y nm X J j) (q j) := fun j hj => by rw [hq, hq, qm_sw_s (by omega) hX2 hj]
  have hqN : q (qm_N nm J) = qm_fo (qm_S X J) (od_g f) [] (2 ^ nm) := by rw [hq, qm_sw_e]
  have hqp : ∀ j x, x ∈ q j → 0 < x ∧ x < 2 ^ 31 := fun j x hx => by
    rw [hq] at hx
    exact od_all (P := fun x => 0 < x ∧ x < 2 ^ 31) hfp _ x hx
  have hql : ∀ j, (q j).length ≤ 1024 := fun j => by
    rw [hq]
    exact Nat.le_trans (od_len _) (Nat.le_trans qm_yy_le h10)
  have hN := qm_N_le (nm := nm) (F := J) p5
  rw [← hqN]
  obtain ⟨s0, hs0⟩ : ∃ s0, s0 = qb_wr s 130 0 2048 (fun _ => 0) := ⟨_, rfl⟩
  have f0 : qF (fun x => x = 127 ∨ x = 128 ∨ x = 130) s s0 := by rw [hs0]; exact qF.rf.wr (Or.inr (Or.inr rfl))
  have hI0 : hs_I (s0.1 130) [] := hs_I_0 (fun k hk => by rw [hs0]; exact qb_wr_i0 hk)
  obtain ⟨t, k1, k2, k3⟩ := sp_start d s0 c (hp.mv f0 (by decide) (by decide) (by decide)) X J hX2
  have loop : ∀ m j (t : qb_M), j + m = qm_N nm J → qW t nm lo hi X J j → hs_I (t.1 130) (q j) → qF (fun x => x = 127 ∨ x = 128 ∨ x = 130) s t → ∃ z, qa_lm (qe (d + 2)) (qa_cd qc_95) (29, [.ref 129, .ref 73, .int (nI (q j).length), .int (nI (qm_N nm J)), .int (nI j)], [], (qb_hp (t), 149, c)) = some (some (.int (nI (q (qm_N nm J)).length)), (qb_hp (z), 149, c)) ∧ qF (fun x => x = 127 ∨ x = 128 ∨ x = 130) s z := by
    intro m
    induction m with
    | zero =>
      intro j t hj hW hI hF
      have hj : j = qm_N nm J := by omega
      refine ⟨t, ?_, hF⟩
      refine go_ild_5_4 rfl ?_
      refine go_ild_5_3 rfl ?_
      refine go_icge rfl (fun e => ?_) (fun e => ?_)
      · refine go_ild_5_2 rfl ?_
        rw [hj]
        exact fin_i rfl rfl rfl
      · exact absurd (by rw [hj]; exact Int32.le_refl _) e
    | succ m ih =>
      intro j t hj hW hI hF
      have hE : t.1 128 0 = nI (f (qm_y nm X J j)) := by rw [hf]; exact hW.2.2.2 0 (Nat.le_refl _) (Nat.zero_le _)
      have hen := sp_ends (d + 1) t c
      rw [hE] at hen
      obtain ⟨t1, n1, n2, n3⟩ := sp_isNewC (d + 1) t c hI (hql j) (hqp j) (hfp (qm_y nm X J j))
      have hW1 : qW t1 nm lo hi X J j := ⟨(n3.i (by decide)).trans hW.1, (n3.i (by decide)).trans hW.2.1, (n3.i (by decide)).trans hW.2.2.1, fun k a b => (n3.i (by decide)).trans (hW.2.2.2 k a b)⟩
      have hF1 : qF (fun x => x = 127 ∨ x = 128 ∨ x = 130) s t1 := hF.tr (n3.mo (fun x h => Or.inr (Or.inr h)))
      obtain ⟨t2, a1, a2, a3⟩ := sp_advance d t1 c (hp.mv hF1 (by decide) (by decide) (by decide)) X J j hW1
      have hI2 : hs_I (t2.1 130) (q (j + 1)) := by
        rw [hqs j (by omega), (a3 130 (by decide)).1]
        exact n2
      obtain ⟨z, z1, z2⟩ := ih (j + 1) t2 (by omega) a2 hI2 (hF1.tr (a3.mo (fun x h => by omega)))
      refine ⟨z, ?_, z2⟩
      rw [hqs j (by omega)] at z1
      unfold od_g at z1
      refine go_ild_5_4 rfl ?_
      refine go_ild_5_3 rfl ?_
      refine go_icge rfl (fun e => ?_) (fun e => ?_)
      · exact absurd e (nI_ge (by omega) (by omega))
      · by_cases hm : f (qm_y nm X J j) ∈ q j
        · rw [if_pos hm] at n1 z1
          refine go_ald_5_0 rfl ?_
          refine go_ald_5_0 rfl ?_
          refine go_getr rfl ⟨_, rfl, rfl, by decide, by decide⟩ ?_
          refine go_call1 rfl (hen) (Nat.le_of_ble_eq_true rfl) (qb_qv rfl (by decide) (by decide)) ?_
          refine go_call2 rfl (n1) (Nat.le_of_ble_eq_true rfl) (qb_qv rfl (by decide) (by decide)) ?_
          refine go_ifeq rfl (fun e2 => ?_) (fun e2 => ?_)
          · refine go_ald_5_0 rfl ?_
            refine go_getr rfl ⟨_, rfl, rfl, by decide, by decide⟩ ?_
            refine go_call1 rfl (a1) (Nat.le_of_ble_eq_true rfl) (qb_qv rfl (by decide) (by decide)) ?_
            refine go_inc_5_4 rfl rfl ?_
            refine go_goto rfl ?_
            rw [nI_1]
            exact z1
          · exact absurd rfl e2
        · rw [if_neg hm] at n1 z1
          rw [List.length_cons] at z1
          refine go_ald_5_0 rfl ?_
          refine go_ald_5_0 rfl ?_
          refine go_getr rfl ⟨_, rfl, rfl, by decide, by decide⟩ ?_
          refine go_call1 rfl (hen) (Nat.le_of_ble_eq_true rfl) (qb_qv rfl (by decide) (by decide)) ?_
          refine go_call2 rfl (n1) (Nat.le_of_ble_eq_true rfl) (qb_qv rfl (by decide) (by decide)) ?_
          refine go_ifeq rfl (fun e2 => ?_) (fun e2 => ?_)
          · exact absurd e2 (by decide)
          · refine go_inc_5_2 rfl rfl ?_
            refine go_ald_5_0 rfl ?_
            refine go_getr rfl ⟨_, rfl, rfl, by decide, by decide⟩ ?_
            refine go_call1 rfl (a1) (Nat.le_of_ble_eq_true rfl) (qb_qv rfl (by decide) (by decide)) ?_
            refine go_inc_5_4 rfl rfl ?_
            refine go_goto rfl ?_
            rw [nI_1, nI_1]
            exact z1
  obtain ⟨z, z1, z2⟩ := loop (qm_N nm J) 0 t (by omega) k2 (by rw [hq0, (k3 130 (by decide)).1]; exact hI0) (f0.tr (k3.mo (fun x h => by omega)))
  refine ⟨z, ?_, z2⟩
  rw [hq0] at z1
  refine (en_95 (d + 2) 129 73 _).trans ?_
  have hfl := sp_fill (d + 1) s c (a := 130) (N := 2048) ⟨rfl, by decide, by decide, by decide⟩ 0
  rw [← hs0] at hfl
  refine go_ald_5_0 rfl ?_
  refine go_getr rfl ⟨_, rfl, rfl, by decide, by decide⟩ ?_
  refine go_c rfl ?_
  refine go_call2 rfl (hfl) (Nat.le_of_ble_eq_true rfl) rfl ?_
  refine go_c rfl ?_
  refine go_ist_5_2 rfl rfl ?_
  refine go_ald_5_0 rfl ?_
  refine go_getr rfl ⟨_, rfl, rfl, by decide, by decide⟩ ?_
  refine go_ald_5_1 rfl ?_
  refine go_geti rfl (qS_f hS rfl) ?_
  rw [show s0.1 73 5 = nI X from (f0.i (by decide)).trans hX]
  refine go_ald_5_1 rfl ?_
  refine go_geti rfl (qS_f hS rfl) ?_
  rw [show s0.1 73 6 = nI J from (f0.i (by decide)).trans hJ]
  refine go_call3 rfl (k1) (Nat.le_of_ble_eq_true rfl) (qb_qv rfl (by decide) (by decide)) ?_
  refine go_ist_5_3 rfl rfl ?_
  refine go_c rfl ?_
  refine go_ist_5_4 rfl rfl ?_
  exact z1

/-! hours drawn, in both -/
theorem qx_nI (x : Int32) : x = nI x.toBitVec.toNat ∧ x.toBitVec.toNat < 2 ^ 32 := by
  refine ⟨?_, x.toBitVec.isLt⟩
  apply Int32.toBitVec_inj.mp
  show x.toBitVec = BitVec.ofNat 32 x.toBitVec.toNat
  exact BitVec.eq_of_toNat_eq (by rw [BitVec.toNat_ofNat, Nat.mod_eq_of_lt x.toBitVec.isLt])
def qd_s (x : Int32) : Int32 := x * 1103515245 + 12345
def qd_j (x : Int32) (n : Nat) : Nat := (qd_s x).toBitVec.toNat / 2 ^ 8 % n
theorem qd_v (x : Int32) {n : Nat} (h0 : 0 < n) (h8 : n < 2 ^ 31) : ((x * 1103515245 + 12345).toUInt32 >>> ((8 : Int32).toUInt32 &&& Int32.toUInt32 31)).toInt32 - ((x * 1103515245 + 12345).toUInt32 >>> ((8 : Int32).toUInt32 &&& Int32.toUInt32 31)).toInt32 / nI n * nI n = nI (qd_j x n) := by
  obtain ⟨e1, e2⟩ := qx_nI (x * 1103515245 + 12345)
  have e3 : ((x * 1103515245 + 12345).toUInt32 >>> ((8 : Int32).toUInt32 &&& Int32.toUInt32 31)).toInt32 = nI ((qd_s x).toBitVec.toNat / 2 ^ 8) := by
    have := qx_ushr (n := (x * 1103515245 + 12345).toBitVec.toNat) (k := 8) e2 (by decide)
    rw [← e1] at this
    exact this
  rw [e3]
  exact pk_rem (Nat.lt_of_le_of_lt (Nat.div_le_of_le_mul (k := 2 ^ 8) (n := 2 ^ 24) (by have := (qd_s x).toBitVec.isLt; omega)) (by decide)) h0 h8
theorem sp_draw (d : Nat) (s : qb_M) (c : Nat × Nat) {x : Int32} {n : Nat} (h : s.1 125 3 = x) (h0 : 0 < n) (h8 : n < 2 ^ 31) : qe (d + 1) 128 [.ref 125, .int (nI n)] (qb_hp (s), 149, c) = some (some (.int (nI (qd_j x n))), (qb_hp (qb_ui s 125 3 (qd_s x)), 149, c)) := by
  refine (en_128 d 125 (nI n) _).trans ?_
  refine go_ald_2_0 rfl ?_
  refine go_ald_2_0 rfl ?_
  refine go_geti rfl ⟨_, rfl, rfl, by decide, by decide⟩ ?_
  rw [h]
  refine go_c rfl ?_
  refine go_imul rfl ?_
  refine go_c rfl ?_
  refine go_iadd rfl ?_
  refine go_puti rfl ⟨_, rfl, rfl, by decide, by decide⟩ rfl rfl ?_
  refine go_ild_2_1 rfl ?_
  refine go_ifle rfl (fun e => ?_) (fun e => ?_)
  · exact absurd e (nI_nle h0 h8)
  · refine go_ald_2_0 rfl ?_
    refine go_geti rfl ⟨_, rfl, rfl, by decide, by decide⟩ ?_
    rw [show (qb_ui s 125 3 (x * 1103515245 + 12345)).1 125 3 = x * 1103515245 + 12345 from qb_ui_1s]
    refine go_c rfl ?_
    refine go_iushr rfl ?_
    refine go_ild_2_1 rfl ?_
    refine go_irem rfl ((nI_ne0 h0 h8)) ?_
    refine go_goto rfl ?_
    rw [qd_v x h0 h8]
    exact fin_i rfl rfl rfl
theorem sp_drawM (d : Nat) (s : qb_M) (c : Nat × Nat) {x : Int32} {n : Nat} (h : s.1 192 35 = x) (h0 : 0 < n) (h8 : n < 2 ^ 31) : qe (d + 1) 265 [.ref 192, .int (nI n)] (qb_hp (s), 149, c) = some (some (.int (nI (qd_j x n))), (qb_hp (qb_ui s 192 35 (qd_s x)), 149, c)) := by
  refine (en_265 d 192 (nI n) _).trans ?_
  refine go_ald_2_0 rfl ?_
  refine go_ald_2_0 rfl ?_
  refine go_geti rfl ⟨_, rfl, rfl, by decide, by decide⟩ ?_
  rw [h]
  refine go_c rfl ?_
  refine go_imul rfl ?_
  refine go_c rfl ?_
  refine go_iadd rfl ?_
  refine go_puti rfl ⟨_, rfl, rfl, by decide, by decide⟩ rfl rfl ?_
  refine go_ald_2_0 rfl ?_
  refine go_geti rfl ⟨_, rfl, rfl, by decide, by decide⟩ ?_
  rw [show (qb_ui s 192 35 (x * 1103515245 + 12345)).1 192 35 = x * 1103515245 + 12345 from qb_ui_1s]
  refine go_c rfl ?_
  refine go_iushr rfl ?_
  refine go_ild_2_1 rfl ?_
  refine go_irem rfl ((nI_ne0 h0 h8)) ?_
  rw [qd_v x h0 h8]
  exact fin_i rfl rfl rfl
/-- the reference's row 'now' beside a state of the component -/
def qD (nw nm V : Nat) (lo hi : Nat → Nat) (H : Nat) (f G : Nat → Int32) : Prop := (G 0 = nI nw ∧ G 1 = nI nm ∧ G 3 = nI V ∧ V ≤ 9 ∧ 2 ≤ nw ∧ nw ≤ 8 ∧ nm ≤ 10) ∧ (∀ k, k < nm → G (5 + k) = nI (lo k) ∧ G (15 + k) = nI (hi k) ∧ lo k < hi k ∧ hi k < nw) ∧ qs_R f (fun k => G (30 + k)) ∧ ∃ X J Lf Sh, qs_in nw nm lo hi (fun k => G (30 + k)) H X J Lf Sh
theorem qD.pl {nw nm V : Nat} {lo hi : Nat → Nat} {H : Nat} {f G : Nat → Int32} (h : qD nw nm V lo hi H f G) {m : qb_M} (hm : m.1 194 = G) : qm_pl m nw nm lo hi := by
  obtain ⟨⟨a1, a2, a3, a4, a5, a6, a7⟩, b, -⟩ := h
  unfold qm_pl
  rw [hm]
  exact ⟨a1, a2, ⟨a5, a6, a7⟩, b⟩
theorem qm_soG {m : qb_M} {G : Nat → Int32} (hm : m.1 194 = G) : qm_so m = fun k => G (30 + k) := by
  funext k
  unfold qm_so
  rw [hm]
/-- the row behind an act that changes places 30 to 69 -/
def qD_r (G g : Nat → Int32) : Nat → Int32 := fun k => if 30 ≤ k ∧ k < 70 then g (k - 30) else G k
theorem qD_r_in {G g : Nat → Int32} {k : Nat} (h : k < 40) : qD_r G g (30 + k) = g k := by
  unfold qD_r
  rw [if_pos (by omega), show 30 + k - 30 = k by omega]
theorem qD_r_o {G g : Nat → Int32} {k : Nat} (h : k < 30 ∨ 70 ≤ k) : qD_r G g k = G k := if_neg (by omega)
theorem qD_r_of {m u : qb_M} {G g : Nat → Int32} (hm : m.1 194 = G) (h1 : qm_so u = g) (h2 : qM_fr m u) : u.1 194 = qD_r G g := by
  funext k
  by_cases hk : 30 ≤ k ∧ k < 70
  · obtain ⟨j, rfl⟩ : ∃ j, k = 30 + j := ⟨k - 30, by omega⟩
    rw [qD_r_in (by omega), ← h1]
    rfl
  · rw [qD_r_o (by omega), ← hm]
    exact h2.i (by omega)
theorem qD.r {nw nm V : Nat} {lo hi : Nat → Nat} {H H' : Nat} {f f' G g : Nat → Int32} (h : qD nw nm V lo hi H f G) (hR : qs_R f' g) (hI : ∃ X J Lf Sh, qs_in nw nm lo hi g H' X J Lf Sh) : qD nw nm V lo hi H' f' (qD_r G g) := by
  obtain ⟨⟨a1, a2, a3, a4, a5, a6, a7⟩, b, -⟩ := h
  refine ⟨⟨?_, ?_, ?_, a4, a5, a6, a7⟩, fun k hk => ?_, hR.ex (fun _ _ => rfl) (fun k hk => qD_r_in hk), ?_⟩
  · rw [qD_r_o (by omega)]; exact a1
  · rw [qD_r_o (by omega)]; exact a2
  · rw [qD_r_o (by omega)]; exact a3
  · rw [qD_r_o (by omega), qD_r_o (by omega)]; exact b k hk
  · obtain ⟨X, J, Lf, Sh, hI⟩ := hI
    exact ⟨X, J, Lf, Sh, hI.ex (fun k hk => qD_r_in hk)⟩
def qb_mk (G : Nat → Int32) : qb_M := (fun a k => if a = 194 then G k else 0, fun _ _ => 0, fun _ _ => none)
theorem qb_mk_1 {G : Nat → Int32} : (qb_mk G).1 194 = G := rfl
def qC_f (s t : qb_M) : Prop := qF (fun x => 125 ≤ x ∧ x ≤ 128 ∨ 145 ≤ x ∧ x < 150) s t
def qM_f (s t : qb_M) : Prop := qG (fun x k => x = 194 ∧ 30 ≤ k ∧ k < 70 ∨ x = 192 ∧ (k = 26 ∨ k = 35) ∨ x = 204) s t
theorem qM_fr.f {s t : qb_M} (h : qM_fr s t) : qM_f s t := h.mo (fun x k h => by omega)
/-- a call that is put through, or isn't, for every memory with that row -/
theorem dr_put {nw nm V : Nat} {lo hi : Nat → Nat} {H : Nat} {G : Nat → Int32} (d d2 d3 : Nat) (s1 : qb_M) (c : Nat × Nat) (hp : qP_pl s1 67 nw nm lo hi) (hV : s1.1 67 8 = nI V) (hD : qD nw nm V lo hi H (qs_so s1 145) G) (i o n : Nat) (hi0 : i < nw) (ho : o < nw) (hn1 : 1 ≤ n) (hn2 : n ≤ 30) (h : Int32) (b : Bool) (hb0 : h = 0 ↔ b = false) : ∃ r t G', qe (d + 4) 60 [.ref 125, .ref 145, .int (nI i), .int (nI o), .int (nI n), .int (qB (b = true))] (qb_hp (s1), 149, c) = some (some (.int (r)), (qb_hp (t), 149, c)) ∧ qC_fr 145 s1 t ∧ qD nw nm V lo hi H (qs_so t 145) G' ∧ (r ≠ 0 → G' = G) ∧ (∀ k, k < 30 ∨ 70 ≤ k → G' k = G k) ∧ (∀ m : qb_M, m.1 194 = G → ∃ m1, qe (d2 + 6) 215 [.ref 192, .int 0, .int (nI i), .int (nI o), .int h] (qb_hp (m), 149, c) = some (some (.int (r)), (qb_hp (m1), 149, c)) ∧ m1.1 194 = G ∧ qM_fr m m1) ∧ (r = 0 → ∀ m : qb_M, m.1 194 = G → ∃ m2, qe (d3 + 6) 223 [.ref 192, .int (nI i), .int (nI o), .int (nI n), .int h] (qb_hp (m), 149, c) = some (none, (qb_hp (m2), 149, c)) ∧ m2.1 194 = G' ∧ qM_fr m m2) := by
  obtain ⟨⟨a1, a2, a3, a4, a5, a6, a7⟩, ab, hR, X, J, Lf, Sh, hI⟩ := id hD
  have put : ∀ m : qb_M, m.1 194 = G → _ := fun m hm => bo_put (ns := 0) (F0 := 0) (se := fun _ => 0) (V := V) d d2 d3 s1 m c hp ⟨hV, a4⟩ (hD.pl hm) ⟨by rw [hm]; exact a3, a4⟩ (by rw [qm_soG hm]; exact hR) (H := H) (X := X) (J := J) (Lf := Lf) (Sh := Sh) (by rw [qm_soG hm]; exact hI) i o n hi0 ho hn1 hn2 h b hb0
  obtain ⟨r, t, p1, p2, p3, p4, p5⟩ := put (qb_mk G) qb_mk_1
  have why : ∀ m : qb_M, m.1 194 = G → ∃ m1, qe (d2 + 6) 215 [.ref 192, .int 0, .int (nI i), .int (nI o), .int h] (qb_hp (m), 149, c) = some (some (.int (r)), (qb_hp (m1), 149, c)) ∧ m1.1 194 = G ∧ qM_fr m m1 := fun m hm => by
    obtain ⟨r', t', q1, q2, ⟨m1, e1, e2, e3⟩, q4, q5⟩ := put m hm
    have e9 := p1.symm.trans q1
    injection e9 with e9
    injection e9 with e9 e10
    injection e9 with e9
    injection e9 with e9
    subst e9
    refine ⟨m1, e1, ?_, e3⟩
    rw [qD_r_of hm (e2.trans (qm_soG hm)) e3]
    funext k
    by_cases hk : 30 ≤ k ∧ k < 70
    · obtain ⟨j, rfl⟩ : ∃ j, k = 30 + j := ⟨k - 30, by omega⟩
      rw [qD_r_in (by omega)]
    · rw [qD_r_o (by omega)]
  by_cases h0 : r = 0
  · obtain ⟨Z, b1, b2, b3, Lf', Sh', b4⟩ := p5 h0
    rw [qm_soG qb_mk_1] at b2 b3 b4
    refine ⟨r, t, qD_r G (qt_cl lo hi nw nm i o (nI n) X Z (fun k => G (30 + k))), p1, p2, hD.r (by rw [b1]; exact b3) ⟨Z, J, Lf', Sh', b4⟩, fun z => absurd h0 z, fun k hk => qD_r_o hk, why, fun _ m hm => ?_⟩
    obtain ⟨m2, c1, c2, c3⟩ := b2 m (fun k => by rw [hm, qb_mk_1])
    exact ⟨m2, c1, qD_r_of hm c2 c3, c3⟩
  · exact ⟨r, t, G, p1, p2, by rw [p4 h0]; exact hD, fun _ => rfl, fun _ _ => rfl, why, fun z => absurd z h0⟩
/-- one call drawn -/
theorem dr_call {nw nm V : Nat} {lo hi : Nat → Nat} {H : Nat} {G : Nat → Int32} (d e : Nat) (s1 : qb_M) (c : Nat × Nat) (hp : qP_pl s1 67 nw nm lo hi) (hV : s1.1 67 8 = nI V) (hD : qD nw nm V lo hi H (qs_so s1 145) G) (x : Int32) (hx : s1.1 125 3 = x) (a2 a3 a4 a5 : Int32) (j : Nat) (hj : j < 2) : ∃ t G' y, (∀ R, (∀ l7 l8 l9 : Value, qa_lm (qe (d + 5)) (qa_cd qc_127) (28, [.ref 125, .ref 145, .int a2, .int a3, .int a4, .int a5, .int (nI (j + 1)), l7, l8, l9], [], (qb_hp (t), 149, c)) = R) → ∀ l7 l8 l9 : Value, qa_lm (qe (d + 5)) (qa_cd qc_127) (28, [.ref 125, .ref 145, .int a2, .int a3, .int a4, .int a5, .int (nI j), l7, l8, l9], [], (qb_hp (s1), 149, c)) = R) ∧ qC_f s1 t ∧ t.1 125 3 = y ∧ qD nw nm V lo hi H (qs_so t 145) G' ∧ (∀ k, k < 30 ∨ 70 ≤ k → G' k = G k) ∧ ∀ m : qb_M, m.1 194 = G → m.1 192 35 = x → ∃ m', qe (e + 8) 264 [.ref 192] (qb_hp (m), 149, c) = some (none, (qb_hp (m'), 149, c)) ∧ m'.1 194 = G' ∧ m'.1 192 35 = y ∧ qM_f m m' := by
  obtain ⟨⟨a1', a2', a3', a4', a5', a6', a7'⟩, ab, hR, -⟩ := id hD
  have j1 : qd_j x nw < nw := Nat.mod_lt _ (by omega)
  have j2 : qd_j (qd_s x) nw < nw := Nat.mod_lt _ (by omega)
  have j3 : qd_j (qd_s (qd_s x)) 6 < 6 := Nat.mod_lt _ (by decide)
  have j4 : qd_j (qd_s (qd_s (qd_s x))) 2 < 2 := Nat.mod_lt _ (by decide)
  obtain ⟨s2, hs2⟩ : ∃ s2, s2 = qb_ui (qb_ui (qb_ui (qb_ui s1 125 3 (qd_s x)) 125 3 (qd_s (qd_s x))) 125 3 (qd_s (qd_s (qd_s x)))) 125 3 (qd_s (qd_s (qd_s (qd_s x)))) := ⟨_, rfl⟩
  have hf2 : qF (fun y => y = 125) s1 s2 := by rw [hs2]; exact (((qF.rf.ui (P := fun y => y = 125) rfl).ui rfl).ui rfl).ui rfl
  have hso : qs_so s2 145 = qs_so s1 145 := qs_so_F hf2 (fun k hk => by omega)
  obtain ⟨b, hb0, hb1⟩ : ∃ b : Bool, (nI (qd_j (qd_s (qd_s (qd_s x))) 2) = 0 ↔ b = false) ∧ (nI (qd_j (qd_s (qd_s (qd_s x))) 2) = 1 ↔ b = true) := by
    rcases (show qd_j (qd_s (qd_s (qd_s x))) 2 = 0 ∨ qd_j (qd_s (qd_s (qd_s x))) 2 = 1 by omega) with e | e <;> rw [e]
    · exact ⟨false, by decide, by decide⟩
    · exact ⟨true, by decide, by decide⟩
  obtain ⟨r, t, G', p1, p2, p3, p4, p5, p6, p7⟩ := dr_put (d + 1) (e + 1) (e + 1) s2 c (hp.mv hf2 (by decide) (by decide) (by decide)) ((hf2.i (by decide)).trans hV) (by rw [hso]; exact hD) (qd_j x nw) (qd_j (qd_s x) nw) (qd_j (qd_s (qd_s x)) 6 + 1) j1 j2 (by omega) (by omega) (nI (qd_j (qd_s (qd_s (qd_s x))) 2)) b hb0
  refine ⟨t, G', qd_s (qd_s (qd_s (qd_s x))), fun R hk l7 l8 l9 => ?_, (hf2.mo (fun x hx => by omega)).tr p2.1, ?_, p3, p5, fun m hm hmx => ?_⟩
  · refine go_ild_10_6 rfl ?_
    refine go_c rfl ?_
    refine go_icge rfl (fun e1 => ?_) (fun e1 => ?_)
    · exact absurd e1 (nI_ge (b := 2) hj (by decide))
    · refine go_ald_10_0 rfl ?_
      refine go_ald_10_0 rfl ?_
      refine go_getr rfl ⟨_, rfl, rfl, by decide, by decide⟩ ?_
      refine go_geti rfl ⟨_, rfl, rfl, by decide, by decide⟩ ?_
      rw [hp.1]
      refine go_call2 rfl (sp_draw (d + 4) s1 c hx (by omega) (by omega)) (Nat.le_of_ble_eq_true rfl) (qb_qv rfl (by decide) (by decide)) ?_
      refine go_ist_10_7 rfl rfl ?_
      refine go_ald_10_0 rfl ?_
      refine go_ald_10_0 rfl ?_
      refine go_getr rfl ⟨_, rfl, rfl, by decide, by decide⟩ ?_
      refine go_geti rfl ⟨_, rfl, rfl, by decide, by decide⟩ ?_
      rw [show (qb_ui s1 125 3 (qd_s x)).1 67 5 = nI nw from hp.1]
      refine go_call2 rfl (sp_draw (d + 4) _ c qb_ui_1s (by omega) (by omega)) (Nat.le_of_ble_eq_true rfl) (qb_qv rfl (by decide) (by decide)) ?_
      refine go_ist_10_8 rfl rfl ?_
      refine go_ald_10_0 rfl ?_
      refine go_c rfl ?_
      rw [show (6 : Int32) = nI 6 from rfl]
      refine go_call2 rfl (sp_draw (d + 4) _ c qb_ui_1s (by decide) (by decide)) (Nat.le_of_ble_eq_true rfl) (qb_qv rfl (by decide) (by decide)) ?_
      refine go_c rfl ?_
      refine go_iadd rfl ?_
      rw [nI_1]
      refine go_ist_10_9 rfl rfl ?_
      refine go_ald_10_0 rfl ?_
      refine go_ald_10_1 rfl ?_
      refine go_ild_10_7 rfl ?_
      refine go_ild_10_8 rfl ?_
      refine go_ild_10_9 rfl ?_
      refine go_ald_10_0 rfl ?_
      refine go_c rfl ?_
      rw [show (2 : Int32) = nI 2 from rfl]
      refine go_call2 rfl (sp_draw (d + 4) _ c qb_ui_1s (by decide) (by decide)) (Nat.le_of_ble_eq_true rfl) (qb_qv rfl (by decide) (by decide)) ?_
      refine go_c rfl ?_
      rw [← hs2]
      refine go_icne rfl (fun e2 => ?_) (fun e2 => ?_)
      · rw [qB_t (hb1.mp e2)] at p1
        refine go_c rfl ?_
        refine go_goto rfl ?_
        refine go_call6 rfl (p1) (Nat.le_of_ble_eq_true rfl) (qb_qv rfl (by decide) (by decide)) ?_
        refine go_pop_int rfl ?_
        refine go_inc_10_6 rfl rfl ?_
        refine go_goto rfl ?_
        rw [nI_1]
        exact hk _ _ _
      · rw [qB_f (fun z => e2 (hb1.mpr z))] at p1
        refine go_c rfl ?_
        refine go_call6 rfl (p1) (Nat.le_of_ble_eq_true rfl) (qb_qv rfl (by decide) (by decide)) ?_
        refine go_pop_int rfl ?_
        refine go_inc_10_6 rfl rfl ?_
        refine go_goto rfl ?_
        rw [nI_1]
        exact hk _ _ _
  · rw [p2.2, hs2]; exact qb_ui_1s
  · obtain ⟨m2, hm2⟩ : ∃ m2, m2 = qb_ui (qb_ui (qb_ui (qb_ui m 192 35 (qd_s x)) 192 35 (qd_s (qd_s x))) 192 35 (qd_s (qd_s (qd_s x)))) 192 35 (qd_s (qd_s (qd_s (qd_s x)))) := ⟨_, rfl⟩
    have hg2 : qM_f m m2 := by rw [hm2]; exact (((qG.rf.ui (by omega)).ui (by omega)).ui (by omega)).ui (by omega)
    have h194 : m2.1 194 = G := by rw [hm2]; exact hm
    have hs35 : m2.1 192 35 = qd_s (qd_s (qd_s (qd_s x))) := by rw [hm2]; exact qb_ui_1s
    obtain ⟨m3, w1, w2, w3⟩ := p6 m2 h194
    have pre : ∀ R, qa_lm (qe (e + 7)) (qa_cd qc_264) (47, [.ref 192, .int (nI (qd_j x nw)), .int (nI (qd_j (qd_s x) nw)), .int (nI (qd_j (qd_s (qd_s x)) 6 + 1)), .int (nI (qd_j (qd_s (qd_s (qd_s x))) 2))], [.int r], (qb_hp (m3), 149, c)) = R → qe (e + 8) 264 [.ref 192] (qb_hp (m), 149, c) = R := fun R hk => by
      refine (en_264 (e + 7) 192 _).trans ?_
      refine go_ald_5_0 rfl ?_
      refine go_ald_5_0 rfl ?_
      refine go_getr rfl ⟨_, rfl, rfl, by decide, by decide⟩ ?_
      refine go_c rfl ?_
      refine go_iald (j := 0) rfl ⟨rfl, by decide, by decide, by decide⟩ rfl (by decide) ?_
      rw [hm, a1']
      refine go_call2 rfl (sp_drawM (e + 6) m c hmx (by omega) (by omega)) (Nat.le_of_ble_eq_true rfl) (qb_qv rfl (by decide) (by decide)) ?_
      refine go_ist_5_1 rfl rfl ?_
      refine go_ald_5_0 rfl ?_
      refine go_ald_5_0 rfl ?_
      refine go_getr rfl ⟨_, rfl, rfl, by decide, by decide⟩ ?_
      refine go_c rfl ?_
      refine go_iald (j := 0) rfl ⟨rfl, by decide, by decide, by decide⟩ rfl (by decide) ?_
      rw [show (qb_ui m 192 35 (qd_s x)).1 194 0 = nI nw from by rw [show (qb_ui m 192 35 (qd_s x)).1 194 = m.1 194 from rfl, hm]; exact a1']
      refine go_call2 rfl (sp_drawM (e + 6) _ c qb_ui_1s (by omega) (by omega)) (Nat.le_of_ble_eq_true rfl) (qb_qv rfl (by decide) (by decide)) ?_
      refine go_ist_5_2 rfl rfl ?_
      refine go_ald_5_0 rfl ?_
      refine go_c rfl ?_
      rw [show (6 : Int32) = nI 6 from rfl]
      refine go_call2 rfl (sp_drawM (e + 6) _ c qb_ui_1s (by decide) (by decide)) (Nat.le_of_ble_eq_true rfl) (qb_qv rfl (by decide) (by decide)) ?_
      refine go_c rfl ?_
      refine go_iadd rfl ?_
      rw [nI_1]
      refine go_ist_5_3 rfl rfl ?_
      refine go_ald_5_0 rfl ?_
      refine go_c rfl ?_
      rw [show (2 : Int32) = nI 2 from rfl]
      refine go_call2 rfl (sp_drawM (e + 6) _ c qb_ui_1s (by decide) (by decide)) (Nat.le_of_ble_eq_true rfl) (qb_qv rfl (by decide) (by decide)) ?_
      refine go_ist_5_4 rfl rfl ?_
      refine go_ald_5_0 rfl ?_
      refine go_c rfl ?_
      refine go_ild_5_1 rfl ?_
      refine go_ild_5_2 rfl ?_
      refine go_ild_5_4 rfl ?_
      rw [← hm2]
      refine go_call5 rfl (w1) (Nat.le_of_ble_eq_true rfl) (qb_qv rfl (by decide) (by decide)) ?_
      exact hk
    by_cases h0 : r = 0
    · subst h0
      obtain ⟨m4, v1, v2, v3⟩ := p7 rfl m3 w2
      refine ⟨m4, pre _ ?_, v2, ?_, hg2.tr (w3.f.tr v3.f)⟩
      · refine go_ifne rfl (fun e1 => ?_) (fun e1 => ?_)
        · refine go_ald_5_0 rfl ?_
          refine go_ild_5_1 rfl ?_
          refine go_ild_5_2 rfl ?_
          refine go_ild_5_3 rfl ?_
          refine go_ild_5_4 rfl ?_
          refine go_call5 rfl (v1) (Nat.le_of_ble_eq_true rfl) (qb_qv rfl (by decide) (by decide)) ?_
          exact fin_v rfl rfl
        · exact absurd rfl e1
      · rw [v3.i (by omega), w3.i (by omega)]; exact hs35
    · refine ⟨m3, pre _ ?_, by rw [w2, p4 h0], ?_, hg2.tr w3.f⟩
      · refine go_ifne rfl (fun e1 => ?_) (fun e1 => ?_)
        · exact absurd e1 h0
        · exact fin_v rfl rfl
      · rw [w3.i (by omega)]; exact hs35
theorem qD.hour {nw nm V : Nat} {lo hi : Nat → Nat} {H : Nat} {f G : Nat → Int32} (h : qD nw nm V lo hi H f G) (hH : H + 1 ≤ 400) : qD nw nm V lo hi (H + 1) (qs_b (qt_ph f 8) 0) (qD_r G (qs_b (qt_mh (fun k => G (30 + k)) nw) 0)) := by
  obtain ⟨⟨a1, a2, a3, a4, a5, a6, a7⟩, b, hR, X, J, Lf, Sh, hI⟩ := id h
  obtain ⟨r1, r2⟩ := qt_hour a6 hR hI hH
  exact h.r r1 ⟨X, J, _, Sh, r2⟩
theorem qC_f.pl {s t : qb_M} (h : qC_f s t) {nw nm : Nat} {lo hi : Nat → Nat} (hp : qP_pl s 67 nw nm lo hi) : qP_pl t 67 nw nm lo hi := hp.mv h (by omega) (by omega) (by omega)
/-- hours drawn -/
theorem dr_loop {nw nm V : Nat} {lo hi : Nat → Nat} (d e : Nat) (c : Nat × Nat) (a2 a3 : Int32) (K : Nat) (hK : K ≤ 400) (B : Int32) : ∀ (n j : Nat), j + n = K → ∀ (s1 : qb_M) (H : Nat) (G : Nat → Int32) (x : Int32), H + n ≤ 400 → qP_pl s1 67 nw nm lo hi → s1.1 67 8 = nI V → qD nw nm V lo hi H (qs_so s1 145) G → s1.1 125 3 = x → ∃ t G', (∀ l6 l7 l8 l9 : Value, qa_lm (qe (d + 5)) (qa_cd qc_127) (18, [.ref 125, .ref 145, .int a2, .int a3, .int (nI K), .int (nI j), l6, l7, l8, l9], [], (qb_hp (s1), 149, c)) = some (some (.int (nI K)), (qb_hp (t), 149, c))) ∧ qC_f s1 t ∧ qD nw nm V lo hi (H + n) (qs_so t 145) G' ∧ (∀ k, k < 30 ∨ 70 ≤ k → G' k = G k) ∧ ∀ m : qb_M, m.1 194 = G → m.1 192 35 = x → ∃ m', qa_lm (qe (e + 8)) (qa_cd qc_263) (24, [.ref 192, .int a2, .int B, .int (nI K), .int (nI j)], [], (qb_hp (m), 149, c)) = some (some (.int (nI K)), (qb_hp (m'), 149, c)) ∧ m'.1 194 = G' ∧ qM_f m m' := by
  intro n
  induction n with
  | zero =>
    intro j hj s1 H G x hH hp hV hD hx
    have hj : j = K := by omega
    subst hj
    refine ⟨s1, G, fun l6 l7 l8 l9 => ?_, qF.rf, hD, fun _ _ => rfl, fun m hm hmx => ⟨m, ?_, hm, qG.rf⟩⟩
    · refine go_ild_10_5 rfl ?_
      refine go_ild_10_4 rfl ?_
      refine go_icge rfl (fun e1 => ?_) (fun e1 => ?_)
      · refine go_ild_10_4 rfl ?_
        exact fin_i rfl rfl rfl
      · exact absurd (Int32.le_refl _) e1
    · refine go_ild_5_4 rfl ?_
      refine go_ild_5_3 rfl ?_
      refine go_icge rfl (fun e1 => ?_) (fun e1 => ?_)
      · refine go_ild_5_3 rfl ?_
        exact fin_i rfl rfl rfl
      · exact absurd (Int32.le_refl _) e1
  | succ n ih =>
    intro j hj s1 H G x hH hp hV hD hx
    have hS := qS_145
    obtain ⟨t1, G1, y1, p1, p2, p3, p4, p5, p6⟩ := dr_call d e s1 c hp hV hD x hx a2 a3 (nI K) (nI j) 0 (by decide)
    obtain ⟨t2, G2, y2, q1, q2, q3, q4, q5, q6⟩ := dr_call d e t1 c (p2.pl hp) ((p2.i (by omega)).trans hV) p4 y1 p3 a2 a3 (nI K) (nI j) 1 (by decide)
    obtain ⟨t3, r1, r2, r3⟩ := sp_passHour (d + 3) t2 c hS
    have f2 : qC_f s1 t2 := p2.tr q2
    have f3 : qC_f s1 t3 := f2.tr (r3.mo (fun x hx => by omega))
    have hD3 := q4.hour (by omega)
    rw [← r2] at hD3
    obtain ⟨t, G', u1, u2, u3, u4, u5⟩ := ih (j + 1) (by omega) t3 (H + 1) _ y2 (by omega) (f3.pl hp) ((f3.i (by omega)).trans hV) hD3 ((r3.i (by omega)).trans q3)
    have tail : ∀ l7 l8 l9 : Value, qa_lm (qe (d + 5)) (qa_cd qc_127) (28, [.ref 125, .ref 145, .int a2, .int a3, .int (nI K), .int (nI j), .int (nI (1 + 1)), l7, l8, l9], [], (qb_hp (t2), 149, c)) = some (some (.int (nI K)), (qb_hp (t), 149, c)) := fun l7 l8 l9 => by
      refine go_ild_10_6 rfl ?_
      refine go_c rfl ?_
      refine go_icge rfl (fun e1 => ?_) (fun e1 => ?_)
      · refine go_ald_10_1 rfl ?_
        refine go_call1 rfl (r1) (Nat.le_of_ble_eq_true rfl) (qS_v hS) ?_
        refine go_inc_10_5 rfl rfl ?_
        refine go_goto rfl ?_
        rw [nI_1]
        exact u1 _ _ _ _
      · exact absurd (by decide) e1
    refine ⟨t, G', fun l6 l7 l8 l9 => ?_, f3.tr u2, by rw [show H + (n + 1) = H + 1 + n by omega]; exact u3, fun k hk => ?_, fun m hm hmx => ?_⟩
    · refine go_ild_10_5 rfl ?_
      refine go_ild_10_4 rfl ?_
      refine go_icge rfl (fun e1 => ?_) (fun e1 => ?_)
      · exact absurd e1 (nI_ge (by omega) (by omega))
      · refine go_c rfl ?_
        refine go_ist_10_6 rfl rfl ?_
        exact p1 _ (q1 _ tail) _ _ _
    · rw [u4 k hk, qD_r_o hk, q5 k hk, p5 k hk]
    · obtain ⟨m1, b1, b2, b3, b4⟩ := p6 m hm hmx
      obtain ⟨m2, c1, c2, c3, c4⟩ := q6 m1 b2 b3
      obtain ⟨m3, h1, h2, h3⟩ := sp_oneHour (e + 6) m2 c (q4.pl c2)
      obtain ⟨m', g1, g2, g3⟩ := u5 m3 (qD_r_of c2 (by rw [h2, qm_soG c2]) h3) ((h3.i (by omega)).trans c3)
      refine ⟨m', ?_, g2, b4.tr (c4.tr (h3.f.tr g3))⟩
      refine go_ild_5_4 rfl ?_
      refine go_ild_5_3 rfl ?_
      refine go_icge rfl (fun e1 => ?_) (fun e1 => ?_)
      · exact absurd e1 (nI_ge (by omega) (by omega))
      · refine go_ald_5_0 rfl ?_
        refine go_call1 rfl (b1) (Nat.le_of_ble_eq_true rfl) (qb_qv rfl (by decide) (by decide)) ?_
        refine go_ald_5_0 rfl ?_
        refine go_call1 rfl (c1) (Nat.le_of_ble_eq_true rfl) (qb_qv rfl (by decide) (by decide)) ?_
        refine go_ald_5_0 rfl ?_
        refine go_call1 rfl (h1) (Nat.le_of_ble_eq_true rfl) (qb_qv rfl (by decide) (by decide)) ?_
        refine go_inc_5_4 rfl rfl ?_
        refine go_goto rfl ?_
        rw [nI_1]
        exact g1
theorem qD.H {nw nm V : Nat} {lo hi : Nat → Nat} {H : Nat} {f G : Nat → Int32} (h : qD nw nm V lo hi H f G) : f 0 = nI H ∧ G 30 = nI H ∧ H ≤ 400 := by
  obtain ⟨-, -, hR, X, J, Lf, Sh, hI⟩ := h
  exact ⟨(hR.1 0 (by omega) (by omega)).trans hI.1.1, hI.1.1, hI.1.2⟩
theorem dr_pass {nw nm V : Nat} {lo hi : Nat → Nat} (d e : Nat) (c : Nat × Nat) (s1 : qb_M) {H : Nat} {G : Nat → Int32} (hp : qP_pl s1 67 nw nm lo hi) (hV : s1.1 67 8 = nI V) (hD : qD nw nm V lo hi H (qs_so s1 145) G) (n : Nat) (hn : n ≤ 60) (x : Int32) : ∃ t G', qe (d + 6) 127 [.ref 125, .ref 145, .int (nI n), .int x] (qb_hp (s1), 149, c) = some (some (.int (nI (min n (400 - H)))), (qb_hp (t), 149, c)) ∧ qC_f s1 t ∧ qD nw nm V lo hi (H + min n (400 - H)) (qs_so t 145) G' ∧ (∀ k, k < 30 ∨ 70 ≤ k → G' k = G k) ∧ ∀ m : qb_M, m.1 194 = G → ∃ m', qe (e + 9) 263 [.ref 192, .int (nI n), .int x] (qb_hp (m), 149, c) = some (some (.int (nI (min n (400 - H)))), (qb_hp (m'), 149, c)) ∧ m'.1 194 = G' ∧ qM_f m m' := by
  have hS := qS_145
  obtain ⟨h1, h2, h3⟩ := hD.H
  have f0 : qC_f s1 (qb_ui s1 125 3 x) := qF.rf.ui (by omega)
  have hso : qs_so (qb_ui s1 125 3 x) 145 = qs_so s1 145 := qs_so_F (show qF (fun x => x = 125) s1 (qb_ui s1 125 3 x) from qF.rf.ui rfl) (fun k hk => by omega)
  obtain ⟨t, G', u1, u2, u3, u4, u5⟩ := dr_loop d e c (nI n) x (min n (400 - H)) (by omega) x (min n (400 - H)) 0 (by omega) (qb_ui s1 125 3 x) H G x (by omega) (f0.pl hp) hV (by rw [hso]; exact hD) qb_ui_1s
  refine ⟨t, G', ?_, f0.tr u2, u3, u4, fun m hm => ?_⟩
  · refine (en_127 (d + 5) 125 145 (nI n) x _).trans ?_
    refine go_ald_10_0 rfl ?_
    refine go_ild_10_3 rfl ?_
    refine go_puti rfl ⟨_, rfl, rfl, by decide, by decide⟩ rfl rfl ?_
    refine go_ild_10_2 rfl ?_
    refine go_ald_10_1 rfl ?_
    refine go_call1 rfl (sp_hoursLeft (d + 4) _ c hS) (Nat.le_of_ble_eq_true rfl) (qS_v hS) ?_
    rw [hso, h1, qx_400 h3]
    refine go_min rfl (Nat.le_of_ble_eq_true rfl) ?_
    rw [qx_min60 (by omega) (by omega)]
    refine go_ist_10_4 rfl rfl ?_
    refine go_c rfl ?_
    refine go_ist_10_5 rfl rfl ?_
    exact u1 _ _ _ _
  · obtain ⟨m', g1, g2, g3⟩ := u5 (qb_ui m 192 35 x) hm qb_ui_1s
    refine ⟨m', ?_, g2, (qG.rf.ui (P := fun x k => x = 194 ∧ 30 ≤ k ∧ k < 70 ∨ x = 192 ∧ (k = 26 ∨ k = 35) ∨ x = 204) (by omega)).tr g3⟩
    refine (en_263 (e + 8) 192 (nI n) x _).trans ?_
    refine go_ald_5_0 rfl ?_
    refine go_ild_5_2 rfl ?_
    refine go_puti rfl ⟨_, rfl, rfl, by decide, by decide⟩ rfl rfl ?_
    refine go_ild_5_1 rfl ?_
    refine go_c rfl ?_
    refine go_ald_5_0 rfl ?_
    refine go_getr rfl ⟨_, rfl, rfl, by decide, by decide⟩ ?_
    refine go_c rfl ?_
    refine go_iald (j := 30) rfl ⟨rfl, by decide, by decide, by decide⟩ rfl (by decide) ?_
    rw [show (qb_ui m 192 35 x).1 194 30 = nI H from by rw [show (qb_ui m 192 35 x).1 194 = m.1 194 from rfl, hm]; exact h2]
    refine go_isub rfl ?_
    rw [qx_400 h3]
    refine go_call2 rfl (sp_least (e + 7) n (400 - H) (by omega) (by omega) _) (Nat.le_of_ble_eq_true rfl) rfl ?_
    refine go_ist_5_3 rfl rfl ?_
    refine go_c rfl ?_
    refine go_ist_5_4 rfl rfl ?_
    exact g1
/-- a board in both gives it at the start -/
theorem qD.of {s : qb_M} {p B b nw nm ns V F0 : Nat} {lo hi se : Nat → Nat} (h1 : qZp s p 194 0 B b nw nm ns V F0 lo hi se) {f : Nat → Int32} (hR : qs_R f (qm_so s)) {H X J : Nat} {Lf Sh : Nat → Nat} (hI : qs_in nw nm lo hi (qm_so s) H X J Lf Sh) : qD nw nm V lo hi H f (s.1 194) := by
  have hm := h1.m
  obtain ⟨a1, a2, ⟨a3, a4, a5⟩, a6⟩ := hm
  exact ⟨⟨a1, a2, h1.2.2.1.2.2.2.1, h1.1.2.2.2.2.1, a3, a4, a5⟩, a6, hR, X, J, Lf, Sh, hI⟩
theorem qT_drawn (d : Nat) (x y : Int32) : qT (d + 20) 126 262 [.int x, .int y] := fun s c hZ => by
  obtain ⟨hx0, nw, nm, ns, V, F0, lo, hi, se, h1, h2, h3, h4⟩ := id hZ
  obtain ⟨hR, H, X, J, Lf, Sh, hI⟩ := id h2
  have hw := h1.1
  have hS := qS_145
  obtain ⟨hH, hH4⟩ := hI.1
  by_cases hT : 1 ≤ x ∧ x ≤ 60
  · obtain ⟨n, hn1, hn2, rfl⟩ := qx_in1 (a := 1) (b := 60) (by decide) hT.1 hT.2 (by decide)
    obtain ⟨s1, c1, c2, c3⟩ := sp_copyS (d + 18) s c qS_145 qS_73 (by decide)
    have hD : qD nw nm V lo hi H (qs_so s1 145) (s.1 194) := qD.of h1 (hR.ex c2 (fun _ _ => rfl)) hI
    obtain ⟨t, G', p1, p2, p3, p4, p5⟩ := dr_pass (d + 13) (d + 10) c s1 (h1.c.mv c3.F (by omega) (by omega) (by omega)) ((c3.F.i (by omega)).trans h1.2.1.2.2.2.1) hD n hn2 y
    have pre : ∀ R, qa_lm (qe (d + 19)) (qa_cd qc_126) (37, [.ref 64, .int (nI n), .int y, .retAddr 0], [.int (nI (min n (400 - H)))], (qb_hp (t), 149, c)) = R → qe (d + 20) 126 [.ref 64, .int (nI n), .int y] (qb_hp (s), 149, c) = R := fun R hk => by
      refine (en_126 (d + 19) 64 (nI n) y _).trans ?_
      refine go_ild_4_1 rfl ?_
      refine go_c rfl ?_
      refine go_iclt rfl (fun e => ?_) (fun e => ?_)
      · exact absurd e (Int32.not_lt.mpr hT.1)
      · refine go_ild_4_1 rfl ?_
        refine go_c rfl ?_
        refine go_icle rfl (fun e2 => ?_) (fun e2 => ?_)
        · refine go_ald_4_0 rfl ?_
          refine go_getr rfl ⟨_, rfl, rfl, by decide, by decide⟩ ?_
          refine go_ald_4_0 rfl ?_
          refine go_getr rfl ⟨_, rfl, rfl, by decide, by decide⟩ ?_
          refine go_call2 rfl (c1) (Nat.le_of_ble_eq_true rfl) (qS_v hS) ?_
          refine go_ald_4_0 rfl ?_
          refine go_getr rfl ⟨_, rfl, rfl, by decide, by decide⟩ ?_
          refine go_ald_4_0 rfl ?_
          refine go_getr rfl ⟨_, rfl, rfl, by decide, by decide⟩ ?_
          refine go_ild_4_1 rfl ?_
          refine go_ild_4_2 rfl ?_
          refine go_call4 rfl (p1) (Nat.le_of_ble_eq_true rfl) (qb_qv rfl (by decide) (by decide)) ?_
          exact hk
        · exact absurd hT.2 e2
    have hft : qF (fun x => 125 ≤ x ∧ x ≤ 128 ∨ 145 ≤ x ∧ x < 150) s t := (c3.F.mo (fun x hx => by omega)).tr p2
    by_cases h400 : H = 400
    · refine ⟨0, t, qb_ui t 192 0 0, pre _ ?_, ?_, ?_⟩
      · refine go_ist_4_3 rfl rfl ?_
        refine go_ild_4_3 rfl ?_
        rw [h400, show min n (400 - 400) = 0 by omega]
        refine go_ifle rfl (fun e => ?_) (fun e => ?_)
        · refine go_ild_4_3 rfl ?_
          exact fin_i rfl rfl rfl
        · exact absurd (by decide) e
      · refine (en_262 (d + 19) 192 (nI n) y _).trans ?_
        refine go_ald_3_0 rfl ?_
        refine go_c rfl ?_
        refine go_puti rfl ⟨_, rfl, rfl, by decide, by decide⟩ rfl rfl ?_
        refine go_ild_3_1 rfl ?_
        refine go_c rfl ?_
        refine go_c rfl ?_
        refine go_call3 rfl (sp_isIn (d + 18) _ _ _ _) (Nat.le_of_ble_eq_true rfl) rfl ?_
        rw [qB_t (show (1 : Int32) ≤ nI n ∧ nI n ≤ 60 from hT)]
        refine go_ifne rfl (fun e => ?_) (fun e => ?_)
        · exact absurd e (by decide)
        · refine go_ald_3_0 rfl ?_
          refine go_getr rfl ⟨_, rfl, rfl, by decide, by decide⟩ ?_
          refine go_c rfl ?_
          refine go_iald (j := 30) rfl ⟨rfl, by decide, by decide, by decide⟩ rfl (by decide) ?_
          refine go_c rfl ?_
          rw [show (qb_ui t 192 0 0).1 194 30 = nI H from (qb_t0 (by omega)).trans ((hft.i (by omega)).trans hH), h400]
          refine go_icne rfl (fun e2 => ?_) (fun e2 => ?_)
          · refine go_c rfl ?_
            exact fin_i rfl rfl rfl
          · exact absurd rfl e2
      · exact hZ.mv (P := fun x k => 125 ≤ x ∧ x ≤ 128 ∨ 145 ≤ x ∧ x < 150 ∨ x = 192 ∧ k = 0) ((hft.G.mo (fun x k h => by omega)).ui (by omega)) (fun x k hx => by unfold qZ_no qZx_no at hx; omega)
    · obtain ⟨K, hK⟩ : ∃ K, min n (400 - H) = K := ⟨_, rfl⟩
      have hK1 : 1 ≤ K := by omega
      rw [hK] at p3 p5
      obtain ⟨hrg, xx, z, hxx, hz, e1, e2, e3, h5⟩ := h4
      obtain ⟨u, g1, g2, g3, g4, g5, g6, g7, g8⟩ := sp_settle (d + 16) t c (x := xx) (z := z) (fun i hi => (hft.p (by omega)).trans (hrg i hi)) hxx hz ((hft.i (by omega)).trans e1) ((hft.i (by omega)).trans e2)
      have fsu : qF (fun y => 73 ≤ y ∧ y < 78 ∨ 83 ≤ y ∧ y ≤ 128 ∨ 145 ≤ y ∧ y < 150) s u := fun y hy => ⟨funext fun k => (g8 y k (by omega)).trans (hft.i (by omega)), by rw [g7]; exact funext fun k => hft.l (by omega), by rw [g7]; exact funext fun k => hft.p (by omega)⟩
      obtain ⟨w, k1, k2, k3, k4, k5⟩ := sp_snap (d + 18) (qb_ui u 192 0 0) c hz ((qb_t0 (by omega)).trans ((fsu.i (by omega)).trans e3))
      have hw194 : w.1 194 = s.1 194 := funext fun k => (k5.i (by omega)).trans ((qb_t0 (by omega)).trans (fsu.i (by omega)))
      obtain ⟨v, l1, l2, l3⟩ := p5 w hw194
      refine ⟨nI K, u, v, pre _ ?_, ?_, ?_⟩
      · rw [hK]
        refine go_ist_4_3 rfl rfl ?_
        refine go_ild_4_3 rfl ?_
        refine go_ifle rfl (fun e => ?_) (fun e => ?_)
        · exact absurd e (nI_nle (by omega) (by omega))
        · refine go_ald_4_0 rfl ?_
          refine go_call1 rfl (g1) (Nat.le_of_ble_eq_true rfl) (qb_qv rfl (by decide) (by decide)) ?_
          refine go_ild_4_3 rfl ?_
          exact fin_i rfl rfl rfl
      · refine (en_262 (d + 19) 192 (nI n) y _).trans ?_
        refine go_ald_3_0 rfl ?_
        refine go_c rfl ?_
        refine go_puti rfl ⟨_, rfl, rfl, by decide, by decide⟩ rfl rfl ?_
        refine go_ild_3_1 rfl ?_
        refine go_c rfl ?_
        refine go_c rfl ?_
        refine go_call3 rfl (sp_isIn (d + 18) _ _ _ _) (Nat.le_of_ble_eq_true rfl) rfl ?_
        rw [qB_t (show (1 : Int32) ≤ nI n ∧ nI n ≤ 60 from hT)]
        refine go_ifne rfl (fun e => ?_) (fun e => ?_)
        · exact absurd e (by decide)
        · refine go_ald_3_0 rfl ?_
          refine go_getr rfl ⟨_, rfl, rfl, by decide, by decide⟩ ?_
          refine go_c rfl ?_
          refine go_iald (j := 30) rfl ⟨rfl, by decide, by decide, by decide⟩ rfl (by decide) ?_
          refine go_c rfl ?_
          rw [show (qb_ui u 192 0 0).1 194 30 = nI H from (qb_t0 (by omega)).trans ((fsu.i (by omega)).trans hH)]
          refine go_icne rfl (fun e4 => ?_) (fun e4 => ?_)
          · exact absurd ((nI_eq (b := 400) (by omega) (by decide)).mp e4) h400
          · refine go_ald_3_0 rfl ?_
            refine go_call1 rfl (k1) (Nat.le_of_ble_eq_true rfl) (qb_qv rfl (by decide) (by decide)) ?_
            refine go_ald_3_0 rfl ?_
            refine go_ild_3_1 rfl ?_
            refine go_ild_3_2 rfl ?_
            refine go_call3 rfl (l1) (Nat.le_of_ble_eq_true rfl) (qb_qv rfl (by decide) (by decide)) ?_
            exact fin_i rfl rfl rfl
      · have hsv : qm_so v = fun k => G' (30 + k) := qm_soG l2
        obtain ⟨-, -, r1, X', J', Lf', Sh', r2⟩ := p3
        have hmf : qG (fun x k => x = 194 ∧ 30 ≤ k ∧ k < 70 ∨ x = 192 ∧ (k = 0 ∨ k = 24 ∨ k = 26 ∨ k = 35) ∨ x = 197 ∨ x = 198 ∨ x = 204) u v := (show qG (fun x k => x = 194 ∧ 30 ≤ k ∧ k < 70 ∨ x = 192 ∧ (k = 0 ∨ k = 24 ∨ k = 26 ∨ k = 35) ∨ x = 197 ∨ x = 198 ∨ x = 204) u (qb_ui u 192 0 0) from qG.rf.ui (by omega)).tr ((k5.mo (fun x k h => by omega)).tr (l3.mo (fun x k h => by omega)))
        refine qZ_act (s := s) (v := u) (u := v) hx0 h1 h2 h3 hxx hz h5 (fun k hk => (g2 k hk).trans ?_) (fun y hy hyx k hk => (g4 y hy hyx k).trans ?_) g5 g6 (fun i hi => by rw [g7, hft.p (by omega)]; exact hrg i hi) fsu ((l3.i (by omega)).trans k2) (fun k hk => ?_) (fun j hj k hk => ?_) hmf ⟨?_, H + K, X', J', Lf', Sh', ?_⟩
        · rw [qs_so_F hft (fun k hk => by omega)]
        · rw [qs_so_F hft (fun k hk => by omega)]
        · exact (l3.i (by omega)).trans ((k3 k hk).trans (qb_t0 (by omega)))
        · exact (l3.i (by omega)).trans ((k4 j hj k hk).trans (qb_t0 (by omega)))
        · rw [hsv]
          exact r1.ex g3 (fun _ _ => rfl)
        · rw [hsv]; exact r2
  · refine ⟨-1, s, qb_ui s 192 0 0, ?_, ?_, hZ.thr 0⟩
    · refine (en_126 (d + 19) 64 x y _).trans ?_
      refine go_ild_4_1 rfl ?_
      refine go_c rfl ?_
      refine go_iclt rfl (fun e => ?_) (fun e => ?_)
      · refine go_c rfl ?_
        exact fin_i rfl rfl rfl
      · refine go_ild_4_1 rfl ?_
        refine go_c rfl ?_
        refine go_icle rfl (fun e2 => ?_) (fun e2 => ?_)
        · exact absurd ⟨Int32.not_lt.mp e, e2⟩ hT
        · refine go_c rfl ?_
          exact fin_i rfl rfl rfl
    · refine (en_262 (d + 19) 192 x y _).trans ?_
      refine go_ald_3_0 rfl ?_
      refine go_c rfl ?_
      refine go_puti rfl ⟨_, rfl, rfl, by decide, by decide⟩ rfl rfl ?_
      refine go_ild_3_1 rfl ?_
      refine go_c rfl ?_
      refine go_c rfl ?_
      refine go_call3 rfl (sp_isIn (d + 18) _ _ _ _) (Nat.le_of_ble_eq_true rfl) rfl ?_
      rw [qB_f hT]
      refine go_ifne rfl (fun e => ?_) (fun e => ?_)
      · refine go_c rfl ?_
        exact fin_i rfl rfl rfl
      · exact absurd rfl e
/-! odds -/
theorem sp_layAside (d : Nat) (m : qb_M) (c : Nat × Nat) : qe (d + 1) 267 [.ref 192] (qb_hp (m), 149, c) = some (none, (qb_hp (qb_wr m 198 0 40 (fun k => m.1 194 (30 + k))), 149, c)) := by
  have loop : ∀ n k, k + n = 40 → qa_lm (qe (d)) (qa_cd qc_267) (2, [.ref 192, .int (nI k)], [], (qb_hp (qb_wr m 198 0 k (fun k => m.1 194 (30 + k))), 149, c)) = some (none, (qb_hp (qb_wr m 198 0 40 (fun k => m.1 194 (30 + k))), 149, c)) := by
    intro n
    induction n with
    | zero =>
      intro k hk
      have hk : k = 40 := by omega
      subst hk
      refine go_ild_2_1 rfl ?_
      refine go_c rfl ?_
      refine go_icge rfl (fun e => ?_) (fun e => ?_)
      · exact fin_v rfl rfl
      · exact absurd (by decide) e
    | succ n ih =>
      intro k hk
      refine go_ild_2_1 rfl ?_
      refine go_c rfl ?_
      refine go_icge rfl (fun e => ?_) (fun e => ?_)
      · exact absurd e (nI_ge (b := 40) (by omega) (by omega))
      · refine go_ald_2_0 rfl ?_
        refine go_getr rfl ⟨_, rfl, rfl, by decide, by decide⟩ ?_
        refine go_ild_2_1 rfl ?_
        refine go_ald_2_0 rfl ?_
        refine go_getr rfl ⟨_, rfl, rfl, by decide, by decide⟩ ?_
        refine go_c rfl ?_
        refine go_ild_2_1 rfl ?_
        refine go_iadd rfl ?_
        refine go_iald (j := 30 + k) rfl (⟨rfl, by decide, by decide, by decide⟩) (nI_add 30 k) (by omega) ?_
        refine go_iast (j := k) rfl (⟨rfl, by decide, by decide, by decide⟩) (rfl) (by omega) ?_
        refine go_inc_2_1 rfl rfl ?_
        refine go_goto rfl ?_
        rw [nI_1, qb_wr_s (g := fun k => m.1 194 (30 + k)) (by omega) (show (qb_wr m 198 0 k (fun k => m.1 194 (30 + k))).1 194 (30 + k) = (fun k => m.1 194 (30 + k)) k from qb_wr_o (Or.inl (by decide)))]
        exact ih (k + 1) (by omega)
  refine (en_267 d 192 _).trans ?_
  refine go_c rfl ?_
  refine go_ist_2_1 rfl rfl ?_
  have := loop 40 0 (by omega)
  rw [qb_wr_0] at this
  exact this
theorem sp_takeBackM (d : Nat) (m : qb_M) (c : Nat × Nat) : qe (d + 1) 268 [.ref 192] (qb_hp (m), 149, c) = some (none, (qb_hp (qb_wr m 194 30 40 (fun k => m.1 198 k)), 149, c)) := by
  have loop : ∀ n k, k + n = 40 → qa_lm (qe (d)) (qa_cd qc_268) (2, [.ref 192, .int (nI k)], [], (qb_hp (qb_wr m 194 30 k (fun k => m.1 198 k)), 149, c)) = some (none, (qb_hp (qb_wr m 194 30 40 (fun k => m.1 198 k)), 149, c)) := by
    intro n
    induction n with
    | zero =>
      intro k hk
      have hk : k = 40 := by omega
      subst hk
      refine go_ild_2_1 rfl ?_
      refine go_c rfl ?_
      refine go_icge rfl (fun e => ?_) (fun e => ?_)
      · exact fin_v rfl rfl
      · exact absurd (by decide) e
    | succ n ih =>
      intro k hk
      refine go_ild_2_1 rfl ?_
      refine go_c rfl ?_
      refine go_icge rfl (fun e => ?_) (fun e => ?_)
      · exact absurd e (nI_ge (b := 40) (by omega) (by omega))
      · refine go_ald_2_0 rfl ?_
        refine go_getr rfl ⟨_, rfl, rfl, by decide, by decide⟩ ?_
        refine go_c rfl ?_
        refine go_ild_2_1 rfl ?_
        refine go_iadd rfl ?_
        refine go_ald_2_0 rfl ?_
        refine go_getr rfl ⟨_, rfl, rfl, by decide, by decide⟩ ?_
        refine go_ild_2_1 rfl ?_
        refine go_iald (j := k) rfl (⟨rfl, by decide, by decide, by decide⟩) (rfl) (by omega) ?_
        refine go_iast (j := 30 + k) rfl (⟨rfl, by decide, by decide, by decide⟩) (nI_add 30 k) (by omega) ?_
        refine go_inc_2_1 rfl rfl ?_
        refine go_goto rfl ?_
        rw [nI_1, qb_wr_s (g := fun k => m.1 198 k) (by omega) (show (qb_wr m 194 30 k (fun k => m.1 198 k)).1 198 k = (fun k => m.1 198 k) k from qb_wr_o (Or.inl (by decide)))]
        exact ih (k + 1) (by omega)
  refine (en_268 d 192 _).trans ?_
  refine go_c rfl ?_
  refine go_ist_2_1 rfl rfl ?_
  have := loop 40 0 (by omega)
  rw [qb_wr_0] at this
  exact this
theorem od_loop {nw nm V : Nat} {lo hi : Nat → Nat} {H : Nat} {f0 G : Nat → Int32} (d e : Nat) (c : Nat × Nat) (i N : Nat) (x : Int32) (hi0 : i < nw) (hN : N ≤ 20) (hD : qD nw nm V lo hi H f0 G) : ∀ (n j v : Nat), j + n = N → ∀ s : qb_M, qP_pl s 67 nw nm lo hi → s.1 67 8 = nI V → (∀ k, k < 40 → qs_so s 73 k = f0 k) → ∃ r t, qa_lm (qe (d + 7)) (qa_cd qc_129) (27, [.ref 64, .int (nI i), .int (nI N), .int x, .int (nI v), .int (nI j)], [], (qb_hp (s), 149, c)) = some (some (.int (r)), (qb_hp (t), 149, c)) ∧ qC_f s t ∧ ∀ m : qb_M, m.1 194 = G → (∀ k, k < 40 → m.1 198 k = G (30 + k)) → ∃ m', qa_lm (qe (e + 10)) (qa_cd qc_266) (35, [.ref 192, .int (nI i), .int (nI N), .int x, .int (nI v), .int (nI j)], [], (qb_hp (m), 149, c)) = some (some (.int (r)), (qb_hp (m'), 149, c)) ∧ m'.1 194 = G ∧ qM_f m m' := by
  have h8 : nw ≤ 8 := hD.1.2.2.2.2.2.1
  intro n
  induction n with
  | zero =>
    intro j v hj s hp hV hf
    have hj : j = N := by omega
    subst hj
    refine ⟨nI v, s, ?_, qF.rf, fun m hm hm2 => ⟨m, ?_, hm, qG.rf⟩⟩
    · refine go_ild_6_5 rfl ?_
      refine go_ild_6_2 rfl ?_
      refine go_icge rfl (fun e1 => ?_) (fun e1 => ?_)
      · refine go_ild_6_4 rfl ?_
        exact fin_i rfl rfl rfl
      · exact absurd (Int32.le_refl _) e1
    · refine go_ild_6_5 rfl ?_
      refine go_ild_6_2 rfl ?_
      refine go_icge rfl (fun e1 => ?_) (fun e1 => ?_)
      · refine go_ild_6_4 rfl ?_
        exact fin_i rfl rfl rfl
      · exact absurd (Int32.le_refl _) e1
  | succ n ih =>
    intro j v hj s hp hV hf
    have hS := qS_145
    obtain ⟨s1, c1, c2, c3⟩ := sp_copyS (d + 6) s c qS_145 qS_73 (by decide)
    have hD1 : qD nw nm V lo hi H (qs_so s1 145) G := ⟨hD.1, hD.2.1, hD.2.2.1.ex (fun k hk => (c2 k hk).trans (hf k hk)) (fun _ _ => rfl), hD.2.2.2⟩
    obtain ⟨t, G', p1, p2, p3, p4, p5⟩ := dr_pass (d + 1) (e + 1) c s1 (hp.mv c3.F (by omega) (by omega) (by omega)) ((c3.F.i (by omega)).trans hV) hD1 12 (by decide) (x + nI j)
    have hft : qC_f s t := (c3.F.mo (fun x hx => by omega)).tr p2
    have hon := p3.2.2.1.on (w := i) (by omega)
    obtain ⟨r, u, q1, q2, q3⟩ := ih (j + 1) (if qs_on (qs_so t 145) i = true then v + 1 else v) (by omega) t (hft.pl hp) ((hft.i (by omega)).trans hV) (fun k hk => by rw [qs_so_F hft (fun k hk => by omega)]; exact hf k hk)
    refine ⟨r, u, ?_, hft.tr q2, fun m hm hm2 => ?_⟩
    · refine go_ild_6_5 rfl ?_
      refine go_ild_6_2 rfl ?_
      refine go_icge rfl (fun e1 => ?_) (fun e1 => ?_)
      · exact absurd e1 (nI_ge (by omega) (by omega))
      · refine go_ald_6_0 rfl ?_
        refine go_getr rfl ⟨_, rfl, rfl, by decide, by decide⟩ ?_
        refine go_ald_6_0 rfl ?_
        refine go_getr rfl ⟨_, rfl, rfl, by decide, by decide⟩ ?_
        refine go_call2 rfl (c1) (Nat.le_of_ble_eq_true rfl) (qS_v hS) ?_
        refine go_ald_6_0 rfl ?_
        refine go_getr rfl ⟨_, rfl, rfl, by decide, by decide⟩ ?_
        refine go_ald_6_0 rfl ?_
        refine go_getr rfl ⟨_, rfl, rfl, by decide, by decide⟩ ?_
        refine go_c rfl ?_
        refine go_ild_6_3 rfl ?_
        refine go_ild_6_5 rfl ?_
        refine go_iadd rfl ?_
        refine go_call4 rfl (p1) (Nat.le_of_ble_eq_true rfl) (qb_qv rfl (by decide) (by decide)) ?_
        refine go_pop_int rfl ?_
        refine go_ald_6_0 rfl ?_
        refine go_getr rfl ⟨_, rfl, rfl, by decide, by decide⟩ ?_
        refine go_ild_6_1 rfl ?_
        refine go_call2 rfl (sp_isUp (d + 6) t c hS i (by omega)) (Nat.le_of_ble_eq_true rfl) (qS_v hS) ?_
        refine go_ifeq rfl (fun e2 => ?_) (fun e2 => ?_)
        · rw [if_neg (qB_0.mp e2)] at q1
          refine go_inc_6_5 rfl rfl ?_
          refine go_goto rfl ?_
          rw [nI_1]
          exact q1
        · rw [if_pos (Classical.byContradiction fun z => e2 (qB_f z))] at q1
          refine go_inc_6_4 rfl rfl ?_
          rw [nI_1]
          refine go_inc_6_5 rfl rfl ?_
          refine go_goto rfl ?_
          rw [nI_1]
          exact q1
    · obtain ⟨m1, l1, l2, l3⟩ := p5 m hm
      have hb := sp_takeBackM (e + 9) m1 c
      obtain ⟨m2, hm3⟩ : ∃ m2, m2 = qb_wr m1 194 30 40 (fun k => m1.1 198 k) := ⟨_, rfl⟩
      rw [← hm3] at hb
      have g2 : qM_f m m2 := by rw [hm3]; exact l3.wr (fun k _ _ => by omega)
      have h194 : m2.1 194 = G := funext fun k => by
        by_cases hk : 30 ≤ k ∧ k < 70
        · obtain ⟨j, rfl⟩ : ∃ j, k = 30 + j := ⟨k - 30, by omega⟩
          rw [hm3, qb_wr_in (by omega), l3.i (by omega), hm2 j (by omega)]
        · rw [g2.i (by omega), hm]
      obtain ⟨m', g1, g3, g4⟩ := q3 m2 h194 (fun k hk => by rw [g2.i (by omega)]; exact hm2 k hk)
      refine ⟨m', ?_, g3, g2.tr g4⟩
      refine go_ild_6_5 rfl ?_
      refine go_ild_6_2 rfl ?_
      refine go_icge rfl (fun e1 => ?_) (fun e1 => ?_)
      · exact absurd e1 (nI_ge (by omega) (by omega))
      · refine go_ald_6_0 rfl ?_
        refine go_c rfl ?_
        refine go_ild_6_3 rfl ?_
        refine go_ild_6_5 rfl ?_
        refine go_iadd rfl ?_
        refine go_call3 rfl (l1) (Nat.le_of_ble_eq_true rfl) (qb_qv rfl (by decide) (by decide)) ?_
        refine go_pop_int rfl ?_
        refine go_ald_6_0 rfl ?_
        refine go_ild_6_1 rfl ?_
        refine go_call2 rfl (sp_isOn' (e + 9) m1 c i (by omega)) (Nat.le_of_ble_eq_true rfl) (qb_qv rfl (by decide) (by decide)) ?_
        rw [qm_soG l2, ← hon]
        refine go_ifeq rfl (fun e2 => ?_) (fun e2 => ?_)
        · rw [if_neg (qB_0.mp e2)] at g1
          refine go_ald_6_0 rfl ?_
          refine go_call1 rfl (hb) (Nat.le_of_ble_eq_true rfl) (qb_qv rfl (by decide) (by decide)) ?_
          refine go_inc_6_5 rfl rfl ?_
          refine go_goto rfl ?_
          rw [nI_1]
          exact g1
        · rw [if_pos (Classical.byContradiction fun z => e2 (qB_f z))] at g1
          refine go_inc_6_4 rfl rfl ?_
          rw [nI_1]
          refine go_ald_6_0 rfl ?_
          refine go_call1 rfl (hb) (Nat.le_of_ble_eq_true rfl) (qb_qv rfl (by decide) (by decide)) ?_
          refine go_inc_6_5 rfl rfl ?_
          refine go_goto rfl ?_
          rw [nI_1]
          exact g1
theorem qT_odds (d : Nat) (x y z : Int32) : qT (d + 20) 129 266 [.int x, .int y, .int z] := fun s c hZ => by
  obtain ⟨hx0, nw, nm, ns, V, F0, lo, hi, se, h1, h2, h3, h4⟩ := id hZ
  obtain ⟨hR, H, X, J, Lf, Sh, hI⟩ := id h2
  have hw := h1.1
  have cB : ∀ R, ((0 ≤ x ∧ x < nI nw) ∧ 1 ≤ y ∧ y ≤ 20 → qa_lm (qe (d + 19)) (qa_cd qc_129) (21, [.ref 64, .int x, .int y, .int z, .retAddr 0, .retAddr 0], [], (qb_hp (s), 149, c)) = R) → (¬ ((0 ≤ x ∧ x < nI nw) ∧ 1 ≤ y ∧ y ≤ 20) → some (some (.int (-1)), (qb_hp (s), 149, c)) = R) → qe (d + 20) 129 [.ref 64, .int x, .int y, .int z] (qb_hp (s), 149, c) = R := fun R k1 k2 => by
    refine (en_129 (d + 19) 64 x y z _).trans ?_
    have bad : ¬ ((0 ≤ x ∧ x < nI nw) ∧ 1 ≤ y ∧ y ≤ 20) → qa_lm (qe (d + 19)) (qa_cd qc_129) (19, [.ref 64, .int x, .int y, .int z, .retAddr 0, .retAddr 0], [], (qb_hp (s), 149, c)) = R := fun q => by
      have := k2 q
      refine go_c rfl ?_
      exact fin_i rfl rfl this
    refine go_ald_6_0 rfl ?_
    refine go_ild_6_1 rfl ?_
    refine go_call2 rfl (sp_isWireB (d + 18) s c h1.2.1.1 _) (Nat.le_of_ble_eq_true rfl) (qb_qv rfl (by decide) (by decide)) ?_
    refine go_ifeq rfl (fun e1 => ?_) (fun e1 => ?_)
    · exact bad (fun q => qB_0.mp e1 q.1)
    · refine go_ild_6_2 rfl ?_
      refine go_c rfl ?_
      refine go_iclt rfl (fun e2 => ?_) (fun e2 => ?_)
      · exact bad (fun q => absurd e2 (Int32.not_lt.mpr q.2.1))
      · refine go_ild_6_2 rfl ?_
        refine go_c rfl ?_
        refine go_icle rfl (fun e3 => ?_) (fun e3 => ?_)
        · exact k1 ⟨Classical.byContradiction fun z => e1 (qB_f z), Int32.not_lt.mp e2, e3⟩
        · exact bad (fun q => e3 q.2.2)
  have cM : ∀ (t : qb_M) R, t.1 194 0 = nI nw → ((0 ≤ x ∧ x < nI nw) ∧ 1 ≤ y ∧ y ≤ 20 → qa_lm (qe (d + 19)) (qa_cd qc_266) (25, [.ref 192, .int x, .int y, .int z, .retAddr 0, .retAddr 0], [], (qb_hp (qb_ui t 192 0 0), 149, c)) = R) → (¬ ((0 ≤ x ∧ x < nI nw) ∧ 1 ≤ y ∧ y ≤ 20) → some (some (.int (-1)), (qb_hp (qb_ui t 192 0 0), 149, c)) = R) → qe (d + 20) 266 [.ref 192, .int x, .int y, .int z] (qb_hp (t), 149, c) = R := fun t R ht k1 k2 => by
    refine (en_266 (d + 19) 192 x y z _).trans ?_
    have bad : ¬ ((0 ≤ x ∧ x < nI nw) ∧ 1 ≤ y ∧ y ≤ 20) → qa_lm (qe (d + 19)) (qa_cd qc_266) (23, [.ref 192, .int x, .int y, .int z, .retAddr 0, .retAddr 0], [], (qb_hp (qb_ui t 192 0 0), 149, c)) = R := fun q => by
      have := k2 q
      refine go_c rfl ?_
      exact fin_i rfl rfl this
    refine go_ald_6_0 rfl ?_
    refine go_c rfl ?_
    refine go_puti rfl ⟨_, rfl, rfl, by decide, by decide⟩ rfl rfl ?_
    refine go_ald_6_0 rfl ?_
    refine go_ild_6_1 rfl ?_
    refine go_call2 rfl (sp_isWire (d + 17) (qb_ui t 192 0 0) c (nw := nw) ((qb_t0 (by omega)).trans ht) (by omega) (by omega) _) (Nat.le_of_ble_eq_true rfl) (qb_qv rfl (by decide) (by decide)) ?_
    refine go_ifeq rfl (fun e1 => ?_) (fun e1 => ?_)
    · exact bad (fun q => qB_0.mp e1 q.1)
    · refine go_ild_6_2 rfl ?_
      refine go_c rfl ?_
      refine go_c rfl ?_
      refine go_call3 rfl (sp_isIn (d + 18) _ _ _ _) (Nat.le_of_ble_eq_true rfl) rfl ?_
      refine go_ifne rfl (fun e2 => ?_) (fun e2 => ?_)
      · exact bad (fun q => qB_0.mp e2 q.2)
      · exact k1 ⟨Classical.byContradiction fun z => e1 (qB_f z), Classical.byContradiction fun z => e2 (qB_f z)⟩
  by_cases hT : (0 ≤ x ∧ x < nI nw) ∧ 1 ≤ y ∧ y ≤ 20
  · obtain ⟨i, hi0, hxi⟩ := qx_w (by omega) hT.1
    obtain ⟨n, hn1, hn2, hyn⟩ := qx_in1 (a := 1) (b := 20) (by decide) hT.2.1 hT.2.2 (by decide)
    have hD : qD nw nm V lo hi H (qs_so s 73) (s.1 194) := qD.of h1 hR hI
    obtain ⟨r, t, p1, p2, p3⟩ := od_loop (d + 12) (d + 9) c i n z hi0 hn2 hD n 0 0 (by omega) s h1.c h1.2.1.2.2.2.1 (fun _ _ => rfl)
    obtain ⟨m0, hm0⟩ : ∃ m0, m0 = qb_wr (qb_ui t 192 0 0) 198 0 40 (fun k => (qb_ui t 192 0 0).1 194 (30 + k)) := ⟨_, rfl⟩
    have f0 : qG (fun x k => x = 192 ∧ k = 0 ∨ x = 198) t m0 := by rw [hm0]; exact (qG.rf.ui (by omega)).wr (fun k _ _ => by omega)
    have h194 : m0.1 194 = s.1 194 := funext fun k => (f0.i (by omega)).trans (p2.i (by omega))
    obtain ⟨m', g1, g2, g3⟩ := p3 m0 h194 (fun k hk => by rw [hm0, qb_wr_i0 hk]; exact (qb_t0 (by omega)).trans (p2.i (by omega)))
    refine ⟨r, t, m', cB _ (fun _ => ?_) (fun z => absurd hT z), cM t _ ((p2.i (by omega)).trans h1.2.2.1.1) (fun _ => ?_) (fun z => absurd hT z), ?_⟩
    · rw [hxi, hyn]
      refine go_c rfl ?_
      refine go_ist_6_4 rfl rfl ?_
      refine go_c rfl ?_
      refine go_ist_6_5 rfl rfl ?_
      exact p1
    · rw [hxi, hyn]
      have hl := sp_layAside (d + 18) (qb_ui t 192 0 0) c
      rw [← hm0] at hl
      refine go_ald_6_0 rfl ?_
      refine go_call1 rfl (hl) (Nat.le_of_ble_eq_true rfl) (qb_qv rfl (by decide) (by decide)) ?_
      refine go_c rfl ?_
      refine go_ist_6_4 rfl rfl ?_
      refine go_c rfl ?_
      refine go_ist_6_5 rfl rfl ?_
      exact g1
    · refine qZ_noact hZ p2 (u := m') ((f0.mo (fun x k h => by omega)).tr (g3.mo (fun x k h => by omega))) (fun k hk => ?_)
      rw [qm_soG g2]
      exact ((p2.i (by omega))).symm
  · exact ⟨-1, s, qb_ui s 192 0 0, cB _ (fun z => absurd z hT) (fun _ => rfl), cM s _ h1.2.2.1.1 (fun z => absurd z hT) (fun _ => rfl), hZ.thr 0⟩

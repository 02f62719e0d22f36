/-! the component's past, its beginning; the reference's rows of the same -/
theorem qS_73 : qS_sh 73 := by unfold qS_sh qb_ia; decide +kernel
theorem qS_145 : qS_sh 145 := by unfold qS_sh qb_ia; decide +kernel
theorem qS_163 : qS_sh 163 := by unfold qS_sh qb_ia; decide +kernel
theorem qS_180 : qS_sh 180 := by unfold qS_sh qb_ia; decide +kernel
theorem qS_k (x : Nat) (hx : x < 8) : qS_sh (85 + 5 * x) := by
  rcases (show x = 0 ∨ x = 1 ∨ x = 2 ∨ x = 3 ∨ x = 4 ∨ x = 5 ∨ x = 6 ∨ x = 7 by omega) with e | e | e | e | e | e | e | e <;> subst e <;> unfold qS_sh qb_ia <;> decide +kernel
def qs_s0 (X : Int32) : Nat → Int32 := fun k => if k = 1 then X else if 6 ≤ k ∧ k < 14 then -1 else 0
theorem sp_begin (d : Nat) (s : qb_M) (c : Nat × Nat) : ∃ t, qe (d + 2) 13 [.ref 73, .ref 67] (qb_hp s, 149, c) = some (none, (qb_hp t, 149, c)) ∧ (∀ k, k < 40 → qs_so t 73 k = qs_s0 (s.1 67 9) k) ∧ qb_fr s t 73 5 := by
  have hS := qS_73
  refine ⟨qb_ui (qb_ui (qb_ui (qb_ui (qb_ui (qb_ui (qb_wr (qb_wr (qb_wr (qb_wr s 74 0 8 (fun _ => -1)) 75 0 8 (fun _ => 0)) 76 0 8 (fun _ => 0)) 77 0 10 (fun _ => 0)) 73 4 0) 73 5 (s.1 67 9)) 73 6 0) 73 7 0) 73 8 0) 73 9 0, ?_, ?_, ?_⟩
  · refine (en_13 (d + 1) 73 67 _).trans ?_
    refine go_ald_2_0 rfl ?_
    refine go_getr rfl (qS_f hS rfl) ?_
    refine go_c rfl ?_
    refine go_call2 rfl (sp_fill d _ c hS.2.1.1 _) (Nat.le_of_ble_eq_true rfl) rfl ?_
    refine go_ald_2_0 rfl ?_
    refine go_getr rfl (qS_f hS rfl) ?_
    refine go_c rfl ?_
    refine go_call2 rfl (sp_fill d _ c hS.2.1.2.1 _) (Nat.le_of_ble_eq_true rfl) rfl ?_
    refine go_ald_2_0 rfl ?_
    refine go_getr rfl (qS_f hS rfl) ?_
    refine go_c rfl ?_
    refine go_call2 rfl (sp_fill d _ c hS.2.1.2.2.1 _) (Nat.le_of_ble_eq_true rfl) rfl ?_
    refine go_ald_2_0 rfl ?_
    refine go_getr rfl (qS_f hS rfl) ?_
    refine go_c rfl ?_
    refine go_call2 rfl (sp_fill d _ c hS.2.1.2.2.2 _) (Nat.le_of_ble_eq_true rfl) rfl ?_
    refine go_ald_2_0 rfl ?_
    refine go_c rfl ?_
    refine go_puti rfl (qS_f hS rfl) rfl rfl ?_
    refine go_ald_2_0 rfl ?_
    refine go_ald_2_1 rfl ?_
    refine go_geti rfl ⟨_, rfl, rfl, by decide, by decide⟩ ?_
    refine go_puti rfl (qS_f hS rfl) rfl rfl ?_
    refine go_ald_2_0 rfl ?_
    refine go_c rfl ?_
    refine go_puti rfl (qS_f hS rfl) rfl rfl ?_
    refine go_ald_2_0 rfl ?_
    refine go_c rfl ?_
    refine go_puti rfl (qS_f hS rfl) rfl rfl ?_
    refine go_ald_2_0 rfl ?_
    refine go_c rfl ?_
    refine go_puti rfl (qS_f hS rfl) rfl rfl ?_
    refine go_ald_2_0 rfl ?_
    refine go_c rfl ?_
    refine go_puti rfl (qS_f hS rfl) rfl rfl ?_
    exact fin_v rfl rfl
  · intro k hk
    revert k hk
    have hz : ∀ k, k < 40 → k = 1 ∨ k ≠ 1 := fun k _ => by omega
    intro k hk
    unfold qs_so
    by_cases h1 : k < 6
    · rw [if_pos h1]
      rcases (show k = 0 ∨ k = 1 ∨ k = 2 ∨ k = 3 ∨ k = 4 ∨ k = 5 by omega) with e | e | e | e | e | e <;> subst e <;> rfl
    rw [if_neg h1]
    by_cases h2 : k < 14
    · rw [if_pos h2]
      rw [show qs_s0 (s.1 67 9) k = -1 from by unfold qs_s0; rw [if_neg (by omega), if_pos ⟨by omega, h2⟩]]
      have := qb_wr_in (s := s) (a := 74) (i := 0) (n := 8) (k := k - 6) (g := fun _ => -1) (by omega)
      rw [Nat.zero_add] at this
      exact this
    rw [if_neg h2]
    rw [show qs_s0 (s.1 67 9) k = 0 from by unfold qs_s0; rw [if_neg (by omega), if_neg (by omega)]]
    by_cases h3 : k < 22
    · rw [if_pos h3]
      have := qb_wr_in (s := qb_wr s 74 0 8 (fun _ => -1)) (a := 75) (i := 0) (n := 8) (k := k - 14) (g := fun _ => 0) (by omega)
      rw [Nat.zero_add] at this
      exact this
    rw [if_neg h3]
    by_cases h4 : k < 30
    · rw [if_pos h4]
      have := qb_wr_in (s := qb_wr (qb_wr s 74 0 8 (fun _ => -1)) 75 0 8 (fun _ => 0)) (a := 76) (i := 0) (n := 8) (k := k - 22) (g := fun _ => 0) (by omega)
      rw [Nat.zero_add] at this
      exact this
    rw [if_neg h4]
    have := qb_wr_in (s := qb_wr (qb_wr (qb_wr s 74 0 8 (fun _ => -1)) 75 0 8 (fun _ => 0)) 76 0 8 (fun _ => 0)) (a := 77) (i := 0) (n := 10) (k := k - 30) (g := fun _ => 0) (by omega)
    rw [Nat.zero_add] at this
    exact this
  · exact ((((((((((qb_fr.rf.wr (by decide) (by decide)).wr (by decide) (by decide)).wr (by decide) (by decide)).wr (by decide) (by decide)).ui (by decide) (by decide)).ui (by decide) (by decide)).ui (by decide) (by decide)).ui (by decide) (by decide)).ui (by decide) (by decide)).ui (by decide) (by decide))
/-- the ring stands as it was made -/
def qs_rg (s : qb_M) : Prop := ∀ i, i < 8 → s.2.2 84 i = some (85 + 5 * i)
theorem qb_frS {s t : qb_M} {a b k : Nat} (h : qb_fr s t a 5) (hab : a + 5 ≤ b ∨ b + 5 ≤ a) : qs_so t b k = qs_so s b k := by
  unfold qs_so
  rw [h.2 b _ (by omega), h.2 (b + 1) _ (by omega), h.2 (b + 2) _ (by omega), h.2 (b + 3) _ (by omega), h.2 (b + 4) _ (by omega)]
theorem qs_so_ui {s : qb_M} {a b k j : Nat} {v : Int32} (h : a < b ∨ b + 5 ≤ a) : qs_so (qb_ui s a k v) b j = qs_so s b j := by
  unfold qs_so
  rw [qb_ui_1n (Or.inl (by omega)), qb_ui_1n (Or.inl (by omega)), qb_ui_1n (Or.inl (by omega)), qb_ui_1n (Or.inl (by omega)), qb_ui_1n (Or.inl (by omega))]
theorem qx_rem8 {a : Nat} (h : a < 2 ^ 30) : nI a - nI a / 8 * 8 = nI (a % 8) := pk_rem (d := 8) (by omega) (by decide) (by decide)
theorem sp_keep (d : Nat) (s : qb_M) (c : Nat × Nat) {a x z : Nat} (hT : qS_sh a) (ha : a < 85 ∧ a + 5 ≤ 83 ∨ 125 ≤ a) (hr : qs_rg s) (hx : x < 8) (hz : z ≤ 8) (e1 : s.1 83 1 = nI x) (e2 : s.1 83 2 = nI z) : ∃ t, qe (d + 2) 81 [.ref 83, .ref a] (qb_hp s, 149, c) = some (none, (qb_hp t, 149, c)) ∧ (∀ k, k < 40 → qs_so t (85 + 5 * x) k = qs_so s a k) ∧ (∀ y, y < 8 → y ≠ x → ∀ k, qs_so t (85 + 5 * y) k = qs_so s (85 + 5 * y) k) ∧ t.1 83 1 = nI ((x + 1) % 8) ∧ t.1 83 2 = nI (min (z + 1) 8) ∧ t.2 = s.2 ∧ ∀ y k, (y < 83 ∨ 125 ≤ y) → t.1 y k = s.1 y k := by
  have hS := qS_k x hx
  obtain ⟨t, h1, h2, h3⟩ := sp_copyS d s c hS hT (by omega)
  have k1 : t.1 83 1 = nI x := by rw [h3.2 83 1 (by omega)]; exact e1
  have k2 : t.1 83 2 = nI z := by rw [h3.2 83 2 (by omega)]; exact e2
  refine ⟨qb_ui (qb_ui t 83 1 (nI ((x + 1) % 8))) 83 2 (nI (min (z + 1) 8)), ?_, ?_, ?_, ?_, ?_, ?_, ?_⟩
  · refine (en_81 (d + 1) 83 a _).trans ?_
    refine go_ald_2_0 rfl ?_
    refine go_getr rfl ⟨_, rfl, rfl, by decide, by decide⟩ ?_
    refine go_ald_2_0 rfl ?_
    refine go_geti rfl ⟨_, rfl, rfl, by decide, by decide⟩ ?_
    rw [e1]
    refine go_aald (j := x) rfl (⟨rfl, by decide, by decide, by decide⟩) (rfl) (by omega) ?_
    rw [hr x hx]
    refine go_ald_2_1 rfl ?_
    refine go_call2 rfl (h1) (Nat.le_of_ble_eq_true rfl) (qS_v hS) ?_
    refine go_ald_2_0 rfl ?_
    refine go_ald_2_0 rfl ?_
    refine go_geti rfl ⟨_, rfl, rfl, by decide, by decide⟩ ?_
    rw [k1]
    refine go_c rfl ?_
    refine go_iadd rfl ?_
    rw [nI_1]
    refine go_c rfl ?_
    refine go_irem rfl (by decide) ?_
    rw [qx_rem8 (by omega)]
    refine go_puti rfl ⟨_, rfl, rfl, by decide, by decide⟩ rfl rfl ?_
    refine go_ald_2_0 rfl ?_
    refine go_ald_2_0 rfl ?_
    refine go_geti rfl ⟨_, rfl, rfl, by decide, by decide⟩ ?_
    rw [qb_ui_1n (Or.inr (by decide)), k2]
    refine go_c rfl ?_
    refine go_iadd rfl ?_
    rw [nI_1]
    refine go_c rfl ?_
    refine go_min rfl (Nat.le_of_ble_eq_true rfl) ?_
    have e9 : (if (8 : Int32) < nI (z + 1) then 8 else nI (z + 1)) = nI (min (z + 1) 8) := by
      by_cases q : z + 1 ≤ 8
      · rw [if_neg (show ¬ (8 : Int32) < nI (z + 1) from nI_nlt (a := 8) (b := z + 1) q (by decide)), Nat.min_eq_left q]
      · have : z = 8 := by omega
        subst this
        rfl
    rw [e9]
    refine go_puti rfl ⟨_, rfl, rfl, by decide, by decide⟩ rfl rfl ?_
    exact fin_v rfl rfl
  · intro k hk
    rw [qs_so_ui (by omega), qs_so_ui (by omega)]
    exact h2 k hk
  · intro y hy hyx k
    rw [qs_so_ui (by omega), qs_so_ui (by omega)]
    exact qb_frS h3 (by omega)
  · rw [qb_ui_1n (Or.inr (by decide)), qb_ui_1s]
  · rw [qb_ui_1s]
  · exact h3.1
  · intro y k hy
    rw [qb_ui_1n (Or.inl (by omega)), qb_ui_1n (Or.inl (by omega))]
    exact h3.2 y k (by omega)
theorem sp_settle (d : Nat) (s : qb_M) (c : Nat × Nat) {x z : Nat} (hr : qs_rg s) (hx : x < 8) (hz : z ≤ 8) (e1 : s.1 83 1 = nI x) (e2 : s.1 83 2 = nI z) : ∃ t, qe (d + 3) 80 [.ref 64] (qb_hp s, 149, c) = some (none, (qb_hp t, 149, c)) ∧ (∀ k, k < 40 → qs_so t (85 + 5 * x) k = qs_so s 73 k) ∧ (∀ k, k < 40 → qs_so t 73 k = qs_so s 145 k) ∧ (∀ y, y < 8 → y ≠ x → ∀ k, qs_so t (85 + 5 * y) k = qs_so s (85 + 5 * y) k) ∧ t.1 83 1 = nI ((x + 1) % 8) ∧ t.1 83 2 = nI (min (z + 1) 8) ∧ t.2 = s.2 ∧ ∀ y k, (y < 73 ∨ 78 ≤ y ∧ y < 83 ∨ 125 ≤ y) → t.1 y k = s.1 y k := by
  obtain ⟨t, h1, h2, h3, h4, h5, h6, h7⟩ := sp_keep d s c qS_73 (by decide) hr hx hz e1 e2
  obtain ⟨u, g1, g2, g3⟩ := sp_copyS (d + 1) t c qS_73 qS_145 (by decide)
  refine ⟨u, ?_, ?_, ?_, ?_, ?_, ?_, ?_, ?_⟩
  · refine (en_80 (d + 2) 64 _).trans ?_
    have hS := qS_73
    refine go_ald_1_0 rfl ?_
    refine go_getr rfl ⟨_, rfl, rfl, by decide, by decide⟩ ?_
    refine go_ald_1_0 rfl ?_
    refine go_getr rfl ⟨_, rfl, rfl, by decide, by decide⟩ ?_
    refine go_call2 rfl (h1) (Nat.le_of_ble_eq_true rfl) (qb_qv rfl (by decide) (by decide)) ?_
    refine go_ald_1_0 rfl ?_
    refine go_getr rfl ⟨_, rfl, rfl, by decide, by decide⟩ ?_
    refine go_ald_1_0 rfl ?_
    refine go_getr rfl ⟨_, rfl, rfl, by decide, by decide⟩ ?_
    refine go_call2 rfl (g1) (Nat.le_of_ble_eq_true rfl) (qS_v hS) ?_
    exact fin_v rfl rfl
  · intro k hk
    rw [qb_frS g3 (by omega)]
    exact h2 k hk
  · intro k hk
    rw [g2 k hk]
    unfold qs_so
    rw [h7 145 _ (by decide), h7 146 _ (by decide), h7 147 _ (by decide), h7 148 _ (by decide), h7 149 _ (by decide)]
  · intro y hy hyx k
    rw [qb_frS g3 (by omega)]
    exact h3 y hy hyx k
  · rw [g3.2 83 1 (by decide)]; exact h4
  · rw [g3.2 83 2 (by decide)]; exact h5
  · rw [g3.1]; exact h6
  · intro y k hy
    rw [g3.2 y k (by omega)]
    exact h7 y k (by omega)
theorem sp_takeBackP (d : Nat) (s : qb_M) (c : Nat × Nat) {x z : Nat} (hr : qs_rg s) (hx : x < 8) (hz : z < 8) (e1 : s.1 83 1 = nI x) (e2 : s.1 83 2 = nI (z + 1)) : ∃ t, qe (d + 2) 89 [.ref 83, .ref 73] (qb_hp s, 149, c) = some (some (.int 1), (qb_hp t, 149, c)) ∧ (∀ k, k < 40 → qs_so t 73 k = qs_so s (85 + 5 * ((x + 7) % 8)) k) ∧ t.1 83 1 = nI ((x + 7) % 8) ∧ t.1 83 2 = nI z ∧ t.2 = s.2 ∧ ∀ y k, (y < 73 ∨ 78 ≤ y ∧ y ≠ 83) → t.1 y k = s.1 y k := by
  have hm : (x + 7) % 8 < 8 := Nat.mod_lt _ (by decide)
  have hT := qS_k _ hm
  have hS := qS_73
  obtain ⟨t, h1, h2, h3⟩ := sp_copyS d (qb_ui (qb_ui s 83 1 (nI ((x + 7) % 8))) 83 2 (nI z)) c hS hT (by omega)
  refine ⟨t, ?_, ?_, ?_, ?_, ?_, ?_⟩
  · refine (en_89 (d + 1) 83 73 _).trans ?_
    refine go_ald_2_0 rfl ?_
    refine go_geti rfl ⟨_, rfl, rfl, by decide, by decide⟩ ?_
    rw [e2]
    refine go_ifne rfl (fun e => ?_) (fun e => ?_)
    · exact absurd e (nI_ne0 (by omega) (by omega))
    · refine go_ald_2_0 rfl ?_
      refine go_ald_2_0 rfl ?_
      refine go_geti rfl ⟨_, rfl, rfl, by decide, by decide⟩ ?_
      rw [e1]
      refine go_c rfl ?_
      refine go_iadd rfl ?_
      refine go_c rfl ?_
      refine go_isub rfl ?_
      rw [show nI x + 8 - 1 = nI (x + 7) by rw [show (8 : Int32) = nI 8 from rfl, nI_add, show x + 8 = (x + 7) + 1 by omega, nI_pred]]
      refine go_c rfl ?_
      refine go_irem rfl (by decide) ?_
      rw [qx_rem8 (by omega)]
      refine go_puti rfl ⟨_, rfl, rfl, by decide, by decide⟩ rfl rfl ?_
      refine go_ald_2_0 rfl ?_
      refine go_dup_ref rfl ?_
      refine go_geti rfl ⟨_, rfl, rfl, by decide, by decide⟩ ?_
      rw [qb_ui_1n (Or.inr (by decide)), e2]
      refine go_c rfl ?_
      refine go_isub rfl ?_
      rw [nI_pred]
      refine go_puti rfl ⟨_, rfl, rfl, by decide, by decide⟩ rfl rfl ?_
      refine go_ald_2_1 rfl ?_
      refine go_ald_2_0 rfl ?_
      refine go_getr rfl ⟨_, rfl, rfl, by decide, by decide⟩ ?_
      refine go_ald_2_0 rfl ?_
      refine go_geti rfl ⟨_, rfl, rfl, by decide, by decide⟩ ?_
      rw [qb_ui_1n (Or.inr (by decide)), qb_ui_1s]
      refine go_aald (j := (x + 7) % 8) rfl (⟨rfl, by decide, by decide, by decide⟩) (rfl) (by omega) ?_
      have e9 : (qb_ui (qb_ui s 83 1 (nI ((x + 7) % 8))) 83 2 (nI z)).2.2 84 ((x + 7) % 8) = some (85 + 5 * ((x + 7) % 8)) := hr _ hm
      rw [e9]
      refine go_call2 rfl (h1) (Nat.le_of_ble_eq_true rfl) (qS_v hS) ?_
      refine go_c rfl ?_
      exact fin_i rfl rfl (rfl)
  · intro k hk
    rw [h2 k hk, qs_so_ui (by omega), qs_so_ui (by omega)]
  · rw [h3.2 83 1 (by decide), qb_ui_1n (Or.inr (by decide)), qb_ui_1s]
  · rw [h3.2 83 2 (by decide), qb_ui_1s]
  · exact h3.1
  · intro y k hy
    rw [h3.2 y k (by omega), qb_ui_1n (Or.inl (by omega)), qb_ui_1n (Or.inl (by omega))]

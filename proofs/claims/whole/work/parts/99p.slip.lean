/-! slip, in both -/
def sl_t (j : Nat) : List Nat := [[32, 116, 111, 32], [32, 102, 111, 114, 32], [32, 103, 111, 101, 115, 32, 116, 111, 32]].getD j []
theorem sl_by : ∀ j, j < 3 → qw_by.getD j [] = (sl_t j).map nI := by decide +kernel
theorem sl_lt : ∀ j, j < 3 → ∀ i, i < 9 → (sl_t j).getD i 0 < 128 := by decide +kernel
theorem sl_len : ∀ j, j < 3 → (sl_t j).length ≤ 9 := by decide +kernel
theorem sl_tv {j : Nat} (hj : j < 3) : qw_tv (25 + j) = some (.ref (30 + j)) := by
  unfold qw_tv
  rw [if_pos (by omega), show 25 + j + 5 = 30 + j by omega]
theorem sl_tc {j : Nat} (hj : j < 3) : qw_tc (25 + j) = some (.int 0) := by
  unfold qw_tc
  rw [if_pos (by omega)]
theorem sl_tb {j : Nat} (hj : j < 3) : qw_tb (30 + j) = some (((sl_t j).map nI).map Value.int) := by
  unfold qw_tb
  rw [if_pos (by omega), show 30 + j - 30 = j by omega, sl_by j hj]
theorem qv_sj {h : qa_H} {j : Nat} {t : List Value} (hj : j < 3) : qv_s h (.ref (25 + j) :: t) = true := by
  show decide (25 ≤ 25 + j ∧ 25 + j < 28) = true
  exact decide_eq_true ⟨by omega, by omega⟩
theorem sp_coder (d : Nat) (h : qa_H) {j : Nat} (hj : j < 3) : qe (d + 1) 121 [.ref (25 + j)] h = some (some (.int 0), h) := by
  refine (en_121 d (25 + j) h).trans ?_
  refine go_c rfl ?_
  refine go_ifeq rfl (fun e => absurd e (by decide)) (fun _ => ?_)
  refine go_ald_1_0 rfl ?_
  refine go_sf rfl (sl_tc hj) ?_
  refine go_goto rfl ?_
  exact fin_i rfl rfl rfl
theorem sp_strLen (d : Nat) (h : qa_H) {j : Nat} (hj : j < 3) : qe (d + 2) 120 [.ref (25 + j)] h = some (some (.int (nI (sl_t j).length)), h) := by
  have hl := sl_len j hj
  refine (en_120 (d + 1) (25 + j) h).trans ?_
  refine go_ald_1_0 rfl ?_
  refine go_sf rfl (sl_tv hj) ?_
  refine go_sn (N := (sl_t j).length) rfl (sl_tb hj) (by rw [List.length_map, List.length_map]) ?_
  refine go_ald_1_0 rfl ?_
  refine go_call1 rfl (sp_coder d h hj) (Nat.le_of_ble_eq_true rfl) (qv_sj hj) ?_
  refine go_ishr rfl ?_
  rw [show (0 : Int32) = nI 0 from rfl, qx_shr0 (by omega) (by decide), Nat.pow_zero, Nat.div_one]
  exact fin_i rfl rfl rfl
theorem sp_isLatin (d : Nat) (h : qa_H) {j : Nat} (hj : j < 3) : qe (d + 1) 123 [.ref (25 + j)] h = some (some (.int 1), h) := by
  refine (en_123 d (25 + j) h).trans ?_
  refine go_c rfl ?_
  refine go_ifeq rfl (fun e => absurd e (by decide)) (fun _ => ?_)
  refine go_ald_1_0 rfl ?_
  refine go_sf rfl (sl_tc hj) ?_
  refine go_ifne rfl (fun _ => ?_) (fun e => absurd rfl e)
  refine go_c rfl ?_
  refine go_goto rfl ?_
  exact fin_i rfl rfl rfl
theorem sp_check (d : Nat) (h : qa_H) {x y : Int32} (h0 : ¬ x < 0) (h1 : x < y) : qe (d + 1) 294 [.int x, .int y] h = some (none, h) := by
  refine (en_294 d x y h).trans ?_
  refine go_ild_2_0 rfl ?_
  refine go_ild_2_1 rfl ?_
  refine (qa_go (y := (9, [.int x, .int y], [], h)) (op := qa_q (qh_ck 9)) rfl (by
    unfold qa_q qh_ck
    dsimp only
    rw [if_pos ⟨by decide, h0, h1⟩])).trans ?_
  exact fin_v rfl rfl
theorem sl_c : ∀ b, b < 128 → nI b &&& 255 = nI b ∧ ((nI b).toUInt32 % 65536).toInt32 = nI b ∧ narrow .char (.int (nI b)) = .int (nI b) := by
  have h1 : ∀ b, b < 128 → nI b &&& 255 = nI b ∧ ((nI b).toUInt32 % 65536).toInt32 = nI b := by decide +kernel
  exact fun b hb => ⟨(h1 b hb).1, (h1 b hb).2, (pk_charN (by omega)).1⟩
theorem sp_charAt (d : Nat) (h : qa_H) {j : Nat} (hj : j < 3) {i : Nat} (hi : i < (sl_t j).length) : qe (d + 3) 122 [.ref (25 + j), .int (nI i)] h = some (some (.int (nI ((sl_t j).getD i 0))), h) := by
  have hl := sl_len j hj
  have hb : (sl_t j)[i]? = some ((sl_t j).getD i 0) := by rw [List.getD_eq_getElem?_getD, List.getElem?_eq_getElem hi]; rfl
  obtain ⟨c1, c2, c3⟩ := sl_c _ (sl_lt j hj i (by omega))
  have h124 : qe (d + 2) 124 [.ref (30 + j), .int (nI i)] h = some (some (.int (nI ((sl_t j).getD i 0))), h) := by
    refine (en_124 (d + 1) (30 + j) (nI i) h).trans ?_
    refine go_ild_2_1 rfl ?_
    refine go_ald_2_0 rfl ?_
    refine go_sn (N := (sl_t j).length) rfl (sl_tb hj) (by rw [List.length_map, List.length_map]) ?_
    refine go_call2 rfl (sp_check d h (nI_pos (by omega)) (nI_lt hi (by omega))) (Nat.le_of_ble_eq_true rfl) rfl ?_
    refine go_ald_2_0 rfl ?_
    refine go_ild_2_1 rfl ?_
    refine go_sa (v := .int (nI ((sl_t j).getD i 0))) rfl (sl_tb hj) (by rw [List.getElem?_map, List.getElem?_map, hb]; rfl) (by omega) ?_
    refine go_c rfl ?_
    refine go_iand rfl ?_
    rw [c1]
    refine go_i2c rfl ?_
    rw [c2]
    exact fin_i rfl c3 rfl
  refine (en_122 (d + 2) (25 + j) (nI i) h).trans ?_
  refine go_ald_2_0 rfl ?_
  refine go_call1 rfl (sp_isLatin (d + 1) h hj) (Nat.le_of_ble_eq_true rfl) (qv_sj hj) ?_
  refine go_ifeq rfl (fun e => absurd e (by decide)) (fun _ => ?_)
  refine go_ald_2_0 rfl ?_
  refine go_sf rfl (sl_tv hj) ?_
  refine go_ild_2_1 rfl ?_
  refine go_call2 rfl h124 (Nat.le_of_ble_eq_true rfl) rfl ?_
  exact fin_i rfl c3 rfl
/-- writing, at array A with its length at (B, k) -/
def sl_w (A B k : Nat) (s : qb_M) (m b : Nat) : qb_M := qb_ui (qb_ui s A m (nI b)) B k (nI (m + 1))
def sl_ws (A B k : Nat) : qb_M → Nat → List Nat → qb_M
  | s, _, [] => s
  | s, m, b :: bs => sl_ws A B k (sl_w A B k s m b) (m + 1) bs
theorem sl_ws_app {A B k : Nat} : ∀ (as bs : List Nat) (s : qb_M) (m : Nat), sl_ws A B k s m (as ++ bs) = sl_ws A B k (sl_ws A B k s m as) (m + as.length) bs
  | [], bs, s, m => rfl
  | a :: as, bs, s, m => by
    show sl_ws A B k (sl_w A B k s m a) (m + 1) (as ++ bs) = _
    rw [sl_ws_app as bs, List.length_cons, show m + 1 + as.length = m + (as.length + 1) by omega]
    rfl
theorem sl_ws_G {A B k : Nat} : ∀ (bs : List Nat) (s : qb_M) (m : Nat), qG (fun x j => x = A ∧ m ≤ j ∨ x = B ∧ j = k) s (sl_ws A B k s m bs)
  | [], s, m => qG.rf
  | b :: bs, s, m => ((qG.rf.ui (Or.inl ⟨rfl, Nat.le_refl _⟩)).ui (Or.inr ⟨rfl, rfl⟩)).tr ((sl_ws_G bs (sl_w A B k s m b) (m + 1)).mo (fun x j h => h.elim (fun z => Or.inl ⟨z.1, by omega⟩) Or.inr))
theorem sl_ws_n {A B k : Nat} : ∀ (bs : List Nat) (s : qb_M) (m : Nat), s.1 B k = nI m → (sl_ws A B k s m bs).1 B k = nI (m + bs.length)
  | [], s, m, h => h
  | b :: bs, s, m, _ => by
    show (sl_ws A B k (sl_w A B k s m b) (m + 1) bs).1 B k = _
    rw [sl_ws_n bs (sl_w A B k s m b) (m + 1) (show (sl_w A B k s m b).1 B k = nI (m + 1) from qb_ui_1s), List.length_cons, show m + 1 + bs.length = m + (bs.length + 1) by omega]
theorem sl_ws_at {A B k : Nat} (hAB : A ≠ B) : ∀ (bs : List Nat) (s : qb_M) (m j : Nat), j < bs.length → (sl_ws A B k s m bs).1 A (m + j) = nI (bs.getD j 0)
  | [], s, m, j, h => absurd h (Nat.not_lt_zero j)
  | b :: bs, s, m, 0, _ => by
    show (sl_ws A B k (sl_w A B k s m b) (m + 1) bs).1 A (m + 0) = _
    rw [(sl_ws_G bs (sl_w A B k s m b) (m + 1)).i (by intro z; rcases z with z | z; omega; exact hAB z.1)]
    exact (qb_ui_1n (Or.inl hAB)).trans qb_ui_1s
  | b :: bs, s, m, j + 1, h => by
    have := sl_ws_at (k := k) hAB bs (sl_w A B k s m b) (m + 1) j (by rw [List.length_cons] at h; omega)
    rw [show m + 1 + j = m + (j + 1) by omega] at this
    exact this
abbrev sl_C := sl_ws 190 64 14
abbrev sl_M := sl_ws 208 192 34
theorem sp_slipByte (d : Nat) (s : qb_M) (c : Nat × Nat) {m : Nat} (hm : m < 16) (h : s.1 64 14 = nI m) (b : Nat) : qe (d + 1) 118 [.ref 64, .int (nI b)] (qb_hp (s), 149, c) = some (none, (qb_hp (sl_C s m [b]), 149, c)) := by
  refine (en_118 d 64 (nI b) _).trans ?_
  refine go_ald_2_0 rfl ?_
  refine go_geti rfl ⟨_, rfl, rfl, by decide, by decide⟩ ?_
  rw [h]
  refine go_ald_2_0 rfl ?_
  refine go_getr rfl ⟨_, rfl, rfl, by decide, by decide⟩ ?_
  refine go_len rfl (⟨rfl, by decide, by decide, by decide⟩) ?_
  refine go_icge rfl (fun e => ?_) (fun e => ?_)
  · exact absurd e (nI_ge (b := 16) hm (by decide))
  · refine go_ald_2_0 rfl ?_
    refine go_getr rfl ⟨_, rfl, rfl, by decide, by decide⟩ ?_
    refine go_ald_2_0 rfl ?_
    refine go_geti rfl ⟨_, rfl, rfl, by decide, by decide⟩ ?_
    rw [h]
    refine go_ild_2_1 rfl ?_
    refine go_iast (j := m) rfl (⟨rfl, by decide, by decide, by decide⟩) (rfl) (by omega) ?_
    refine go_ald_2_0 rfl ?_
    refine go_dup_ref rfl ?_
    refine go_geti rfl ⟨_, rfl, rfl, by decide, by decide⟩ ?_
    rw [show (qb_ui s 190 m (nI b)).1 64 14 = nI m from h]
    refine go_c rfl ?_
    refine go_iadd rfl ?_
    rw [nI_1]
    refine go_puti rfl ⟨_, rfl, rfl, by decide, by decide⟩ rfl rfl ?_
    exact fin_v rfl rfl
theorem sp_slipDigit (d : Nat) (s : qb_M) (c : Nat × Nat) {m : Nat} (hm : m < 16) (h : s.1 64 14 = nI m) (b : Nat) : qe (d + 2) 117 [.ref 64, .int (nI b)] (qb_hp (s), 149, c) = some (none, (qb_hp (sl_C s m [48 + b]), 149, c)) := by
  refine (en_117 (d + 1) 64 (nI b) _).trans ?_
  refine go_ald_2_0 rfl ?_
  refine go_c rfl ?_
  refine go_ild_2_1 rfl ?_
  refine go_iadd rfl ?_
  rw [show (48 : Int32) + nI b = nI (48 + b) from nI_add 48 b]
  refine go_call2 rfl (sp_slipByte d s c hm h (48 + b)) (Nat.le_of_ble_eq_true rfl) (qb_qv rfl (by decide) (by decide)) ?_
  exact fin_v rfl rfl
theorem sp_slipText (d : Nat) (s : qb_M) (c : Nat × Nat) {m j : Nat} (hj : j < 3) (hm : m + (sl_t j).length ≤ 16) (h : s.1 64 14 = nI m) : qe (d + 4) 119 [.ref 64, .ref (25 + j)] (qb_hp (s), 149, c) = some (none, (qb_hp (sl_C s m (sl_t j)), 149, c)) := by
  have hl := sl_len j hj
  have loop : ∀ (n i : Nat), i + n = (sl_t j).length → qa_lm (qe (d + 3)) (qa_cd qc_119) (2, [.ref 64, .ref (25 + j), .int (nI i)], [], (qb_hp (sl_C s m ((sl_t j).take i)), 149, c)) = some (none, (qb_hp (sl_C s m (sl_t j)), 149, c)) := by
    intro n
    induction n with
    | zero =>
      intro i hi
      have hi : i = (sl_t j).length := by omega
      subst hi
      rw [List.take_length]
      refine go_ild_3_2 rfl ?_
      refine go_ald_3_1 rfl ?_
      refine go_call1 rfl (sp_strLen (d + 1) _ hj) (Nat.le_of_ble_eq_true rfl) (qv_sj hj) ?_
      refine go_icge rfl (fun _ => ?_) (fun e => absurd (Int32.le_refl _) e)
      exact fin_v rfl rfl
    | succ n ih =>
      intro i hi
      have ih := ih (i + 1) (by omega)
      have hlen : ((sl_t j).take i).length = i := by rw [List.length_take]; omega
      have hn : (sl_C s m ((sl_t j).take i)).1 64 14 = nI (m + i) := by
        have := sl_ws_n (A := 190) ((sl_t j).take i) s m h
        rw [hlen] at this
        exact this
      have hstep : sl_C (sl_C s m ((sl_t j).take i)) (m + i) [(sl_t j).getD i 0] = sl_C s m ((sl_t j).take (i + 1)) := by
        have := sl_ws_app (A := 190) (B := 64) (k := 14) ((sl_t j).take i) [(sl_t j).getD i 0] s m
        rw [hlen] at this
        rw [show sl_C = sl_ws 190 64 14 from rfl, ← this, List.take_succ, List.getD_eq_getElem?_getD, List.getElem?_eq_getElem (by omega)]
        rfl
      have hb := sp_slipByte (d + 2) (sl_C s m ((sl_t j).take i)) c (m := m + i) (by omega) hn ((sl_t j).getD i 0)
      rw [hstep] at hb
      refine go_ild_3_2 rfl ?_
      refine go_ald_3_1 rfl ?_
      refine go_call1 rfl (sp_strLen (d + 1) _ hj) (Nat.le_of_ble_eq_true rfl) (qv_sj hj) ?_
      refine go_icge rfl (fun e => absurd e (nI_ge (by omega) (by omega))) (fun _ => ?_)
      refine go_ald_3_0 rfl ?_
      refine go_ald_3_1 rfl ?_
      refine go_ild_3_2 rfl ?_
      refine go_call2 rfl (sp_charAt d _ hj (by omega)) (Nat.le_of_ble_eq_true rfl) (qv_sj hj) ?_
      refine go_call2 rfl hb (Nat.le_of_ble_eq_true rfl) (qb_qv rfl (by decide) (by decide)) ?_
      refine go_inc_3_2 rfl rfl ?_
      refine go_goto rfl ?_
      rw [nI_1]
      exact ih
  refine (en_119 (d + 3) 64 (25 + j) _).trans ?_
  refine go_c rfl ?_
  refine go_ist_3_2 rfl rfl ?_
  exact loop (sl_t j).length 0 (by omega)
/-! slip: the reference's writing -/
theorem sp_write (d : Nat) (s : qb_M) (c : Nat × Nat) {m : Nat} (hm : m < 16) (h : s.1 192 34 = nI m) (b : Nat) : qe (d + 1) 257 [.ref 192, .int (nI b)] (qb_hp (s), 149, c) = some (none, (qb_hp (sl_M s m [b]), 149, c)) := by
  refine (en_257 d 192 (nI b) _).trans ?_
  refine go_ald_2_0 rfl ?_
  refine go_getr rfl ⟨_, rfl, rfl, by decide, by decide⟩ ?_
  refine go_ald_2_0 rfl ?_
  refine go_geti rfl ⟨_, rfl, rfl, by decide, by decide⟩ ?_
  rw [h]
  refine go_ild_2_1 rfl ?_
  refine go_iast (j := m) rfl (⟨rfl, by decide, by decide, by decide⟩) (rfl) (by omega) ?_
  refine go_ald_2_0 rfl ?_
  refine go_dup_ref rfl ?_
  refine go_geti rfl ⟨_, rfl, rfl, by decide, by decide⟩ ?_
  rw [show (qb_ui s 208 m (nI b)).1 192 34 = nI m from h]
  refine go_c rfl ?_
  refine go_iadd rfl ?_
  rw [nI_1]
  refine go_puti rfl ⟨_, rfl, rfl, by decide, by decide⟩ rfl rfl ?_
  exact fin_v rfl rfl
theorem sl_1 {A B k : Nat} {s : qb_M} {m : Nat} {as : List Nat} {b n : Nat} (hn : as.length = n) : sl_ws A B k (sl_ws A B k s m as) (m + n) [b] = sl_ws A B k s m (as ++ [b]) := by rw [sl_ws_app, hn]
theorem sl_2 {A B k : Nat} {s : qb_M} {m : Nat} {as bs : List Nat} {n : Nat} (hn : as.length = n) : sl_ws A B k (sl_ws A B k s m as) (m + n) bs = sl_ws A B k s m (as ++ bs) := by rw [sl_ws_app, hn]
def sl_d (v : Nat) : List Nat := if v ≤ 9 then [48 + v] else [48 + v / 10, 48 + v % 10]
theorem sp_num1 (d : Nat) (s : qb_M) (c : Nat × Nat) {m : Nat} (hm : m < 16) (h : s.1 192 34 = nI m) {v : Nat} (hv : v ≤ 9) : qe (d + 2) 256 [.ref 192, .int (nI v)] (qb_hp (s), 149, c) = some (none, (qb_hp (sl_M s m [48 + v]), 149, c)) := by
  refine (en_256 (d + 1) 192 (nI v) _).trans ?_
  refine go_ild_2_1 rfl ?_
  refine go_c rfl ?_
  refine go_icle rfl (fun e => ?_) (fun e => ?_)
  · refine go_ald_2_0 rfl ?_
    refine go_c rfl ?_
    refine go_ild_2_1 rfl ?_
    refine go_c rfl ?_
    refine go_irem rfl (by decide) ?_
    rw [show (10 : Int32) = nI 10 from rfl, pk_rem (by omega) (by decide) (by decide), Nat.mod_eq_of_lt (by omega)]
    refine go_iadd rfl ?_
    rw [show (48 : Int32) + nI v = nI (48 + v) from nI_add 48 v]
    refine go_call2 rfl (sp_write d s c hm h (48 + v)) (Nat.le_of_ble_eq_true rfl) (qb_qv rfl (by decide) (by decide)) ?_
    exact fin_v rfl rfl
  · exact absurd (show nI v ≤ nI 9 from nI_le hv (by decide)) e
theorem sp_num (d : Nat) (s : qb_M) (c : Nat × Nat) {m : Nat} (hm : m + 1 < 16) (h : s.1 192 34 = nI m) {v : Nat} (hv : v < 100) : qe (d + 3) 256 [.ref 192, .int (nI v)] (qb_hp (s), 149, c) = some (none, (qb_hp (sl_M s m (sl_d v)), 149, c)) := by
  unfold sl_d
  by_cases h9 : v ≤ 9
  · rw [if_pos h9]
    exact sp_num1 (d + 1) s c (by omega) h h9
  · rw [if_neg h9]
    have hr := sp_num1 d s c (m := m) (by omega) h (v := v / 10) (by omega)
    have hn := sl_ws_n (A := 208) [48 + v / 10] s m h
    have hw := sp_write (d + 1) (sl_M s m [48 + v / 10]) c (m := m + 1) (by omega) hn (48 + v % 10)
    rw [show sl_M (sl_M s m [48 + v / 10]) (m + 1) [48 + v % 10] = sl_M s m [48 + v / 10, 48 + v % 10] from sl_1 rfl] at hw
    refine (en_256 (d + 2) 192 (nI v) _).trans ?_
    refine go_ild_2_1 rfl ?_
    refine go_c rfl ?_
    refine go_icle rfl (fun e => ?_) (fun e => ?_)
    · exact absurd ((nI_leI (b := 9) (by omega) (by decide)).mp e) h9
    · refine go_ald_2_0 rfl ?_
      refine go_ild_2_1 rfl ?_
      refine go_c rfl ?_
      refine go_idiv rfl (by decide) ?_
      rw [show (10 : Int32) = nI 10 from rfl, pk_div (by omega) (by decide) (by decide)]
      refine go_call2 rfl (hr) (Nat.le_of_ble_eq_true rfl) (qb_qv rfl (by decide) (by decide)) ?_
      refine go_ald_2_0 rfl ?_
      refine go_c rfl ?_
      refine go_ild_2_1 rfl ?_
      refine go_c rfl ?_
      refine go_irem rfl (by decide) ?_
      rw [show (10 : Int32) = nI 10 from rfl, pk_rem (by omega) (by decide) (by decide)]
      refine go_iadd rfl ?_
      rw [show (48 : Int32) + nI (v % 10) = nI (48 + v % 10) from nI_add 48 _]
      refine go_call2 rfl (hw) (Nat.le_of_ble_eq_true rfl) (qb_qv rfl (by decide) (by decide)) ?_
      exact fin_v rfl rfl
theorem sp_ww1 (d : Nat) (s : qb_M) (c : Nat × Nat) {m : Nat} (hm : m < 16) (h : s.1 192 34 = nI m) {x : Nat} (hx : x < 27) : qe (d + 2) 259 [.ref 192, .long (lN x)] (qb_hp (s), 149, c) = some (none, (qb_hp (sl_M s m [96 + x]), 149, c)) := by
  refine (en_259 (d + 1) 192 (lN x) _).trans ?_
  refine go_lld_3_1 rfl ?_
  refine go_c rfl ?_
  refine go_lcmp rfl ?_
  refine go_iflt rfl (fun e => ?_) (fun e => ?_)
  · refine go_ald_3_0 rfl ?_
    refine go_c rfl ?_
    refine go_lld_3_1 rfl ?_
    refine go_c rfl ?_
    refine go_lrem rfl (by decide) ?_
    rw [show (27 : Int64) = lN 27 from rfl, pk_lRem (by omega) (by decide) (by decide), Nat.mod_eq_of_lt hx]
    refine go_l2i rfl ?_
    rw [lN_i]
    refine go_iadd rfl ?_
    rw [show (96 : Int32) + nI x = nI (96 + x) from nI_add 96 x]
    refine go_call2 rfl (sp_write d s c hm h (96 + x)) (Nat.le_of_ble_eq_true rfl) (qb_qv rfl (by decide) (by decide)) ?_
    exact fin_v rfl rfl
  · exact absurd ((lg_cmp_lt _ _).mpr ((pk_lLT (a := x) (b := 27) (by omega) (by decide)).mpr hx)) e
theorem sp_ww2 (d : Nat) (s : qb_M) (c : Nat × Nat) {m : Nat} (h : s.1 192 34 = nI m) {a x : Nat} (ha : 1 ≤ a) (hx : x < 27) (ha2 : a < 2 ^ 40) {bs : List Nat} (hm : m + bs.length < 16) (hr : qe (d + 1) 259 [.ref 192, .long (lN a)] (qb_hp (s), 149, c) = some (none, (qb_hp (sl_M s m bs), 149, c))) : qe (d + 2) 259 [.ref 192, .long (lN (27 * a + x))] (qb_hp (s), 149, c) = some (none, (qb_hp (sl_M s m (bs ++ [96 + x])), 149, c)) := by
  have hn := sl_ws_n (A := 208) bs s m h
  have hw := sp_write d (sl_M s m bs) c (m := m + bs.length) hm hn (96 + x)
  rw [show sl_M (sl_M s m bs) (m + bs.length) [96 + x] = sl_M s m (bs ++ [96 + x]) from sl_1 rfl] at hw
  refine (en_259 (d + 1) 192 (lN (27 * a + x)) _).trans ?_
  refine go_lld_3_1 rfl ?_
  refine go_c rfl ?_
  refine go_lcmp rfl ?_
  refine go_iflt rfl (fun e => ?_) (fun e => ?_)
  · exact absurd ((pk_lLT (a := 27 * a + x) (b := 27) (by omega) (by decide)).mp ((lg_cmp_lt _ _).mp e)) (by omega)
  · refine go_ald_3_0 rfl ?_
    refine go_lld_3_1 rfl ?_
    refine go_c rfl ?_
    refine go_ldiv rfl (by decide) ?_
    rw [show (27 : Int64) = lN 27 from rfl, pk_lDiv (by omega) (by decide) (by decide), show (27 * a + x) / 27 = a by omega]
    refine go_call2 rfl (hr) (Nat.le_of_ble_eq_true rfl) (qb_qv rfl (by decide) (by decide)) ?_
    refine go_ald_3_0 rfl ?_
    refine go_c rfl ?_
    refine go_lld_3_1 rfl ?_
    refine go_c rfl ?_
    refine go_lrem rfl (by decide) ?_
    rw [show (27 : Int64) = lN 27 from rfl, pk_lRem (by omega) (by decide) (by decide), show (27 * a + x) % 27 = x by omega]
    refine go_l2i rfl ?_
    rw [lN_i]
    refine go_iadd rfl ?_
    rw [show (96 : Int32) + nI x = nI (96 + x) from nI_add 96 x]
    refine go_call2 rfl (hw) (Nat.le_of_ble_eq_true rfl) (qb_qv rfl (by decide) (by decide)) ?_
    exact fin_v rfl rfl
theorem sp_wNext (d : Nat) (s : qb_M) (c : Nat × Nat) {m : Nat} (hm : m < 16) (h : s.1 192 34 = nI m) {x : Int64} {bs : List Nat} (hr : qe (d + 1) 259 [.ref 192, .long x] (qb_hp (sl_M s m [32]), 149, c) = some (none, (qb_hp (sl_M (sl_M s m [32]) (m + 1) bs), 149, c))) : qe (d + 2) 258 [.ref 192, .long x] (qb_hp (s), 149, c) = some (none, (qb_hp (sl_M s m (32 :: bs)), 149, c)) := by
  rw [show sl_M (sl_M s m [32]) (m + 1) bs = sl_M s m (32 :: bs) from sl_2 (as := [32]) rfl] at hr
  refine (en_258 (d + 1) 192 x _).trans ?_
  refine go_ald_3_0 rfl ?_
  refine go_c rfl ?_
  refine go_call2 rfl (sp_write d s c hm h 32) (Nat.le_of_ble_eq_true rfl) (qb_qv rfl (by decide) (by decide)) ?_
  refine go_ald_3_0 rfl ?_
  refine go_lld_3_1 rfl ?_
  refine go_call2 rfl (hr) (Nat.le_of_ble_eq_true rfl) (qb_qv rfl (by decide) (by decide)) ?_
  exact fin_v rfl rfl
theorem sp_writeTo (d : Nat) (s : qb_M) (c : Nat × Nat) {m : Nat} (hm : m + 4 < 16) (h : s.1 192 34 = nI m) {o : Nat} (ho : o ≤ 9) : qe (d + 6) 260 [.ref 192, .int (nI o)] (qb_hp (s), 149, c) = some (none, (qb_hp (sl_M s m ([32, 116, 111, 32] ++ [48 + o])), 149, c)) := by
  have e0 : (sl_M s m [32]).1 192 34 = nI (m + 1) := sl_ws_n (A := 208) [32] s m h
  have w1 := sp_ww1 (d + 1) (sl_M s m [32]) c (m := m + 1) (by omega) e0 (x := 20) (by decide)
  have w2 := sp_ww2 (d + 2) (sl_M s m [32]) c (m := m + 1) e0 (a := 20) (x := 15) (by decide) (by decide) (by decide) (by show m + 1 + 1 < 16; omega) w1
  have n1 := sp_wNext (d + 3) s c (m := m) (by omega) h w2
  have hn : (sl_M s m [32, 116, 111]).1 192 34 = nI (m + 3) := sl_ws_n (A := 208) [32, 116, 111] s m h
  have b1 := sp_write (d + 4) (sl_M s m [32, 116, 111]) c (m := m + 3) (by omega) hn 32
  rw [show sl_M (sl_M s m [32, 116, 111]) (m + 3) [32] = sl_M s m [32, 116, 111, 32] from sl_1 rfl] at b1
  have hn2 : (sl_M s m [32, 116, 111, 32]).1 192 34 = nI (m + 4) := sl_ws_n (A := 208) [32, 116, 111, 32] s m h
  have b2 := sp_num1 (d + 3) (sl_M s m [32, 116, 111, 32]) c (m := m + 4) (by omega) hn2 ho
  rw [show sl_M (sl_M s m [32, 116, 111, 32]) (m + 4) [48 + o] = sl_M s m ([32, 116, 111, 32] ++ [48 + o]) from sl_1 rfl] at b2
  have sp := sp_speltM (d + 4) 116 111 0 0 0 0 0 (qb_hp s, 149, c)
  rw [show sw1 0 (sw1 0 (sw1 0 (sw1 0 (sw1 0 (27 * (Int32.toInt64 116 - 96) + Int32.toInt64 111 - 96))))) = lN (27 * 20 + 15) from by decide +kernel] at sp
  refine (en_260 (d + 5) 192 (nI o) _).trans ?_
  refine go_ald_2_0 rfl ?_
  refine go_c rfl ?_
  refine go_c rfl ?_
  refine go_c rfl ?_
  refine go_c rfl ?_
  refine go_c rfl ?_
  refine go_c rfl ?_
  refine go_c rfl ?_
  refine go_call7 rfl (sp) (Nat.le_of_ble_eq_true rfl) rfl ?_
  refine go_call2 rfl (n1) (Nat.le_of_ble_eq_true rfl) (qb_qv rfl (by decide) (by decide)) ?_
  refine go_ald_2_0 rfl ?_
  refine go_c rfl ?_
  refine go_call2 rfl (b1) (Nat.le_of_ble_eq_true rfl) (qb_qv rfl (by decide) (by decide)) ?_
  refine go_ald_2_0 rfl ?_
  refine go_ild_2_1 rfl ?_
  refine go_call2 rfl (b2) (Nat.le_of_ble_eq_true rfl) (qb_qv rfl (by decide) (by decide)) ?_
  exact fin_v rfl rfl
theorem sp_goes (d : Nat) (s : qb_M) (c : Nat × Nat) {m : Nat} (hm : m + 5 < 16) (h : s.1 192 34 = nI m) : qe (d + 6) 258 [.ref 192, .long (lN 148870)] (qb_hp (s), 149, c) = some (none, (qb_hp (sl_M s m [32, 103, 111, 101, 115]), 149, c)) := by
  have e0 : (sl_M s m [32]).1 192 34 = nI (m + 1) := sl_ws_n (A := 208) [32] s m h
  have w1 := sp_ww1 d (sl_M s m [32]) c (m := m + 1) (by omega) e0 (x := 7) (by decide)
  have w2 := sp_ww2 (d + 1) (sl_M s m [32]) c (m := m + 1) e0 (a := 7) (x := 15) (by decide) (by decide) (by decide) (by show m + 1 + 1 < 16; omega) w1
  have w3 := sp_ww2 (d + 2) (sl_M s m [32]) c (m := m + 1) e0 (a := 204) (x := 5) (by decide) (by decide) (by decide) (by show m + 1 + 2 < 16; omega) w2
  have w4 := sp_ww2 (d + 3) (sl_M s m [32]) c (m := m + 1) e0 (a := 5513) (x := 19) (by decide) (by decide) (by decide) (by show m + 1 + 3 < 16; omega) w3
  exact sp_wNext (d + 4) s c (m := m) (by omega) h w4
theorem sp_for (d : Nat) (s : qb_M) (c : Nat × Nat) {m : Nat} (hm : m + 4 < 16) (h : s.1 192 34 = nI m) : qe (d + 6) 258 [.ref 192, .long (lN 4797)] (qb_hp (s), 149, c) = some (none, (qb_hp (sl_M s m [32, 102, 111, 114]), 149, c)) := by
  have e0 : (sl_M s m [32]).1 192 34 = nI (m + 1) := sl_ws_n (A := 208) [32] s m h
  have w1 := sp_ww1 (d + 1) (sl_M s m [32]) c (m := m + 1) (by omega) e0 (x := 6) (by decide)
  have w2 := sp_ww2 (d + 2) (sl_M s m [32]) c (m := m + 1) e0 (a := 6) (x := 15) (by decide) (by decide) (by decide) (by show m + 1 + 1 < 16; omega) w1
  have w3 := sp_ww2 (d + 3) (sl_M s m [32]) c (m := m + 1) e0 (a := 177) (x := 18) (by decide) (by decide) (by decide) (by show m + 1 + 2 < 16; omega) w2
  exact sp_wNext (d + 4) s c (m := m) (by omega) h w3
def sl_P (x k : Nat) : Prop := x = 64 ∧ k = 14 ∨ x = 190 ∨ x = 192 ∧ (k = 0 ∨ k = 34) ∨ x = 208
theorem qZ_slip {s u : qb_M} (hZ : qZ s) (hf : qG sl_P s u) (hl : qZl u) : qZ u := by
  obtain ⟨⟨h1, h2, h3, h4, h5, h6⟩, nw, nm, ns, V, F0, lo, hi, se, g1, g2, g3, g4⟩ := hZ
  refine ⟨⟨h1.mv hf (fun x k hx => by unfold sl_P; omega), h2.mv hf (by decide) (Or.inl rfl) (fun x k hx => by unfold sl_P; omega), h3.mv hf (by decide) (Or.inr rfl) (fun x k hx => by unfold sl_P; omega), hl, h5.mv hf (fun x k hx => by unfold sl_P; omega), h6.mv hf (fun x k hx => by unfold sl_P; omega)⟩, nw, nm, ns, V, F0, lo, hi, se, g1.mv hf (fun x k hx => by unfold sl_P; omega) (fun k _ _ => by unfold sl_P; omega) (fun k _ _ => by unfold sl_P; omega), ?_, g3.mv hf (fun x k hx => by unfold sl_P; omega) (fun k _ _ => by unfold sl_P; omega), g4.mv hf (fun x k hx => by unfold sl_P; omega)⟩
  rw [qs_so_G hf (fun x k hx => by unfold sl_P; omega), qm_so_G hf (fun k hk => by unfold sl_P; omega)]
  exact g2
theorem sl_dig {v : Nat} (h1 : 1 ≤ v) (h30 : v ≤ 30) : (10 ≤ v → sl_d v = [48 + v / 10, 48 + v % 10]) ∧ (v < 10 → sl_d v = [48 + v % 10]) := by
  unfold sl_d
  exact ⟨fun h => by rw [if_neg (by omega)], fun h => by rw [if_pos (by omega), Nat.mod_eq_of_lt h]⟩
theorem qT_slip (d : Nat) (x : Int32) : qT (d + 20) 116 255 [.int x] := fun s c hZ => by
  obtain ⟨-, nw, nm, ns, V, F0, lo, hi, se, h1, h2, h3, h4⟩ := id hZ
  obtain ⟨hR, H, X, J, Lf, Sh, hI⟩ := id h2
  have hIc := hR.in hI
  have hX5 : s.1 73 5 = nI X := by rw [← qs_so_h (s := s) (a := 73) (k := 1) (by decide)]; exact hIc.2.1.1
  have hX1 : s.1 194 31 = nI X := hI.2.1.1
  have h10 : 2 ^ nm ≤ 2 ^ 10 := Nat.pow_le_pow_right (by decide) h1.1.2.2.1
  have hXl := hI.2.1.2
  have hnw := h1.1
  have hw46 := sp_isWireB (d + 18) s c h1.2.1.1 x
  by_cases hw : 0 ≤ x ∧ x < nI nw
  · obtain ⟨i, hi31, rfl⟩ := nI_of (x := x) (Int32.not_lt.mpr hw.1)
    have hi0 : i < nw := (nI_ltI hi31 (by omega)).mp hw.2
    rw [qB_t hw] at hw46
    obtain ⟨C0, hC0⟩ : ∃ C0, C0 = qb_ui s 64 14 0 := ⟨_, rfl⟩
    have n0 : C0.1 64 14 = nI 0 := by rw [hC0]; exact qb_ui_1s
    have gC : ∀ bs, qG (fun x j => x = 190 ∨ x = 64 ∧ j = 14) s (sl_C C0 0 bs) := fun bs => by
      rw [hC0]
      exact (qG.rf.ui (Or.inr ⟨rfl, rfl⟩)).tr ((sl_ws_G bs _ 0).mo (fun x j h => h.elim (fun z => Or.inl z.1) Or.inr))
    have nC : ∀ bs, (sl_C C0 0 bs).1 64 14 = nI bs.length := fun bs => by
      have := sl_ws_n (A := 190) bs C0 0 n0
      rw [Nat.zero_add] at this
      exact this
    have cD : ∀ (bs : List Nat) (b : Nat), bs.length < 16 → qe (d + 19) 117 [.ref 64, .int (nI b)] (qb_hp (sl_C C0 0 bs), 149, c) = some (none, (qb_hp (sl_C C0 0 (bs ++ [48 + b])), 149, c)) := fun bs b hb => by
      have := sp_slipDigit (d + 17) (sl_C C0 0 bs) c hb (nC bs) b
      rw [show sl_C (sl_C C0 0 bs) bs.length [48 + b] = sl_C C0 0 (bs ++ [48 + b]) from by rw [show sl_C = sl_ws 190 64 14 from rfl, sl_ws_app, Nat.zero_add]] at this
      exact this
    have cT : ∀ (bs : List Nat) (j : Nat), j < 3 → bs.length + (sl_t j).length ≤ 16 → qe (d + 19) 119 [.ref 64, .ref (25 + j)] (qb_hp (sl_C C0 0 bs), 149, c) = some (none, (qb_hp (sl_C C0 0 (bs ++ sl_t j)), 149, c)) := fun bs j hj hb => by
      have := sp_slipText (d + 15) (sl_C C0 0 bs) c hj hb (nC bs)
      rw [show sl_C (sl_C C0 0 bs) bs.length (sl_t j) = sl_C C0 0 (bs ++ sl_t j) from by rw [show sl_C = sl_ws 190 64 14 from rfl, sl_ws_app, Nat.zero_add]] at this
      exact this
    have cU : ∀ bs, qe (d + 19) 47 [.ref 73, .int (nI i)] (qb_hp (sl_C C0 0 bs), 149, c) = some (some (.int (qB (qs_on (qs_so s 73) i = true))), (qb_hp (sl_C C0 0 bs), 149, c)) := fun bs => by
      have := sp_isUp (d + 18) (sl_C C0 0 bs) c qS_73 i (by omega)
      rw [qs_so_G (gC bs) (fun x k hx => by omega)] at this
      exact this
    have hS := qS_73
    have enC : ∀ R, (qs_on (qs_so s 73) i = true → qa_lm (qe (d + 19)) (qa_cd qc_116) (31, [.ref 64, .int (nI i)], [], (qb_hp (sl_C C0 0 [48 + i]), 149, c)) = R) → (¬ qs_on (qs_so s 73) i = true → qa_lm (qe (d + 19)) (qa_cd qc_116) (107, [.ref 64, .int (nI i)], [], (qb_hp (sl_C C0 0 [48 + i]), 149, c)) = R) → qe (d + 20) 116 [.ref 64, .int (nI i)] (qb_hp (s), 149, c) = R := fun R k1 k2 => by
      refine (en_116 (d + 19) 64 (nI i) _).trans ?_
      refine go_ald_2_0 rfl ?_
      refine go_ild_2_1 rfl ?_
      refine go_call2 rfl (hw46) (Nat.le_of_ble_eq_true rfl) (qb_qv rfl (by decide) (by decide)) ?_
      refine go_ifne rfl (fun e => ?_) (fun e => ?_)
      · exact absurd e (by decide)
      · refine go_ald_2_0 rfl ?_
        refine go_c rfl ?_
        refine go_puti rfl ⟨_, rfl, rfl, by decide, by decide⟩ rfl rfl ?_
        rw [← hC0]
        refine go_ald_2_0 rfl ?_
        refine go_ild_2_1 rfl ?_
        refine go_call2 rfl (cD [] i (by decide)) (Nat.le_of_ble_eq_true rfl) (qb_qv rfl (by decide) (by decide)) ?_
        refine go_ald_2_0 rfl ?_
        refine go_getr rfl ⟨_, rfl, rfl, by decide, by decide⟩ ?_
        refine go_ild_2_1 rfl ?_
        refine go_call2 rfl (cU [48 + i]) (Nat.le_of_ble_eq_true rfl) (qS_v hS) ?_
        refine go_ifeq rfl (fun e2 => ?_) (fun e2 => ?_)
        · exact k2 (qB_0.mp e2)
        · exact k1 (Classical.byContradiction fun z => e2 (qB_f z))
    have finC : ∀ bs : List Nat, qa_lm (qe (d + 19)) (qa_cd qc_116) (133, [.ref 64, .int (nI i)], [], (qb_hp (sl_C C0 0 bs), 149, c)) = some (some (.int (nI bs.length)), (qb_hp (sl_C C0 0 bs), 149, c)) := fun bs => by
      refine go_ald_2_0 rfl ?_
      refine go_geti rfl ⟨_, rfl, rfl, by decide, by decide⟩ ?_
      rw [nC bs]
      exact fin_i rfl rfl rfl
    -- the reference, at a memory like s but for the slip
    have mod : ∀ t : qb_M, qG (fun x j => x = 190 ∨ x = 64 ∧ j = 14) s t → ∃ M0, M0 = qb_ui (qb_ui t 192 0 0) 192 34 0 ∧ (∀ bs, (sl_M M0 0 bs).1 192 34 = nI bs.length) ∧ (∀ bs, qG (fun x j => x = 208 ∨ x = 192 ∧ (j = 0 ∨ j = 34)) t (sl_M M0 0 bs)) ∧ ∀ R, (qs_on (qm_so s) i = true → qa_lm (qe (d + 19)) (qa_cd qc_255) (65, [.ref 192, .int (nI i)], [], (qb_hp (sl_M M0 0 [48 + i]), 149, c)) = R) → (¬ qs_on (qm_so s) i = true → qa_lm (qe (d + 19)) (qa_cd qc_255) (33, [.ref 192, .int (nI i)], [], (qb_hp (sl_M M0 0 [48 + i]), 149, c)) = R) → qe (d + 20) 255 [.ref 192, .int (nI i)] (qb_hp (t), 149, c) = R := fun t ht => by
      obtain ⟨M0, hM0⟩ : ∃ M0, M0 = qb_ui (qb_ui t 192 0 0) 192 34 0 := ⟨_, rfl⟩
      have m0 : M0.1 192 34 = nI 0 := by rw [hM0]; exact qb_ui_1s
      have gM : ∀ bs, qG (fun x j => x = 208 ∨ x = 192 ∧ (j = 0 ∨ j = 34)) t (sl_M M0 0 bs) := fun bs => by
        rw [hM0]
        exact ((qG.rf.ui (Or.inr ⟨rfl, Or.inl rfl⟩)).ui (Or.inr ⟨rfl, Or.inr rfl⟩)).tr ((sl_ws_G bs _ 0).mo (fun x j h => h.elim (fun z => Or.inl z.1) (fun z => Or.inr ⟨z.1, Or.inr z.2⟩)))
      have nM : ∀ bs, (sl_M M0 0 bs).1 192 34 = nI bs.length := fun bs => by
        have := sl_ws_n (A := 208) bs M0 0 m0
        rw [Nat.zero_add] at this
        exact this
      refine ⟨M0, hM0, nM, gM, fun R k1 k2 => ?_⟩
      have hiw := sp_isWire (d + 17) (qb_ui t 192 0 0) c (nw := nw) (show (qb_ui t 192 0 0).1 194 0 = nI nw from (ht.i (by omega)).trans h1.2.2.1.1) (by omega) (by omega) (nI i)
      rw [qB_t hw] at hiw
      have hon := sp_isOn' (d + 18) (sl_M M0 0 [48 + i]) c i (by omega)
      rw [qm_so_G (gM [48 + i]) (fun k hk => by omega), qm_so_G ht (fun k hk => by omega)] at hon
      refine (en_255 (d + 19) 192 (nI i) _).trans ?_
      refine go_ald_2_0 rfl ?_
      refine go_c rfl ?_
      refine go_puti rfl ⟨_, rfl, rfl, by decide, by decide⟩ rfl rfl ?_
      refine go_ald_2_0 rfl ?_
      refine go_ild_2_1 rfl ?_
      refine go_call2 rfl (hiw) (Nat.le_of_ble_eq_true rfl) (qb_qv rfl (by decide) (by decide)) ?_
      refine go_ifne rfl (fun e => ?_) (fun e => ?_)
      · exact absurd e (by decide)
      · refine go_ald_2_0 rfl ?_
        refine go_c rfl ?_
        refine go_puti rfl ⟨_, rfl, rfl, by decide, by decide⟩ rfl rfl ?_
        rw [← hM0]
        refine go_ald_2_0 rfl ?_
        refine go_ild_2_1 rfl ?_
        refine go_call2 rfl (sp_num1 (d + 17) M0 c (by decide) m0 (by omega)) (Nat.le_of_ble_eq_true rfl) (qb_qv rfl (by decide) (by decide)) ?_
        refine go_ald_2_0 rfl ?_
        refine go_ild_2_1 rfl ?_
        refine go_call2 rfl (hon) (Nat.le_of_ble_eq_true rfl) (qb_qv rfl (by decide) (by decide)) ?_
        refine go_ifne rfl (fun e2 => ?_) (fun e2 => ?_)
        · exact k2 (qB_0.mp e2)
        · exact k1 (Classical.byContradiction fun z => e2 (qB_f z))
    -- both written: alike
    have done : ∀ bs : List Nat, bs.length ≤ 16 → qe (d + 20) 116 [.ref 64, .int (nI i)] (qb_hp (s), 149, c) = some (some (.int (nI bs.length)), (qb_hp (sl_C C0 0 bs), 149, c)) → (∀ M0, M0 = qb_ui (qb_ui (sl_C C0 0 bs) 192 0 0) 192 34 0 → qe (d + 20) 255 [.ref 192, .int (nI i)] (qb_hp (sl_C C0 0 bs), 149, c) = some (some (.int (nI bs.length)), (qb_hp (sl_M M0 0 bs), 149, c))) → ∃ v t u, qe (d + 20) 116 [.ref 64, .int (nI i)] (qb_hp (s), 149, c) = some (some (.int (v)), (qb_hp (t), 149, c)) ∧ qe (d + 20) 255 [.ref 192, .int (nI i)] (qb_hp (t), 149, c) = some (some (.int (v)), (qb_hp (u), 149, c)) ∧ qZ u := fun bs hb e1 e2 => by
      obtain ⟨M0, hM0, nM, gM, -⟩ := mod (sl_C C0 0 bs) (gC bs)
      refine ⟨nI bs.length, sl_C C0 0 bs, sl_M M0 0 bs, e1, e2 M0 hM0, qZ_slip hZ (((gC bs).mo (fun x j h => by unfold sl_P; omega)).tr ((gM bs).mo (fun x j h => by unfold sl_P; omega))) ⟨bs.length, hb, ?_, nM bs, fun j hj => ?_⟩⟩
      · exact ((gM bs).i (by omega)).trans (nC bs)
      · have a1 := sl_ws_at (A := 190) (B := 64) (k := 14) (by decide) bs C0 0 j hj
        have a2 := sl_ws_at (A := 208) (B := 192) (k := 34) (by decide) bs M0 0 j hj
        rw [Nat.zero_add] at a1 a2
        rw [(gM bs).i (by omega)]
        exact a1.trans a2.symm
    have hon := hR.on (w := i) (by omega)
    by_cases hup : qs_on (qm_so s) i = true
    · have hupC : qs_on (qs_so s 73) i = true := by rw [hon]; exact hup
      obtain ⟨-, -, -, hq⟩ := id hI
      obtain ⟨-, q1, ⟨q2, q3, q4⟩, -⟩ := hq i (by omega) hup
      have hO : qm_wr lo hi X i nm < nw := qm_wr_lt h1.c.ok X hi0 nm (Nat.le_refl _)
      have mO : s.1 194 (36 + i) = nI (qm_wr lo hi X i nm) := by
        have : s.1 194 (30 + (6 + i)) = _ := q1
        rw [show 30 + (6 + i) = 36 + i by omega] at this
        exact this
      have mL : s.1 194 (44 + i) = nI (Lf i) := by
        have : s.1 194 (30 + (14 + i)) = _ := q2
        rw [show 30 + (14 + i) = 44 + i by omega] at this
        exact this
      have cO : s.1 74 i = nI (qm_wr lo hi X i nm) := by
        have := (hR.1 (6 + i) (by omega) (Or.inl (by omega))).trans q1
        unfold qs_so at this
        rw [if_neg (by omega), if_pos (by omega), show 6 + i - 6 = i by omega] at this
        exact this
      have cL : s.1 75 i = nI (Lf i) := by
        have := (hR.2 i (by omega) hup).1.trans q2
        unfold qs_so at this
        rw [if_neg (by omega), if_neg (by omega), if_pos (by omega), show 14 + i - 14 = i by omega] at this
        exact this
      obtain ⟨O, hOe⟩ : ∃ O, O = qm_wr lo hi X i nm := ⟨_, rfl⟩
      rw [← hOe] at hO mO cO
      have hdl : (sl_d (Lf i)).length ≤ 2 := by unfold sl_d; split <;> simp
      refine done ([48 + i] ++ [32, 116, 111, 32] ++ [48 + O] ++ [32, 102, 111, 114, 32] ++ sl_d (Lf i)) (by simp only [List.length_append, List.length_cons, List.length_nil]; omega) (enC _ (fun _ => ?_) (fun z => absurd hupC z)) (fun M0 hM0 => ?_)
      · refine go_ald_2_0 rfl ?_
        refine go_c rfl ?_
        refine go_call2 rfl (cT [48 + i] 0 (by decide) (Nat.le_of_ble_eq_true rfl)) (Nat.le_of_ble_eq_true rfl) (qb_qv rfl (by decide) (by decide)) ?_
        refine go_ald_2_0 rfl ?_
        refine go_ald_2_0 rfl ?_
        refine go_getr rfl ⟨_, rfl, rfl, by decide, by decide⟩ ?_
        refine go_getr rfl (qS_f hS rfl) ?_
        refine go_ild_2_1 rfl ?_
        refine go_iald (j := i) rfl ⟨rfl, by decide, by decide, by decide⟩ rfl (by omega) ?_
        rw [show (sl_C C0 0 ([48 + i] ++ sl_t 0)).1 74 i = nI O from ((gC _).i (by omega)).trans cO]
        refine go_call2 rfl (cD ([48 + i] ++ sl_t 0) O (Nat.le_of_ble_eq_true rfl)) (Nat.le_of_ble_eq_true rfl) (qb_qv rfl (by decide) (by decide)) ?_
        refine go_ald_2_0 rfl ?_
        refine go_c rfl ?_
        refine go_call2 rfl (cT ([48 + i] ++ sl_t 0 ++ [48 + O]) 1 (by decide) (Nat.le_of_ble_eq_true rfl)) (Nat.le_of_ble_eq_true rfl) (qb_qv rfl (by decide) (by decide)) ?_
        have last : ∀ bs : List Nat, bs.length < 16 → qa_lm (qe (d + 19)) (qa_cd qc_116) (88, [.ref 64, .int (nI i)], [], (qb_hp (sl_C C0 0 bs), 149, c)) = some (some (.int (nI (bs ++ [48 + Lf i % 10]).length)), (qb_hp (sl_C C0 0 (bs ++ [48 + Lf i % 10])), 149, c)) := fun bs hb => by
          refine go_ald_2_0 rfl ?_
          refine go_ald_2_0 rfl ?_
          refine go_getr rfl ⟨_, rfl, rfl, by decide, by decide⟩ ?_
          refine go_getr rfl (qS_f hS rfl) ?_
          refine go_ild_2_1 rfl ?_
          refine go_iald (j := i) rfl ⟨rfl, by decide, by decide, by decide⟩ rfl (by omega) ?_
          rw [show (sl_C C0 0 bs).1 75 i = nI (Lf i) from ((gC _).i (by omega)).trans cL]
          refine go_c rfl ?_
          refine go_irem rfl (by decide) ?_
          rw [show (10 : Int32) = nI 10 from rfl, pk_rem (by omega) (by decide) (by decide)]
          refine go_call2 rfl (cD bs (Lf i % 10) hb) (Nat.le_of_ble_eq_true rfl) (qb_qv rfl (by decide) (by decide)) ?_
          refine go_goto rfl ?_
          exact finC _
        refine go_ald_2_0 rfl ?_
        refine go_getr rfl ⟨_, rfl, rfl, by decide, by decide⟩ ?_
        refine go_getr rfl (qS_f hS rfl) ?_
        refine go_ild_2_1 rfl ?_
        refine go_iald (j := i) rfl ⟨rfl, by decide, by decide, by decide⟩ rfl (by omega) ?_
        rw [show (sl_C C0 0 ([48 + i] ++ sl_t 0 ++ [48 + O] ++ sl_t 1)).1 75 i = nI (Lf i) from ((gC _).i (by omega)).trans cL]
        refine go_c rfl ?_
        refine go_iclt rfl (fun e => ?_) (fun e => ?_)
        · have hlt : Lf i < 10 := (nI_ltI (b := 10) (by omega) (by decide)).mp e
          rw [(sl_dig q3 q4).2 hlt]
          exact last _ (Nat.le_of_ble_eq_true rfl)
        · have hge : 10 ≤ Lf i := Classical.byContradiction fun z => e (nI_lt (b := 10) (by omega) (by decide))
          refine go_ald_2_0 rfl ?_
          refine go_ald_2_0 rfl ?_
          refine go_getr rfl ⟨_, rfl, rfl, by decide, by decide⟩ ?_
          refine go_getr rfl (qS_f hS rfl) ?_
          refine go_ild_2_1 rfl ?_
          refine go_iald (j := i) rfl ⟨rfl, by decide, by decide, by decide⟩ rfl (by omega) ?_
          rw [show (sl_C C0 0 ([48 + i] ++ sl_t 0 ++ [48 + O] ++ sl_t 1)).1 75 i = nI (Lf i) from ((gC _).i (by omega)).trans cL]
          refine go_c rfl ?_
          refine go_idiv rfl (by decide) ?_
          rw [show (10 : Int32) = nI 10 from rfl, pk_div (by omega) (by decide) (by decide)]
          refine go_call2 rfl (cD ([48 + i] ++ sl_t 0 ++ [48 + O] ++ sl_t 1) (Lf i / 10) (Nat.le_of_ble_eq_true rfl)) (Nat.le_of_ble_eq_true rfl) (qb_qv rfl (by decide) (by decide)) ?_
          rw [(sl_dig q3 q4).1 hge]
          have := last ([48 + i] ++ sl_t 0 ++ [48 + O] ++ sl_t 1 ++ [48 + Lf i / 10]) (Nat.le_of_ble_eq_true rfl)
          rw [List.append_assoc _ [48 + Lf i / 10] [48 + Lf i % 10]] at this
          exact this
      · obtain ⟨M1, hM1, nM, gM, en⟩ := mod (sl_C C0 0 ([48 + i] ++ [32, 116, 111, 32] ++ [48 + O] ++ [32, 102, 111, 114, 32] ++ sl_d (Lf i))) (gC _)
        have hMM : M1 = M0 := hM1.trans hM0.symm
        subst hMM
        have rd : ∀ bs k v, k < 70 → s.1 194 k = v → (sl_M M1 0 bs).1 194 k = v := fun bs k v hk hv => ((gM bs).i (by omega)).trans (((gC _).i (by omega)).trans hv)
        have app : ∀ as bs : List Nat, sl_M (sl_M M1 0 as) as.length bs = sl_M M1 0 (as ++ bs) := fun as bs => by rw [show sl_M = sl_ws 208 192 34 from rfl, sl_ws_app, Nat.zero_add]
        have t1 := sp_writeTo (d + 13) (sl_M M1 0 [48 + i]) c (m := 1) (by decide) (nM _) (o := O) (by omega)
        rw [show sl_M (sl_M M1 0 [48 + i]) 1 ([32, 116, 111, 32] ++ [48 + O]) = sl_M M1 0 ([48 + i] ++ ([32, 116, 111, 32] ++ [48 + O])) from app [48 + i] _] at t1
        have sp := sp_speltM (d + 18) 102 111 114 0 0 0 0 (qb_hp (sl_M M1 0 ([48 + i] ++ ([32, 116, 111, 32] ++ [48 + O]))), 149, c)
        rw [show sw1 0 (sw1 0 (sw1 0 (sw1 0 (sw1 114 (27 * (Int32.toInt64 102 - 96) + Int32.toInt64 111 - 96))))) = lN 4797 from by decide +kernel] at sp
        have f1 := sp_for (d + 13) (sl_M M1 0 ([48 + i] ++ ([32, 116, 111, 32] ++ [48 + O]))) c (m := 6) (by decide) (nM _)
        rw [show sl_M (sl_M M1 0 ([48 + i] ++ ([32, 116, 111, 32] ++ [48 + O]))) 6 [32, 102, 111, 114] = sl_M M1 0 ([48 + i] ++ ([32, 116, 111, 32] ++ [48 + O]) ++ [32, 102, 111, 114]) from app ([48 + i] ++ ([32, 116, 111, 32] ++ [48 + O])) _] at f1
        have b1 := sp_write (d + 18) (sl_M M1 0 ([48 + i] ++ ([32, 116, 111, 32] ++ [48 + O]) ++ [32, 102, 111, 114])) c (m := 10) (by decide) (nM _) 32
        rw [show sl_M (sl_M M1 0 ([48 + i] ++ ([32, 116, 111, 32] ++ [48 + O]) ++ [32, 102, 111, 114])) 10 [32] = sl_M M1 0 ([48 + i] ++ ([32, 116, 111, 32] ++ [48 + O]) ++ [32, 102, 111, 114] ++ [32]) from app ([48 + i] ++ ([32, 116, 111, 32] ++ [48 + O]) ++ [32, 102, 111, 114]) _] at b1
        have l1 := sp_num (d + 16) (sl_M M1 0 ([48 + i] ++ ([32, 116, 111, 32] ++ [48 + O]) ++ [32, 102, 111, 114] ++ [32])) c (m := 11) (by decide) (nM _) (v := Lf i) (by omega)
        rw [show sl_M (sl_M M1 0 ([48 + i] ++ ([32, 116, 111, 32] ++ [48 + O]) ++ [32, 102, 111, 114] ++ [32])) 11 (sl_d (Lf i)) = sl_M M1 0 ([48 + i] ++ [32, 116, 111, 32] ++ [48 + O] ++ [32, 102, 111, 114, 32] ++ sl_d (Lf i)) from app ([48 + i] ++ ([32, 116, 111, 32] ++ [48 + O]) ++ [32, 102, 111, 114] ++ [32]) _] at l1
        refine en _ (fun _ => ?_) (fun z => absurd hup z)
        refine go_ald_2_0 rfl ?_
        refine go_ald_2_0 rfl ?_
        refine go_getr rfl ⟨_, rfl, rfl, by decide, by decide⟩ ?_
        refine go_c rfl ?_
        refine go_ild_2_1 rfl ?_
        refine go_iadd rfl ?_
        rw [show (36 : Int32) + nI i = nI (36 + i) from nI_add 36 i]
        refine go_iald (j := 36 + i) rfl ⟨rfl, by decide, by decide, by decide⟩ rfl (by omega) ?_
        rw [rd _ _ _ (by omega) mO]
        refine go_call2 rfl (t1) (Nat.le_of_ble_eq_true rfl) (qb_qv rfl (by decide) (by decide)) ?_
        refine go_ald_2_0 rfl ?_
        refine go_c rfl ?_
        refine go_c rfl ?_
        refine go_c rfl ?_
        refine go_c rfl ?_
        refine go_c rfl ?_
        refine go_c rfl ?_
        refine go_c rfl ?_
        refine go_call7 rfl (sp) (Nat.le_of_ble_eq_true rfl) rfl ?_
        refine go_call2 rfl (f1) (Nat.le_of_ble_eq_true rfl) (qb_qv rfl (by decide) (by decide)) ?_
        refine go_ald_2_0 rfl ?_
        refine go_c rfl ?_
        refine go_call2 rfl (b1) (Nat.le_of_ble_eq_true rfl) (qb_qv rfl (by decide) (by decide)) ?_
        refine go_ald_2_0 rfl ?_
        refine go_ald_2_0 rfl ?_
        refine go_getr rfl ⟨_, rfl, rfl, by decide, by decide⟩ ?_
        refine go_c rfl ?_
        refine go_ild_2_1 rfl ?_
        refine go_iadd rfl ?_
        rw [show (44 : Int32) + nI i = nI (44 + i) from nI_add 44 i]
        refine go_iald (j := 44 + i) rfl ⟨rfl, by decide, by decide, by decide⟩ rfl (by omega) ?_
        rw [rd _ _ _ (by omega) mL]
        refine go_call2 rfl (l1) (Nat.le_of_ble_eq_true rfl) (qb_qv rfl (by decide) (by decide)) ?_
        refine go_ald_2_0 rfl ?_
        refine go_geti rfl ⟨_, rfl, rfl, by decide, by decide⟩ ?_
        rw [nM]
        exact fin_i rfl rfl rfl
    · have hupC : ¬ qs_on (qs_so s 73) i = true := by rw [hon]; exact hup
      have hO : qm_wr lo hi X i nm < nw := qm_wr_lt h1.c.ok X hi0 nm (Nat.le_refl _)
      obtain ⟨O, hOe⟩ : ∃ O, O = qm_wr lo hi X i nm := ⟨_, rfl⟩
      rw [← hOe] at hO
      refine done ([48 + i] ++ [32, 103, 111, 101, 115, 32, 116, 111, 32] ++ [48 + O]) (Nat.le_of_ble_eq_true rfl) (enC _ (fun z => absurd z hupC) (fun _ => ?_)) (fun M0 hM0 => ?_)
      · have he := sp_endOf (d + 16) (sl_C C0 0 ([48 + i] ++ sl_t 2)) c (nw := nw) (nm := nm) (lo := lo) (hi := hi) (h1.c.mv ((gC _).mo (fun x k h => by omega) : qG (fun x k => x = 190 ∨ x = 64) s _).F (by decide) (by decide) (by decide)) X i (by omega) hi0
        rw [← hOe] at he
        refine go_ald_2_0 rfl ?_
        refine go_c rfl ?_
        refine go_call2 rfl (cT [48 + i] 2 (by decide) (Nat.le_of_ble_eq_true rfl)) (Nat.le_of_ble_eq_true rfl) (qb_qv rfl (by decide) (by decide)) ?_
        refine go_ald_2_0 rfl ?_
        refine go_ald_2_0 rfl ?_
        refine go_getr rfl ⟨_, rfl, rfl, by decide, by decide⟩ ?_
        refine go_ald_2_0 rfl ?_
        refine go_getr rfl ⟨_, rfl, rfl, by decide, by decide⟩ ?_
        refine go_geti rfl (qS_f hS rfl) ?_
        rw [show (sl_C C0 0 ([48 + i] ++ sl_t 2)).1 73 5 = nI X from ((gC _).i (by omega)).trans hX5]
        refine go_ild_2_1 rfl ?_
        refine go_call3 rfl (he) (Nat.le_of_ble_eq_true rfl) (qb_qv rfl (by decide) (by decide)) ?_
        refine go_call2 rfl (cD ([48 + i] ++ sl_t 2) O (Nat.le_of_ble_eq_true rfl)) (Nat.le_of_ble_eq_true rfl) (qb_qv rfl (by decide) (by decide)) ?_
        exact finC _
      · obtain ⟨M1, hM1, nM, gM, en⟩ := mod (sl_C C0 0 ([48 + i] ++ [32, 103, 111, 101, 115, 32, 116, 111, 32] ++ [48 + O])) (gC _)
        have hMM : M1 = M0 := hM1.trans hM0.symm
        subst hMM
        have app : ∀ as bs : List Nat, sl_M (sl_M M1 0 as) as.length bs = sl_M M1 0 (as ++ bs) := fun as bs => by rw [show sl_M = sl_ws 208 192 34 from rfl, sl_ws_app, Nat.zero_add]
        have sp := sp_speltM (d + 18) 103 111 101 115 0 0 0 (qb_hp (sl_M M1 0 [48 + i]), 149, c)
        rw [show sw1 0 (sw1 0 (sw1 0 (sw1 115 (sw1 101 (27 * (Int32.toInt64 103 - 96) + Int32.toInt64 111 - 96))))) = lN 148870 from by decide +kernel] at sp
        have f1 := sp_goes (d + 13) (sl_M M1 0 [48 + i]) c (m := 1) (by decide) (nM _)
        rw [show sl_M (sl_M M1 0 [48 + i]) 1 [32, 103, 111, 101, 115] = sl_M M1 0 ([48 + i] ++ [32, 103, 111, 101, 115]) from app [48 + i] _] at f1
        have hpm : qm_pl (sl_M M1 0 ([48 + i] ++ [32, 103, 111, 101, 115])) nw nm lo hi := by
          unfold qm_pl
          rw [show (sl_M M1 0 ([48 + i] ++ [32, 103, 111, 101, 115])).1 194 = s.1 194 from funext fun k => ((gM _).i (by omega)).trans ((gC _).i (by omega))]
          exact h1.m
        have ho := sp_outNow (d + 14) (sl_M M1 0 ([48 + i] ++ [32, 103, 111, 101, 115])) c hpm X i (((gM _).i (by omega)).trans (((gC _).i (by omega)).trans hX1)) (by omega) hi0
        rw [← hOe] at ho
        have t1 := sp_writeTo (d + 13) (sl_M M1 0 ([48 + i] ++ [32, 103, 111, 101, 115])) c (m := 6) (by decide) (nM _) (o := O) (by omega)
        rw [show sl_M (sl_M M1 0 ([48 + i] ++ [32, 103, 111, 101, 115])) 6 ([32, 116, 111, 32] ++ [48 + O]) = sl_M M1 0 ([48 + i] ++ [32, 103, 111, 101, 115, 32, 116, 111, 32] ++ [48 + O]) from app ([48 + i] ++ [32, 103, 111, 101, 115]) _] at t1
        refine en _ (fun z => absurd z hup) (fun _ => ?_)
        refine go_ald_2_0 rfl ?_
        refine go_c rfl ?_
        refine go_c rfl ?_
        refine go_c rfl ?_
        refine go_c rfl ?_
        refine go_c rfl ?_
        refine go_c rfl ?_
        refine go_c rfl ?_
        refine go_call7 rfl (sp) (Nat.le_of_ble_eq_true rfl) rfl ?_
        refine go_call2 rfl (f1) (Nat.le_of_ble_eq_true rfl) (qb_qv rfl (by decide) (by decide)) ?_
        refine go_ald_2_0 rfl ?_
        refine go_ald_2_0 rfl ?_
        refine go_ild_2_1 rfl ?_
        refine go_call2 rfl (ho) (Nat.le_of_ble_eq_true rfl) (qb_qv rfl (by decide) (by decide)) ?_
        refine go_call2 rfl (t1) (Nat.le_of_ble_eq_true rfl) (qb_qv rfl (by decide) (by decide)) ?_
        refine go_ald_2_0 rfl ?_
        refine go_geti rfl ⟨_, rfl, rfl, by decide, by decide⟩ ?_
        rw [nM]
        exact fin_i rfl rfl rfl
  · rw [qB_f hw] at hw46
    have hiw := sp_isWire (d + 17) (qb_ui s 192 0 0) c (nw := nw) (show (qb_ui s 192 0 0).1 194 0 = nI nw from h1.2.2.1.1) (by omega) (by omega) x
    rw [qB_f hw] at hiw
    refine ⟨-1, s, qb_ui s 192 0 0, ?_, ?_, hZ.thr 0⟩
    · refine (en_116 (d + 19) 64 x _).trans ?_
      refine go_ald_2_0 rfl ?_
      refine go_ild_2_1 rfl ?_
      refine go_call2 rfl (hw46) (Nat.le_of_ble_eq_true rfl) (qb_qv rfl (by decide) (by decide)) ?_
      refine go_ifne rfl (fun e => ?_) (fun e => ?_)
      · refine go_c rfl ?_
        exact fin_i rfl rfl rfl
      · exact absurd rfl e
    · refine (en_255 (d + 19) 192 x _).trans ?_
      refine go_ald_2_0 rfl ?_
      refine go_c rfl ?_
      refine go_puti rfl ⟨_, rfl, rfl, by decide, by decide⟩ rfl rfl ?_
      refine go_ald_2_0 rfl ?_
      refine go_ild_2_1 rfl ?_
      refine go_call2 rfl (hiw) (Nat.le_of_ble_eq_true rfl) (qb_qv rfl (by decide) (by decide)) ?_
      refine go_ifne rfl (fun e => ?_) (fun e => ?_)
      · refine go_c rfl ?_
        exact fin_i rfl rfl rfl
      · exact absurd rfl e

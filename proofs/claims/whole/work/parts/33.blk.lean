/-! writes of rows -/
theorem qb_ui_1s {s : qb_M} {a k : Nat} {v : Int32} : (qb_ui s a k v).1 a k = v := qb_u_s
theorem qb_ui_1n {s : qb_M} {a k b j : Nat} {v : Int32} (h : b ≠ a ∨ j ≠ k) : (qb_ui s a k v).1 b j = s.1 b j := h.elim (fun q => qb_u_a q) (fun q => qb_u_k q)
theorem qb_ul_1s {s : qb_M} {a k : Nat} {v : Int64} : (qb_ul s a k v).2.1 a k = v := qb_u_s
theorem qb_ul_1n {s : qb_M} {a k b j : Nat} {v : Int64} (h : b ≠ a ∨ j ≠ k) : (qb_ul s a k v).2.1 b j = s.2.1 b j := h.elim (fun q => qb_u_a q) (fun q => qb_u_k q)
def qb_wr (s : qb_M) (a i n : Nat) (g : Nat → Int32) : qb_M := (fun b k => if b = a ∧ i ≤ k ∧ k < i + n then g (k - i) else s.1 b k, s.2)
theorem qb_wr_in {s : qb_M} {a i n k : Nat} {g : Nat → Int32} (h : k < n) : (qb_wr s a i n g).1 a (i + k) = g k := by
  show (if a = a ∧ i ≤ i + k ∧ i + k < i + n then g (i + k - i) else s.1 a (i + k)) = g k
  rw [if_pos ⟨rfl, by omega, by omega⟩, show i + k - i = k by omega]
theorem qb_wr_o {s : qb_M} {a i n b k : Nat} {g : Nat → Int32} (h : b ≠ a ∨ k < i ∨ i + n ≤ k) : (qb_wr s a i n g).1 b k = s.1 b k := by
  show (if b = a ∧ i ≤ k ∧ k < i + n then g (k - i) else s.1 b k) = s.1 b k
  rw [if_neg (fun q => by rcases h with h | h | h <;> omega)]
theorem qb_wr_0 {s : qb_M} {a i : Nat} {g : Nat → Int32} : qb_wr s a i 0 g = s := by
  show (_, s.2) = s
  have : (fun b k => if b = a ∧ i ≤ k ∧ k < i + 0 then g (k - i) else s.1 b k) = s.1 := by
    funext b k
    rw [if_neg (fun q => by omega)]
  rw [this]
theorem qb_wr_s {s : qb_M} {a i n j : Nat} {g : Nat → Int32} {v : Int32} (hj : j = i + n) (hv : v = g n) : qb_ui (qb_wr s a i n g) a j v = qb_wr s a i (n + 1) g := by
  subst hj hv
  show (_, s.2) = (_, s.2)
  have : qb_u (qb_wr s a i n g).1 a (i + n) (g n) = fun b k => if b = a ∧ i ≤ k ∧ k < i + (n + 1) then g (k - i) else s.1 b k := by
    funext b k
    unfold qb_u qb_wr
    dsimp only
    by_cases h : b = a ∧ k = i + n
    · rw [if_pos h, if_pos ⟨h.1, by omega, by omega⟩, h.2, show i + n - i = n by omega]
    · rw [if_neg h]
      by_cases h2 : b = a ∧ i ≤ k ∧ k < i + n
      · rw [if_pos h2, if_pos ⟨h2.1, h2.2.1, by omega⟩]
      · rw [if_neg h2, if_neg (fun q => by omega)]
  rw [this]
def qb_wl (s : qb_M) (a i n : Nat) (g : Nat → Int64) : qb_M := (s.1, fun b k => if b = a ∧ i ≤ k ∧ k < i + n then g (k - i) else s.2.1 b k, s.2.2)
theorem qb_wl_in {s : qb_M} {a i n k : Nat} {g : Nat → Int64} (h : k < n) : (qb_wl s a i n g).2.1 a (i + k) = g k := by
  show (if a = a ∧ i ≤ i + k ∧ i + k < i + n then g (i + k - i) else s.2.1 a (i + k)) = g k
  rw [if_pos ⟨rfl, by omega, by omega⟩, show i + k - i = k by omega]
theorem qb_wl_o {s : qb_M} {a i n b k : Nat} {g : Nat → Int64} (h : b ≠ a ∨ k < i ∨ i + n ≤ k) : (qb_wl s a i n g).2.1 b k = s.2.1 b k := by
  show (if b = a ∧ i ≤ k ∧ k < i + n then g (k - i) else s.2.1 b k) = s.2.1 b k
  rw [if_neg (fun q => by rcases h with h | h | h <;> omega)]
theorem qb_wl_0 {s : qb_M} {a i : Nat} {g : Nat → Int64} : qb_wl s a i 0 g = s := by
  show (s.1, _, s.2.2) = s
  have : (fun b k => if b = a ∧ i ≤ k ∧ k < i + 0 then g (k - i) else s.2.1 b k) = s.2.1 := by
    funext b k
    rw [if_neg (fun q => by omega)]
  rw [this]
theorem qb_wl_s {s : qb_M} {a i n j : Nat} {g : Nat → Int64} {v : Int64} (hj : j = i + n) (hv : v = g n) : qb_ul (qb_wl s a i n g) a j v = qb_wl s a i (n + 1) g := by
  subst hj hv
  show (s.1, _, s.2.2) = (s.1, _, s.2.2)
  have : qb_u (qb_wl s a i n g).2.1 a (i + n) (g n) = fun b k => if b = a ∧ i ≤ k ∧ k < i + (n + 1) then g (k - i) else s.2.1 b k := by
    funext b k
    unfold qb_u qb_wl
    dsimp only
    by_cases h : b = a ∧ k = i + n
    · rw [if_pos h, if_pos ⟨h.1, by omega, by omega⟩, h.2, show i + n - i = n by omega]
    · rw [if_neg h]
      by_cases h2 : b = a ∧ i ≤ k ∧ k < i + n
      · rw [if_pos h2, if_pos ⟨h2.1, h2.2.1, by omega⟩]
      · rw [if_neg h2, if_neg (fun q => by omega)]
  rw [this]
theorem qb_cp_i {s : qb_M} {a b K j : Nat} (b1 : qb_sh b = .inl (0, K)) : qa_up (qb_hp s) b (.inl (0, K, .inl (va_cpy (s.1 a) (s.1 b) 0 0 j))) = qb_hp (qb_wr s b 0 j (s.1 a)) := by
  refine qb_hp_up ?_ (fun x hx => qb_hp_ne (fun q => ⟨qb_wr_o (Or.inl hx), rfl, rfl⟩))
  unfold qb_hp
  rw [b1]
  have : (qb_wr s b 0 j (s.1 a)).1 b = va_cpy (s.1 a) (s.1 b) 0 0 j := by
    funext q
    show (if b = b ∧ 0 ≤ q ∧ q < 0 + j then s.1 a (q - 0) else s.1 b q) = (if 0 ≤ q ∧ q < 0 + j then s.1 a (0 + (q - 0)) else s.1 b q)
    by_cases hq : q < j
    · rw [if_pos ⟨rfl, by omega, by omega⟩, if_pos ⟨by omega, by omega⟩, Nat.zero_add]
    · rw [if_neg (fun z => hq (by omega)), if_neg (fun z => hq (by omega))]
  show (.inl (0, K, .inl ((qb_wr s b 0 j (s.1 a)).1 b)) : qa_C) = _
  rw [this]
theorem go_cpyi {o : qa_O} {cd : qa_Cd} {pc n : Nat} {R : Option (Option Value × qa_H)} {s : qb_M} {c : Nat × Nat} {L S : List Value} {a b N K j : Nat} {k : Int32} (hc : cd pc = some (qa_q (qh_cpyi n))) (ha : qb_ia a 0 N) (hb : qb_ia b 0 K) (hk : k = nI j) (h1 : j ≤ N) (h2 : j ≤ K) (hs : (S.map fun v => v.category).sum ≤ 8) (kk : qa_lm o cd (n, L, S, (qb_hp (qb_wr s b 0 j (s.1 a)), 149, c)) = R) : qa_lm o cd (pc, L, .int k :: .int 0 :: .ref b :: .int 0 :: .ref a :: S, (qb_hp s, 149, c)) = R := by
  obtain ⟨a1, a2, a3, a4⟩ := ha
  obtain ⟨b1, b2, b3, b4⟩ := hb
  refine (qa_go (y := (n, L, S, (qb_hp (qb_wr s b 0 j (s.1 a)), 149, c))) hc ?_).trans kk
  unfold qa_q qh_cpyi
  dsimp only
  rw [show qa_arr (qb_hp s, 149, c) a 0 = some (N, .inl (s.1 a)) from qb_arr (g := (149, c)) a1 a2 a3, show qa_arr (qb_hp s, 149, c) b 0 = some (K, .inl (s.1 b)) from qb_arr (g := (149, c)) b1 b2 b3]
  dsimp only
  have e0 : (0 : Int32).toNatClampNeg = 0 := by decide
  rw [hk, nI_clamp (by omega), e0, if_pos ⟨by decide, by decide, nI_pos (by omega), by omega, by omega, hs⟩, qb_cp_i b1]
theorem qb_cp_l {s : qb_M} {a b K j : Nat} (b1 : qb_sh b = .inl (1, K)) : qa_up (qb_hp s) b (.inl (1, K, .inr (.inl (va_cpy (s.2.1 a) (s.2.1 b) 0 0 j)))) = qb_hp (qb_wl s b 0 j (s.2.1 a)) := by
  refine qb_hp_up ?_ (fun x hx => qb_hp_ne (fun q => ⟨rfl, qb_wl_o (Or.inl hx), rfl⟩))
  unfold qb_hp
  rw [b1]
  have : (qb_wl s b 0 j (s.2.1 a)).2.1 b = va_cpy (s.2.1 a) (s.2.1 b) 0 0 j := by
    funext q
    show (if b = b ∧ 0 ≤ q ∧ q < 0 + j then s.2.1 a (q - 0) else s.2.1 b q) = (if 0 ≤ q ∧ q < 0 + j then s.2.1 a (0 + (q - 0)) else s.2.1 b q)
    by_cases hq : q < j
    · rw [if_pos ⟨rfl, by omega, by omega⟩, if_pos ⟨by omega, by omega⟩, Nat.zero_add]
    · rw [if_neg (fun z => hq (by omega)), if_neg (fun z => hq (by omega))]
  show (.inl (1, K, .inr (.inl ((qb_wl s b 0 j (s.2.1 a)).2.1 b))) : qa_C) = _
  rw [this]
theorem go_cpyl {o : qa_O} {cd : qa_Cd} {pc n : Nat} {R : Option (Option Value × qa_H)} {s : qb_M} {c : Nat × Nat} {L S : List Value} {a b N K j : Nat} {k : Int32} (hc : cd pc = some (qa_q (qh_cpyl n))) (ha : qb_ia a 1 N) (hb : qb_ia b 1 K) (hk : k = nI j) (h1 : j ≤ N) (h2 : j ≤ K) (hs : (S.map fun v => v.category).sum ≤ 8) (kk : qa_lm o cd (n, L, S, (qb_hp (qb_wl s b 0 j (s.2.1 a)), 149, c)) = R) : qa_lm o cd (pc, L, .int k :: .int 0 :: .ref b :: .int 0 :: .ref a :: S, (qb_hp s, 149, c)) = R := by
  obtain ⟨a1, a2, a3, a4⟩ := ha
  obtain ⟨b1, b2, b3, b4⟩ := hb
  refine (qa_go (y := (n, L, S, (qb_hp (qb_wl s b 0 j (s.2.1 a)), 149, c))) hc ?_).trans kk
  unfold qa_q qh_cpyl
  dsimp only
  rw [show qa_arr (qb_hp s, 149, c) a 1 = some (N, .inr (.inl (s.2.1 a))) from qb_arr (g := (149, c)) a1 a2 a3, show qa_arr (qb_hp s, 149, c) b 1 = some (K, .inr (.inl (s.2.1 b))) from qb_arr (g := (149, c)) b1 b2 b3]
  dsimp only
  have e0 : (0 : Int32).toNatClampNeg = 0 := by decide
  rw [hk, nI_clamp (by omega), e0, if_pos ⟨by decide, by decide, nI_pos (by omega), by omega, by omega, hs⟩, qb_cp_l b1]
theorem sp_fill (d : Nat) (s : qb_M) (c : Nat × Nat) {a N : Nat} (ha : qb_ia a 0 N) (v : Int32) : qe (d + 1) 11 [.ref a, .int v] (qb_hp s, 149, c) = some (none, (qb_hp (qb_wr s a 0 N (fun _ => v)), 149, c)) := by
  have hN := ha.2.2.2
  have loop : ∀ (n k : Nat), k + n = N → qa_lm (qe d) (qa_cd qc_11) (5, [.ref a, .int v, .int (nI k), .int (nI N)], [], (qb_hp (qb_wr s a 0 k (fun _ => v)), 149, c)) = some (none, (qb_hp (qb_wr s a 0 N (fun _ => v)), 149, c)) := by
    intro n
    induction n with
    | zero =>
      intro k hk
      have hk : k = N := by omega
      subst hk
      refine go_ild_4_2 rfl ?_
      refine go_ild_4_3 rfl ?_
      refine go_icge rfl (fun e => ?_) (fun e => ?_)
      · exact fin_v rfl (rfl)
      · exact absurd (Int32.le_refl _) e
    | succ n ih =>
      intro k hk
      refine go_ild_4_2 rfl ?_
      refine go_ild_4_3 rfl ?_
      refine go_icge rfl (fun e => ?_) (fun e => ?_)
      · exact absurd e (nI_ge (by omega) (by omega))
      · refine go_ald_4_0 rfl ?_
        refine go_ild_4_2 rfl ?_
        refine go_ild_4_1 rfl ?_
        refine go_iast (j := k) rfl (ha) (rfl) (by omega) ?_
        refine go_inc_4_2 rfl rfl ?_
        refine go_goto rfl ?_
        rw [nI_1, qb_wr_s (by omega) rfl]
        exact ih (k + 1) (by omega)
  refine (en_11 d a v _).trans ?_
  refine go_c rfl ?_
  refine go_ist_4_2 rfl rfl ?_
  refine go_ald_4_0 rfl ?_
  refine go_len rfl (ha) ?_
  refine go_ist_4_3 rfl rfl ?_
  have := loop N 0 (by omega)
  rw [qb_wr_0] at this
  exact this
theorem sp_fillL (d : Nat) (s : qb_M) (c : Nat × Nat) {a N : Nat} (ha : qb_ia a 1 N) (v : Int64) : qe (d + 1) 104 [.ref a, .long v] (qb_hp s, 149, c) = some (none, (qb_hp (qb_wl s a 0 N (fun _ => v)), 149, c)) := by
  have hN := ha.2.2.2
  have loop : ∀ (n k : Nat), k + n = N → qa_lm (qe d) (qa_cd qc_104) (6, [.ref a, .long v, .retAddr 0, .int (nI k), .int (nI N)], [], (qb_hp (qb_wl s a 0 k (fun _ => v)), 149, c)) = some (none, (qb_hp (qb_wl s a 0 N (fun _ => v)), 149, c)) := by
    intro n
    induction n with
    | zero =>
      intro k hk
      have hk : k = N := by omega
      subst hk
      refine go_ild_5_3 rfl ?_
      refine go_ild_5_4 rfl ?_
      refine go_icge rfl (fun e => ?_) (fun e => ?_)
      · exact fin_v rfl (rfl)
      · exact absurd (Int32.le_refl _) e
    | succ n ih =>
      intro k hk
      refine go_ild_5_3 rfl ?_
      refine go_ild_5_4 rfl ?_
      refine go_icge rfl (fun e => ?_) (fun e => ?_)
      · exact absurd e (nI_ge (by omega) (by omega))
      · refine go_ald_5_0 rfl ?_
        refine go_ild_5_3 rfl ?_
        refine go_lld_5_1 rfl ?_
        refine go_last (j := k) rfl (ha) (rfl) (by omega) ?_
        refine go_inc_5_3 rfl rfl ?_
        refine go_goto rfl ?_
        rw [nI_1, qb_wl_s (by omega) rfl]
        exact ih (k + 1) (by omega)
  refine (en_104 d a v _).trans ?_
  refine go_c rfl ?_
  refine go_ist_5_3 rfl rfl ?_
  refine go_ald_5_0 rfl ?_
  refine go_len rfl (ha) ?_
  refine go_ist_5_4 rfl rfl ?_
  have := loop N 0 (by omega)
  rw [qb_wl_0] at this
  exact this
/-! what is so, copied and begun -/
/-- nothing changed but ints at addresses from a on, n of them -/
def qb_fr (s t : qb_M) (a n : Nat) : Prop := t.2 = s.2 ∧ ∀ x k, (x < a ∨ a + n ≤ x) → t.1 x k = s.1 x k
theorem qb_fr.rf {s : qb_M} {a n : Nat} : qb_fr s s a n := ⟨rfl, fun _ _ _ => rfl⟩
theorem qb_fr.ui {s t : qb_M} {a n x k : Nat} {v : Int32} (h : qb_fr s t a n) (h1 : a ≤ x) (h2 : x < a + n) : qb_fr s (qb_ui t x k v) a n := ⟨h.1, fun y j hy => by rw [qb_ui_1n (Or.inl (by omega))]; exact h.2 y j hy⟩
theorem qb_fr.wr {s t : qb_M} {a n x i m : Nat} {g : Nat → Int32} (h : qb_fr s t a n) (h1 : a ≤ x) (h2 : x < a + n) : qb_fr s (qb_wr t x i m g) a n := ⟨h.1, fun y j hy => by rw [qb_wr_o (Or.inl (by omega))]; exact h.2 y j hy⟩
/-- six fields, one behind the other -/
def qS_c6 (u : qb_M) (a b : Nat) : Nat → qb_M
  | 0 => u
  | k + 1 => qb_ui (qS_c6 u a b k) a (4 + k) ((qS_c6 u a b k).1 b (4 + k))
theorem qS_c6_o {u : qb_M} {a b : Nat} : ∀ (n x j : Nat), (x ≠ a ∨ j < 4 ∨ 4 + n ≤ j) → (qS_c6 u a b n).1 x j = u.1 x j
  | 0, _, _, _ => rfl
  | n + 1, x, j, h => by
    show (qb_ui (qS_c6 u a b n) a (4 + n) _).1 x j = _
    rw [qb_ui_1n (by omega)]
    exact qS_c6_o n x j (by omega)
theorem qS_c6_in {u : qb_M} {a b : Nat} (hab : b ≠ a) : ∀ (n k : Nat), k < n → (qS_c6 u a b n).1 a (4 + k) = u.1 b (4 + k)
  | 0, _, h => by omega
  | n + 1, k, h => by
    show (qb_ui (qS_c6 u a b n) a (4 + n) _).1 a (4 + k) = _
    by_cases e : k = n
    · subst e
      rw [qb_ui_1s]
      exact qS_c6_o k b (4 + k) (Or.inl hab)
    · rw [qb_ui_1n (by omega)]
      exact qS_c6_in hab n k (by omega)
def qS_c4 (s : qb_M) (a b : Nat) : Nat → qb_M
  | 0 => s
  | k + 1 => qb_wr (qS_c4 s a b k) (a + (k + 1)) 0 (if k = 3 then 10 else 8) ((qS_c4 s a b k).1 (b + (k + 1)))
theorem qS_c4_o {s : qb_M} {a b : Nat} : ∀ (n x j : Nat), (x < a + 1 ∨ a + n < x) → (qS_c4 s a b n).1 x j = s.1 x j
  | 0, _, _, _ => rfl
  | n + 1, x, j, h => by
    show (qb_wr (qS_c4 s a b n) (a + (n + 1)) 0 _ _).1 x j = _
    rw [qb_wr_o (by omega)]
    exact qS_c4_o n x j (by omega)
theorem qS_c4_in {s : qb_M} {a b : Nat} (hab : a + 5 ≤ b ∨ b + 5 ≤ a) : ∀ (n k j : Nat), n ≤ 4 → k < n → j < (if k = 3 then 10 else 8) → (qS_c4 s a b n).1 (a + (k + 1)) j = s.1 (b + (k + 1)) j
  | 0, _, _, _, h, _ => by omega
  | n + 1, k, j, h4, h, hj => by
    show (qb_wr (qS_c4 s a b n) (a + (n + 1)) 0 _ _).1 (a + (k + 1)) j = _
    by_cases e : k = n
    · subst e
      have h9 := qb_wr_in (s := qS_c4 s a b k) (a := a + (k + 1)) (i := 0) (g := (qS_c4 s a b k).1 (b + (k + 1))) hj
      rw [Nat.zero_add] at h9
      rw [h9]
      exact qS_c4_o k _ _ (by omega)
    · rw [qb_wr_o (by omega)]
      exact qS_c4_in hab n k j (by omega) (by omega) hj
theorem sp_copyS (d : Nat) (s : qb_M) (c : Nat × Nat) {a b : Nat} (hS : qS_sh a) (hT : qS_sh b) (hab : a + 5 ≤ b ∨ b + 5 ≤ a) : ∃ t, qe (d + 1) 58 [.ref a, .ref b] (qb_hp s, 149, c) = some (none, (qb_hp t, 149, c)) ∧ (∀ k, k < 40 → qs_so t a k = qs_so s b k) ∧ qb_fr s t a 5 := by
  refine ⟨qS_c6 (qS_c4 s a b 4) a b 6, ?_, ?_, ?_⟩
  · refine (en_58 d a b _).trans ?_
    refine go_ald_2_1 rfl ?_
    refine go_getr rfl (qS_f hT rfl) ?_
    refine go_c rfl ?_
    refine go_ald_2_0 rfl ?_
    refine go_getr rfl (qS_f hS rfl) ?_
    refine go_c rfl ?_
    refine go_c rfl ?_
    refine go_cpyi (j := 8) rfl ( hT.2.1.1 ) ( hS.2.1.1) rfl (by decide) (by decide) (Nat.le_of_ble_eq_true rfl) ?_
    refine go_ald_2_1 rfl ?_
    refine go_getr rfl (qS_f hT rfl) ?_
    refine go_c rfl ?_
    refine go_ald_2_0 rfl ?_
    refine go_getr rfl (qS_f hS rfl) ?_
    refine go_c rfl ?_
    refine go_c rfl ?_
    refine go_cpyi (j := 8) rfl ( hT.2.1.2.1 ) ( hS.2.1.2.1) rfl (by decide) (by decide) (Nat.le_of_ble_eq_true rfl) ?_
    refine go_ald_2_1 rfl ?_
    refine go_getr rfl (qS_f hT rfl) ?_
    refine go_c rfl ?_
    refine go_ald_2_0 rfl ?_
    refine go_getr rfl (qS_f hS rfl) ?_
    refine go_c rfl ?_
    refine go_c rfl ?_
    refine go_cpyi (j := 8) rfl ( hT.2.1.2.2.1 ) ( hS.2.1.2.2.1) rfl (by decide) (by decide) (Nat.le_of_ble_eq_true rfl) ?_
    refine go_ald_2_1 rfl ?_
    refine go_getr rfl (qS_f hT rfl) ?_
    refine go_c rfl ?_
    refine go_ald_2_0 rfl ?_
    refine go_getr rfl (qS_f hS rfl) ?_
    refine go_c rfl ?_
    refine go_c rfl ?_
    refine go_cpyi (j := 10) rfl ( hT.2.1.2.2.2 ) ( hS.2.1.2.2.2) rfl (by decide) (by decide) (Nat.le_of_ble_eq_true rfl) ?_
    refine go_ald_2_0 rfl ?_
    refine go_ald_2_1 rfl ?_
    refine go_geti rfl (qS_f hT rfl) ?_
    refine go_puti rfl (qS_f hS rfl) rfl rfl ?_
    refine go_ald_2_0 rfl ?_
    refine go_ald_2_1 rfl ?_
    refine go_geti rfl (qS_f hT rfl) ?_
    refine go_puti rfl (qS_f hS rfl) rfl rfl ?_
    refine go_ald_2_0 rfl ?_
    refine go_ald_2_1 rfl ?_
    refine go_geti rfl (qS_f hT rfl) ?_
    refine go_puti rfl (qS_f hS rfl) rfl rfl ?_
    refine go_ald_2_0 rfl ?_
    refine go_ald_2_1 rfl ?_
    refine go_geti rfl (qS_f hT rfl) ?_
    refine go_puti rfl (qS_f hS rfl) rfl rfl ?_
    refine go_ald_2_0 rfl ?_
    refine go_ald_2_1 rfl ?_
    refine go_geti rfl (qS_f hT rfl) ?_
    refine go_puti rfl (qS_f hS rfl) rfl rfl ?_
    refine go_ald_2_0 rfl ?_
    refine go_ald_2_1 rfl ?_
    refine go_geti rfl (qS_f hT rfl) ?_
    refine go_puti rfl (qS_f hS rfl) rfl rfl ?_
    exact fin_v rfl rfl
  · intro k hk
    unfold qs_so
    have hr : ∀ m j, m < 4 → j < (if m = 3 then 10 else 8) → (qS_c6 (qS_c4 s a b 4) a b 6).1 (a + (m + 1)) j = s.1 (b + (m + 1)) j := fun m j hm hj => by
      rw [qS_c6_o 6 _ _ (Or.inl (by omega))]
      exact qS_c4_in hab 4 m j (by omega) hm hj
    by_cases h1 : k < 6
    · rw [if_pos h1, if_pos h1, qS_c6_in (by omega) 6 k h1]
      exact qS_c4_o 4 _ _ (by omega)
    rw [if_neg h1, if_neg h1]
    by_cases h2 : k < 14
    · rw [if_pos h2, if_pos h2]; exact hr 0 _ (by omega) (by simp; omega)
    rw [if_neg h2, if_neg h2]
    by_cases h3 : k < 22
    · rw [if_pos h3, if_pos h3]; exact hr 1 _ (by omega) (by simp; omega)
    rw [if_neg h3, if_neg h3]
    by_cases h4 : k < 30
    · rw [if_pos h4, if_pos h4]; exact hr 2 _ (by omega) (by simp; omega)
    rw [if_neg h4, if_neg h4]
    exact hr 3 _ (by omega) (by simp; omega)
  · have e : ∀ n, (qS_c4 s a b n).2 = s.2 := fun n => by
      induction n with
      | zero => rfl
      | succ n ih => exact ih
    have e2 : ∀ n, (qS_c6 (qS_c4 s a b 4) a b n).2 = s.2 := fun n => by
      induction n with
      | zero => exact e 4
      | succ n ih => exact ih
    refine ⟨e2 6, fun x j hx => ?_⟩
    rw [qS_c6_o 6 _ _ (Or.inl (by omega)), qS_c4_o 4 _ _ (by omega)]

/-! TEXTS: tokens, as both read them -/
/-- two memories in one: the component's cells of the first, the reference's of the second -/
def qj (M u : qb_M) : qb_M := (fun a k => if a < 192 then M.1 a k else u.1 a k, fun a k => if a < 192 then M.2.1 a k else u.2.1 a k, fun a k => if a < 192 then M.2.2 a k else u.2.2 a k)
theorem qj_i {M u : qb_M} {a k : Nat} (h : a < 192) : (qj M u).1 a k = M.1 a k := if_pos h
theorem qj_l {M u : qb_M} {a k : Nat} (h : a < 192) : (qj M u).2.1 a k = M.2.1 a k := if_pos h
theorem qj_p {M u : qb_M} {a k : Nat} (h : a < 192) : (qj M u).2.2 a k = M.2.2 a k := if_pos h
theorem qj_I {M u : qb_M} {a k : Nat} (h : ¬ a < 192) : (qj u M).1 a k = M.1 a k := if_neg h
theorem qj_L {M u : qb_M} {a k : Nat} (h : ¬ a < 192) : (qj u M).2.1 a k = M.2.1 a k := if_neg h
theorem qj_P {M u : qb_M} {a k : Nat} (h : ¬ a < 192) : (qj u M).2.2 a k = M.2.2 a k := if_neg h
theorem qj_self {M : qb_M} : qj M M = M := by
  have h1 : (qj M M).1 = M.1 := funext fun a => funext fun k => ite_self _
  have h2 : (qj M M).2.1 = M.2.1 := funext fun a => funext fun k => ite_self _
  have h3 : (qj M M).2.2 = M.2.2 := funext fun a => funext fun k => ite_self _
  exact Prod.ext h1 (Prod.ext h2 h3)
theorem qj_u {α : Type} {f g : Nat → Nat → α} {a k : Nat} {v : α} (h : a < 192) : qb_u (fun a k => if a < 192 then f a k else g a k) a k v = fun b j => if b < 192 then qb_u f a k v b j else g b j := funext fun b => funext fun j => by
  unfold qb_u
  by_cases e : b = a ∧ j = k
  · rw [if_pos e, if_pos e, if_pos (by omega)]
  · rw [if_neg e, if_neg e]
theorem qj_U {α : Type} {f g : Nat → Nat → α} {a k : Nat} {v : α} (h : ¬ a < 192) : qb_u (fun a k => if a < 192 then f a k else g a k) a k v = fun b j => if b < 192 then f b j else qb_u g a k v b j := funext fun b => funext fun j => by
  unfold qb_u
  by_cases e : b = a ∧ j = k
  · rw [if_pos e, if_pos e, if_neg (by omega)]
  · rw [if_neg e, if_neg e]
theorem qj_ui {M u : qb_M} {a k : Nat} {v : Int32} (h : a < 192) : qb_ui (qj M u) a k v = qj (qb_ui M a k v) u := Prod.ext (qj_u h) rfl
theorem qj_ul {M u : qb_M} {a k : Nat} {v : Int64} (h : a < 192) : qb_ul (qj M u) a k v = qj (qb_ul M a k v) u := Prod.ext rfl (Prod.ext (qj_u h) rfl)
theorem qj_up {M u : qb_M} {a k : Nat} {v : Option Nat} (h : a < 192) : qb_up (qj M u) a k v = qj (qb_up M a k v) u := Prod.ext rfl (Prod.ext rfl (qj_u h))
theorem qj_UI {M u : qb_M} {a k : Nat} {v : Int32} (h : ¬ a < 192) : qb_ui (qj u M) a k v = qj u (qb_ui M a k v) := Prod.ext (qj_U h) rfl
theorem qj_UL {M u : qb_M} {a k : Nat} {v : Int64} (h : ¬ a < 192) : qb_ul (qj u M) a k v = qj u (qb_ul M a k v) := Prod.ext rfl (Prod.ext (qj_U h) rfl)
theorem qb_up_1s {s : qb_M} {a k : Nat} {v : Option Nat} : (qb_up s a k v).2.2 a k = v := qb_u_s
theorem qb_up_1n {s : qb_M} {a k b j : Nat} {v : Option Nat} (h : b ≠ a ∨ j ≠ k) : (qb_up s a k v).2.2 b j = s.2.2 b j := h.elim (fun q => qb_u_a q) (fun q => qb_u_k q)
/-- kinds of bytes -/
def tx_a (c : Nat) : Bool := decide (97 ≤ c) && decide (c ≤ 122)
def tx_d (c : Nat) : Bool := decide (48 ≤ c) && decide (c ≤ 57)
def tx_w (c : Nat) : Bool := decide (c = 32) || decide (c = 10)
def tx_s (c : Nat) : Bool := decide (c = 59) || decide (c = 60) || decide (c = 61) || decide (c = 62) || decide (c = 40) || decide (c = 41)
def tx_q (n : Nat) (b : Nat → Nat) (p : Nat) : Nat := p + fa_first (fun i => !tx_w (b (p + i))) (n - p)
def tx_r (n : Nat) (b : Nat → Nat) (q : Nat) : Nat := q + fa_first (fun i => !(tx_a (b (q + i)) || tx_d (b (q + i)))) (n - q)
theorem tx_q_ok {n : Nat} {b : Nat → Nat} {p : Nat} (hp : p ≤ n) : (p ≤ tx_q n b p ∧ tx_q n b p ≤ n) ∧ (∀ i, p ≤ i → i < tx_q n b p → tx_w (b i) = true) ∧ (tx_q n b p < n → ¬ tx_w (b (tx_q n b p)) = true) := by
  have h1 := fa_first_le (fun i => !tx_w (b (p + i))) (n - p)
  refine ⟨⟨Nat.le_add_right _ _, by unfold tx_q; omega⟩, fun i hi1 hi2 => ?_, fun h => ?_⟩
  · have := fa_first_no (fun i => !tx_w (b (p + i))) (n - p) (i - p) (by unfold tx_q at hi2; omega)
    rw [show p + (i - p) = i by omega] at this
    simpa using this
  · have := fa_first_yes (fun i => !tx_w (b (p + i))) (n - p) (by unfold tx_q at h; omega)
    unfold tx_q
    simpa using this
theorem tx_r_ok {n : Nat} {b : Nat → Nat} {q : Nat} (hq : q ≤ n) : (q ≤ tx_r n b q ∧ tx_r n b q ≤ n) ∧ (∀ i, q ≤ i → i < tx_r n b q → (tx_a (b i) || tx_d (b i)) = true) ∧ (tx_r n b q < n → ¬ (tx_a (b (tx_r n b q)) || tx_d (b (tx_r n b q))) = true) := by
  have h1 := fa_first_le (fun i => !(tx_a (b (q + i)) || tx_d (b (q + i)))) (n - q)
  refine ⟨⟨Nat.le_add_right _ _, by unfold tx_r; omega⟩, fun i hi1 hi2 => ?_, fun h => ?_⟩
  · have := fa_first_no (fun i => !(tx_a (b (q + i)) || tx_d (b (q + i)))) (n - q) (i - q) (by unfold tx_r at hi2; omega)
    rw [show q + (i - q) = i by omega, Bool.not_eq_false'] at this
    exact this
  · have := fa_first_yes (fun i => !(tx_a (b (q + i)) || tx_d (b (q + i)))) (n - q) (by unfold tx_r at h; omega)
    rw [Bool.not_eq_true', ← Bool.not_eq_true] at this
    exact this
/-- a run's letters, its number -/
def tx_ls (b : Nat → Nat) (q m : Nat) : List Nat := (List.range m).map (fun i => b (q + i) - 96)
def tx_nm (b : Nat → Nat) (q : Nat) : Nat → Nat
  | 0 => 0
  | m + 1 => tx_nm b q m * 10 + (b (q + m) - 48)
def tx_A (b : Nat → Nat) (q m : Nat) : Bool := !qm_any (fun i => !tx_a (b (q + i))) m
def tx_D (b : Nat → Nat) (q m : Nat) : Bool := !qm_any (fun i => !tx_d (b (q + i))) m
theorem tx_A_iff {b : Nat → Nat} {q m : Nat} : tx_A b q m = true ↔ ∀ i, i < m → tx_a (b (q + i)) = true := by
  unfold tx_A
  rw [Bool.not_eq_true', Bool.eq_false_iff, Ne, qm_any_t]
  constructor
  · intro h i hi
    exact Classical.byContradiction fun z => h ⟨i, hi, by rw [eq_false_of_ne_true z]; rfl⟩
  · rintro h ⟨i, hi, z⟩
    rw [h i hi] at z
    cases z
theorem tx_D_iff {b : Nat → Nat} {q m : Nat} : tx_D b q m = true ↔ ∀ i, i < m → tx_d (b (q + i)) = true := by
  unfold tx_D
  rw [Bool.not_eq_true', Bool.eq_false_iff, Ne, qm_any_t]
  constructor
  · intro h i hi
    exact Classical.byContradiction fun z => h ⟨i, hi, by rw [eq_false_of_ne_true z]; rfl⟩
  · rintro h ⟨i, hi, z⟩
    rw [h i hi] at z
    cases z
theorem tx_ad (c : Nat) : tx_a c = true → tx_d c = true → False := by
  unfold tx_a tx_d
  rw [Bool.and_eq_true, Bool.and_eq_true, decide_eq_true_eq, decide_eq_true_eq, decide_eq_true_eq, decide_eq_true_eq]
  omega
theorem tx_ls_s {b : Nat → Nat} {q m : Nat} : tx_ls b q (m + 1) = tx_ls b q m ++ [b (q + m) - 96] := by
  unfold tx_ls
  rw [List.range_succ, List.map_append]
  rfl
theorem qn_32_s {ls : List Nat} {x : Nat} : qn_32 (ls ++ [x]) = 32 * qn_32 ls + x := by
  unfold qn_32
  rw [List.foldl_append]
  rfl
theorem qn_27_s {ls : List Nat} {x : Nat} : qn_27 (ls ++ [x]) = 27 * qn_27 ls + x := by
  unfold qn_27
  rw [List.foldl_append]
  rfl
/-- the token behind place p: its kind (a sign's is its byte), place, and where the next begins -/
def tx_k (n l : Nat) (b : Nat → Nat) (p : Nat) : Nat := if l < n ∧ l ≤ tx_q n b p then 1 else if n ≤ tx_q n b p then 0 else if (tx_a (b (tx_q n b p)) || tx_d (b (tx_q n b p))) = true then (if tx_A b (tx_q n b p) (tx_r n b (tx_q n b p) - tx_q n b p) = true ∧ tx_r n b (tx_q n b p) - tx_q n b p ≤ 7 then 2 else if tx_D b (tx_q n b p) (tx_r n b (tx_q n b p) - tx_q n b p) = true ∧ tx_r n b (tx_q n b p) - tx_q n b p ≤ 3 then 3 else 1) else if tx_s (b (tx_q n b p)) = true then b (tx_q n b p) else 1
def tx_p (n l : Nat) (b : Nat → Nat) (p : Nat) : Nat := if l < n ∧ l ≤ tx_q n b p then l else tx_q n b p
def tx_e (n l : Nat) (b : Nat → Nat) (p : Nat) : Nat := if l < n ∧ l ≤ tx_q n b p then tx_q n b p else if n ≤ tx_q n b p then tx_q n b p else if (tx_a (b (tx_q n b p)) || tx_d (b (tx_q n b p))) = true then tx_r n b (tx_q n b p) else tx_q n b p + 1
def tx_l (n : Nat) (b : Nat → Nat) (p : Nat) : List Nat := tx_ls b (tx_q n b p) (tx_r n b (tx_q n b p) - tx_q n b p)
def tx_n (n : Nat) (b : Nat → Nat) (p : Nat) : Nat := tx_nm b (tx_q n b p) (tx_r n b (tx_q n b p) - tx_q n b p)
/-- the word that letters spell -/
def tx_wd (ls : List Nat) : Option Nat := if fa_first (fun i => decide (qw_let i = lN (qn_32 ls))) 23 < 23 then some (fa_first (fun i => decide (qw_let i = lN (qn_32 ls))) 23) else none
/-- the text, as the component has it, as the reference has it -/
def tx_F (M : qb_M) (n l : Nat) (b : Nat → Nat) : Prop := (n ≤ 940 ∧ l ≤ 940 ∧ ∀ k, k < n → b k < 256) ∧ M.1 65 1 = nI n ∧ M.1 65 4 = nI l ∧ ∀ k, k < n → M.1 66 k = nI (b k)
def tx_G (M : qb_M) (n l : Nat) (b : Nat → Nat) : Prop := (n ≤ 940 ∧ l ≤ 940 ∧ ∀ k, k < n → b k < 256) ∧ M.1 192 3 = nI n ∧ M.1 192 4 = nI l ∧ ∀ k, k < n → M.1 193 k = nI (b k)
theorem tx_F.mv {P : Nat → Nat → Prop} {M N : qb_M} {n l : Nat} {b : Nat → Nat} (h : tx_F M n l b) (hf : qG P M N) (hd : ∀ x k, x = 65 ∧ (k = 1 ∨ k = 4) ∨ x = 66 → ¬ P x k) : tx_F N n l b := ⟨h.1, (hf.i (hd _ _ (by omega))).trans h.2.1, (hf.i (hd _ _ (by omega))).trans h.2.2.1, fun k hk => (hf.i (hd _ _ (by omega))).trans (h.2.2.2 k hk)⟩
theorem tx_G.mv {P : Nat → Nat → Prop} {M N : qb_M} {n l : Nat} {b : Nat → Nat} (h : tx_G M n l b) (hf : qG P M N) (hd : ∀ x k, x = 192 ∧ (k = 3 ∨ k = 4) ∨ x = 193 → ¬ P x k) : tx_G N n l b := ⟨h.1, (hf.i (hd _ _ (by omega))).trans h.2.1, (hf.i (hd _ _ (by omega))).trans h.2.2.1, fun k hk => (hf.i (hd _ _ (by omega))).trans (h.2.2.2 k hk)⟩
/-- the token at hand -/
def tx_C (M : qb_M) (n l : Nat) (b : Nat → Nat) (p : Nat) : Prop := M.1 65 5 = nI (tx_e n l b p) ∧ M.1 65 6 = nI (tx_p n l b p) ∧ M.1 65 7 = nI (tx_k n l b p) ∧ (tx_k n l b p = 2 → M.2.1 65 9 = lN (qn_32 (tx_l n b p)) ∧ M.2.2 65 10 = tx_wd (tx_l n b p)) ∧ (tx_k n l b p ≠ 2 → M.2.2 65 10 = none) ∧ (tx_k n l b p = 3 → M.1 65 8 = nI (tx_n n b p))
def tx_M (M : qb_M) (n l : Nat) (b : Nat → Nat) (p : Nat) : Prop := M.1 192 5 = nI (tx_e n l b p) ∧ M.1 192 6 = nI (tx_p n l b p) ∧ M.1 192 7 = nI (if 4 ≤ tx_k n l b p then 4 else tx_k n l b p) ∧ (4 ≤ tx_k n l b p → M.1 192 9 = nI (tx_k n l b p)) ∧ (tx_k n l b p = 2 → M.2.1 192 12 = lN (qn_27 (tx_l n b p))) ∧ (tx_k n l b p = 3 → M.1 192 8 = nI (tx_n n b p))
theorem sp_isLetterC (d k : Nat) (hk : k < 256) (h : qa_H) : qe (d + 1) 21 [.int (nI k)] h = some (some (.int (qB (tx_a k = true))), h) := by
  refine (en_21 d (nI k) h).trans ?_
  unfold tx_a
  refine go_ild_1_0 rfl ?_
  refine go_c rfl ?_
  refine go_iclt rfl (fun e => ?_) (fun e => ?_)
  · have := (nI_ltI (b := 97) (by omega) (by decide)).mp e
    refine go_c rfl ?_
    exact fin_i rfl rfl (qR_i (qB_f (by rw [decide_eq_false (by omega)]; exact Bool.false_ne_true)).symm)
  · have e : ¬ k < 97 := fun z => e (nI_lt z (by decide))
    refine go_ild_1_0 rfl ?_
    refine go_c rfl ?_
    refine go_icgt rfl (fun e2 => ?_) (fun e2 => ?_)
    · have := (nI_ltI (a := 122) (by decide) (by omega)).mp e2
      refine go_c rfl ?_
      exact fin_i rfl rfl (qR_i (qB_f (by rw [decide_eq_false (show ¬ k ≤ 122 by omega), Bool.and_false]; exact Bool.false_ne_true)).symm)
    · have e2 : ¬ 122 < k := fun z => e2 (nI_lt z (by omega))
      refine go_c rfl ?_
      refine go_goto rfl ?_
      exact fin_i rfl rfl (qR_i (qB_t (by rw [decide_eq_true (show 97 ≤ k by omega), decide_eq_true (show k ≤ 122 by omega)]; rfl)).symm)
theorem sp_isDigitC (d k : Nat) (hk : k < 256) (h : qa_H) : qe (d + 1) 22 [.int (nI k)] h = some (some (.int (qB (tx_d k = true))), h) := by
  refine (en_22 d (nI k) h).trans ?_
  unfold tx_d
  refine go_ild_1_0 rfl ?_
  refine go_c rfl ?_
  refine go_iclt rfl (fun e => ?_) (fun e => ?_)
  · have := (nI_ltI (b := 48) (by omega) (by decide)).mp e
    refine go_c rfl ?_
    exact fin_i rfl rfl (qR_i (qB_f (by rw [decide_eq_false (by omega)]; exact Bool.false_ne_true)).symm)
  · have e : ¬ k < 48 := fun z => e (nI_lt z (by decide))
    refine go_ild_1_0 rfl ?_
    refine go_c rfl ?_
    refine go_icgt rfl (fun e2 => ?_) (fun e2 => ?_)
    · have := (nI_ltI (a := 57) (by decide) (by omega)).mp e2
      refine go_c rfl ?_
      exact fin_i rfl rfl (qR_i (qB_f (by rw [decide_eq_false (show ¬ k ≤ 57 by omega), Bool.and_false]; exact Bool.false_ne_true)).symm)
    · have e2 : ¬ 57 < k := fun z => e2 (nI_lt z (by omega))
      refine go_c rfl ?_
      refine go_goto rfl ?_
      exact fin_i rfl rfl (qR_i (qB_t (by rw [decide_eq_true (show 48 ≤ k by omega), decide_eq_true (show k ≤ 57 by omega)]; rfl)).symm)
theorem sp_isLetterM (d k : Nat) (hk : k < 256) (h : qa_H) : qe (d + 1) 171 [.int (nI k)] h = some (some (.int (qB (tx_a k = true))), h) := by
  refine (en_171 d (nI k) h).trans ?_
  unfold tx_a
  refine go_ild_1_0 rfl ?_
  refine go_c rfl ?_
  refine go_iclt rfl (fun e => ?_) (fun e => ?_)
  · have := (nI_ltI (b := 97) (by omega) (by decide)).mp e
    refine go_c rfl ?_
    exact fin_i rfl rfl (qR_i (qB_f (by rw [decide_eq_false (by omega)]; exact Bool.false_ne_true)).symm)
  · have e : ¬ k < 97 := fun z => e (nI_lt z (by decide))
    refine go_ild_1_0 rfl ?_
    refine go_c rfl ?_
    refine go_icgt rfl (fun e2 => ?_) (fun e2 => ?_)
    · have := (nI_ltI (a := 122) (by decide) (by omega)).mp e2
      refine go_c rfl ?_
      exact fin_i rfl rfl (qR_i (qB_f (by rw [decide_eq_false (show ¬ k ≤ 122 by omega), Bool.and_false]; exact Bool.false_ne_true)).symm)
    · have e2 : ¬ 122 < k := fun z => e2 (nI_lt z (by omega))
      refine go_c rfl ?_
      refine go_goto rfl ?_
      exact fin_i rfl rfl (qR_i (qB_t (by rw [decide_eq_true (show 97 ≤ k by omega), decide_eq_true (show k ≤ 122 by omega)]; rfl)).symm)
theorem sp_isDigitM (d k : Nat) (hk : k < 256) (h : qa_H) : qe (d + 1) 172 [.int (nI k)] h = some (some (.int (qB (tx_d k = true))), h) := by
  refine (en_172 d (nI k) h).trans ?_
  unfold tx_d
  refine go_ild_1_0 rfl ?_
  refine go_c rfl ?_
  refine go_iclt rfl (fun e => ?_) (fun e => ?_)
  · have := (nI_ltI (b := 48) (by omega) (by decide)).mp e
    refine go_c rfl ?_
    exact fin_i rfl rfl (qR_i (qB_f (by rw [decide_eq_false (by omega)]; exact Bool.false_ne_true)).symm)
  · have e : ¬ k < 48 := fun z => e (nI_lt z (by decide))
    refine go_ild_1_0 rfl ?_
    refine go_c rfl ?_
    refine go_icgt rfl (fun e2 => ?_) (fun e2 => ?_)
    · have := (nI_ltI (a := 57) (by decide) (by omega)).mp e2
      refine go_c rfl ?_
      exact fin_i rfl rfl (qR_i (qB_f (by rw [decide_eq_false (show ¬ k ≤ 57 by omega), Bool.and_false]; exact Bool.false_ne_true)).symm)
    · have e2 : ¬ 57 < k := fun z => e2 (nI_lt z (by omega))
      refine go_c rfl ?_
      refine go_goto rfl ?_
      exact fin_i rfl rfl (qR_i (qB_t (by rw [decide_eq_true (show 48 ≤ k by omega), decide_eq_true (show k ≤ 57 by omega)]; rfl)).symm)
theorem sp_isSignC (d k : Nat) (hk : k < 256) (h : qa_H) : qe (d + 1) 26 [.int (nI k)] h = some (some (.int (qB (tx_s k = true))), h) := by
  have eq : ∀ j : Nat, j < 256 → (nI k = nI j ↔ k = j) := fun j hj => nI_eq (by omega) (by omega)
  refine (en_26 d (nI k) h).trans ?_
  unfold tx_s
  have yes : k = 59 ∨ k = 60 ∨ k = 61 ∨ k = 62 ∨ k = 40 ∨ k = 41 → qa_lm (qe d) (qa_cd qc_26) (36, [.int (nI k)], [], h) = some (some (.int (qB ((decide (k = 59) || decide (k = 60) || decide (k = 61) || decide (k = 62) || decide (k = 40) || decide (k = 41)) = true))), h) := fun q => by
    refine go_c rfl ?_
    refine go_goto rfl ?_
    exact fin_i rfl rfl (qR_i (qB_t (by rcases q with q | q | q | q | q | q <;> subst q <;> rfl)).symm)
  refine go_ild_1_0 rfl ?_
  refine go_c rfl ?_
  refine go_iceq rfl (fun e0 => ?_) (fun e0 => ?_)
  · exact yes (by have := (eq 59 (by decide)).mp e0; omega)
  · refine go_ild_1_0 rfl ?_
    refine go_c rfl ?_
    refine go_iceq rfl (fun e1 => ?_) (fun e1 => ?_)
    · exact yes (by have := (eq 60 (by decide)).mp e1; omega)
    · refine go_ild_1_0 rfl ?_
      refine go_c rfl ?_
      refine go_iceq rfl (fun e2 => ?_) (fun e2 => ?_)
      · exact yes (by have := (eq 61 (by decide)).mp e2; omega)
      · refine go_ild_1_0 rfl ?_
        refine go_c rfl ?_
        refine go_iceq rfl (fun e3 => ?_) (fun e3 => ?_)
        · exact yes (by have := (eq 62 (by decide)).mp e3; omega)
        · refine go_ild_1_0 rfl ?_
          refine go_c rfl ?_
          refine go_iceq rfl (fun e4 => ?_) (fun e4 => ?_)
          · exact yes (by have := (eq 40 (by decide)).mp e4; omega)
          · refine go_ild_1_0 rfl ?_
            refine go_c rfl ?_
            refine go_icne rfl (fun e5 => ?_) (fun e5 => ?_)
            · exact yes (by have := (eq 41 (by decide)).mp e5; omega)
            · refine go_c rfl ?_
              exact fin_i rfl rfl (qR_i (qB_f (by
                rw [decide_eq_false (fun z => e0 ((eq 59 (by decide)).mpr z)), decide_eq_false (fun z => e1 ((eq 60 (by decide)).mpr z)), decide_eq_false (fun z => e2 ((eq 61 (by decide)).mpr z)), decide_eq_false (fun z => e3 ((eq 62 (by decide)).mpr z)), decide_eq_false (fun z => e4 ((eq 40 (by decide)).mpr z)), decide_eq_false (fun z => e5 ((eq 41 (by decide)).mpr z))]
                exact Bool.false_ne_true)).symm)
theorem tx_lc : ∀ k, k < 123 → 97 ≤ k → (nI k - 97 + 1).toInt64 = lN (k - 96) := by decide +kernel
theorem sp_withLetter (d a k : Nat) (hk : tx_a k = true) (h : qa_H) : qe (d + 1) 24 [.long (lN a), .int (nI k)] h = some (some (.long (lN (32 * a + (k - 96)))), h) := by
  unfold tx_a at hk
  rw [Bool.and_eq_true, decide_eq_true_eq, decide_eq_true_eq] at hk
  refine (en_24 d (lN a) (nI k) h).trans ?_
  refine go_lld_3_0 rfl ?_
  refine go_c rfl ?_
  rw [show (32 : Int64) = lN 32 from rfl]
  refine go_lmul rfl ?_
  rw [lN_mul]
  refine go_ild_3_2 rfl ?_
  refine go_c rfl ?_
  refine go_isub rfl ?_
  refine go_c rfl ?_
  refine go_iadd rfl ?_
  refine go_i2l rfl ?_
  rw [tx_lc k (by omega) hk.1]
  refine go_ladd rfl ?_
  rw [lN_add]
  exact fin_l rfl (by rw [Nat.mul_comm])
theorem go_sn {o : qa_O} {cd : qa_Cd} {pc n a : Nat} {R : Option (Option Value × qa_H)} {L S : List Value} {h : qa_H} {tb : Nat → Option (List Value)} {vs : List Value} {N : Nat} (hc : cd pc = some (qa_p (qp_sn tb n))) (ht : tb a = some vs) (hN : vs.length = N) (k : qa_lm o cd (n, L, .int (nI N) :: S, h) = R) : qa_lm o cd (pc, L, .ref a :: S, h) = R := (qa_go hc (by unfold qa_p qp_sn; dsimp only; rw [ht]; dsimp only; rw [hN]; rfl)).trans k
theorem go_sa {o : qa_O} {cd : qa_Cd} {pc n a : Nat} {R : Option (Option Value × qa_H)} {L S : List Value} {h : qa_H} {tb : Nat → Option (List Value)} {vs : List Value} {j : Nat} {v : Value} (hc : cd pc = some (qa_p (qp_sa tb n))) (ht : tb a = some vs) (hv : vs[j]? = some v) (hj : j < 2 ^ 31) (k : qa_lm o cd (n, L, v :: S, h) = R) : qa_lm o cd (pc, L, .int (nI j) :: .ref a :: S, h) = R := (qa_go hc (by unfold qa_p qp_sa; dsimp only; rw [ht]; dsimp only; rw [if_neg (show ¬ nI j < (0 : Int32) from Int32.not_lt.mpr (nI_le (a := 0) (Nat.zero_le _) hj)), nI_clamp hj, hv])).trans k
theorem go_sf {o : qa_O} {cd : qa_Cd} {pc n a : Nat} {R : Option (Option Value × qa_H)} {L S : List Value} {h : qa_H} {tb : Nat → Option Value} {v : Value} (hc : cd pc = some (qa_p (qp_sf tb n))) (ht : tb a = some v) (k : qa_lm o cd (n, L, v :: S, h) = R) : qa_lm o cd (pc, L, .ref a :: S, h) = R := (qa_go hc (by unfold qa_p qp_sf; dsimp only; rw [ht])).trans k
theorem sp_spelt (d : Nat) (ls : List Nat) (h : qa_H) : qe (d + 1) 25 [.long (lN (qn_32 ls))] h = some (some (qa_rv (tx_wd ls)), h) := by
  have hno := fa_first_no (fun i => decide (qw_let i = lN (qn_32 ls))) 23
  have hyes := fa_first_yes (fun i => decide (qw_let i = lN (qn_32 ls))) 23
  have hle := fa_first_le (fun i => decide (qw_let i = lN (qn_32 ls))) 23
  have hw : tx_wd ls = if fa_first (fun i => decide (qw_let i = lN (qn_32 ls))) 23 < 23 then some (fa_first (fun i => decide (qw_let i = lN (qn_32 ls))) 23) else none := rfl
  generalize fa_first (fun i => decide (qw_let i = lN (qn_32 ls))) 23 = z at hno hyes hle hw
  rw [hw]
  have hat : ∀ i : Nat, i < 23 → ((List.range 23).map Value.ref)[i]? = some (Value.ref i) := by decide +kernel
  have loop : ∀ m i, i + m = z → qa_lm (qe d) (qa_cd qc_25) (2, [.long (lN (qn_32 ls)), .retAddr 0, .int (nI i)], [], h) = some (some (qa_rv (if z < 23 then some z else none)), h) := by
    intro m
    induction m with
    | zero =>
      intro i hi
      have hi : i = z := by omega
      subst hi
      by_cases h23 : i < 23
      · have hy := hyes h23
        rw [decide_eq_true_eq] at hy
        rw [if_pos h23]
        refine go_ild_3_2 rfl ?_
        refine go_c rfl ?_
        refine go_sn (N := 23) rfl rfl rfl ?_
        refine go_icge rfl (fun e => ?_) (fun e => ?_)
        · exact absurd e (nI_ge h23 (by decide))
        · refine go_c rfl ?_
          refine go_ild_3_2 rfl ?_
          refine go_sa rfl rfl (hat i h23) (by omega) ?_
          refine go_sf rfl (if_pos h23) ?_
          refine go_lld_3_0 rfl ?_
          refine go_lcmp rfl ?_
          refine go_ifne rfl (fun e2 => ?_) (fun e2 => ?_)
          · refine go_c rfl ?_
            refine go_ild_3_2 rfl ?_
            refine go_sa rfl rfl (hat i h23) (by omega) ?_
            exact fin_ar rfl rfl
          · exact absurd (lg_cmp_0.mpr hy) e2
      · have h23' : i = 23 := by omega
        subst h23'
        refine go_ild_3_2 rfl ?_
        refine go_c rfl ?_
        refine go_sn (N := 23) rfl rfl rfl ?_
        refine go_icge rfl (fun e => ?_) (fun e => ?_)
        · refine go_c rfl ?_
          exact fin_an rfl rfl
        · exact absurd (Int32.le_refl _) e
    | succ m ih =>
      intro i hi
      have ih := ih (i + 1) (by omega)
      have h23 : i < 23 := by omega
      have hn := hno i (by omega)
      rw [decide_eq_false_iff_not] at hn
      refine go_ild_3_2 rfl ?_
      refine go_c rfl ?_
      refine go_sn (N := 23) rfl rfl rfl ?_
      refine go_icge rfl (fun e => ?_) (fun e => ?_)
      · exact absurd e (nI_ge h23 (by decide))
      · refine go_c rfl ?_
        refine go_ild_3_2 rfl ?_
        refine go_sa rfl rfl (hat i h23) (by omega) ?_
        refine go_sf rfl (if_pos h23) ?_
        refine go_lld_3_0 rfl ?_
        refine go_lcmp rfl ?_
        refine go_ifne rfl (fun e2 => ?_) (fun e2 => ?_)
        · exact absurd (lg_cmp_0.mp e2) hn
        · refine go_inc_3_2 rfl rfl ?_
          refine go_goto rfl ?_
          rw [nI_1]
          exact ih
  refine (en_25 d (lN (qn_32 ls)) h).trans ?_
  refine go_c rfl ?_
  refine go_ist_3_2 rfl rfl ?_
  exact loop z 0 (by omega)

/-! words and names, in both -/
def tx_W (i : Nat) : List Nat := (qw_sp.getD i []).map (fun c => c - 96)
def tx_pm (k : Nat) : Nat := [0, 1, 3, 4, 5, 8, 9, 10, 11, 6, 7, 12, 13, 14, 15, 2, 16, 17, 18, 19, 20, 21, 22].getD k 0
theorem qn_32_pos {ls : List Nat} {x : Nat} (hx : 1 ≤ x) : 1 ≤ qn_32 (ls ++ [x]) := by rw [qn_32_s]; omega
/-- letters from 1 on, so that a number spells one word alone -/
theorem qn_inj {B : Nat} (hB : 27 ≤ B) : ∀ (n : Nat) (xs ys : List Nat), xs.length = n → (∀ l, l ∈ xs → 1 ≤ l ∧ l ≤ 26) → (∀ l, l ∈ ys → 1 ≤ l ∧ l ≤ 26) → List.foldl (fun a l => B * a + l) 0 xs = List.foldl (fun a l => B * a + l) 0 ys → xs = ys := by
  intro n
  induction n with
  | zero =>
    intro xs ys hl hx hy e
    have hx0 : xs = [] := List.length_eq_zero_iff.mp hl
    subst hx0
    rcases List.eq_nil_or_concat ys with h | ⟨zs, z, h⟩
    · exact h.symm
    · subst h
      rw [List.concat_eq_append, List.foldl_append] at e
      have hz := hy z (by rw [List.concat_eq_append]; exact List.mem_append_right _ (List.mem_singleton.mpr rfl))
      have e : (0 : Nat) = B * List.foldl (fun a l => B * a + l) 0 zs + z := e
      omega
  | succ n ih =>
    intro xs ys hl hx hy e
    rcases List.eq_nil_or_concat xs with h | ⟨ws, w, h⟩
    · subst h; cases hl
    · subst h
      rw [List.concat_eq_append] at hl hx e ⊢
      have hw := hx w (List.mem_append_right _ (List.mem_singleton.mpr rfl))
      rcases List.eq_nil_or_concat ys with h | ⟨zs, z, h⟩
      · subst h
        rw [List.foldl_append] at e
        have e : B * List.foldl (fun a l => B * a + l) 0 ws + w = 0 := e
        omega
      · subst h
        rw [List.concat_eq_append] at hy e ⊢
        have hz := hy z (List.mem_append_right _ (List.mem_singleton.mpr rfl))
        rw [List.foldl_append, List.foldl_append] at e
        have e : B * List.foldl (fun a l => B * a + l) 0 ws + w = B * List.foldl (fun a l => B * a + l) 0 zs + z := e
        have e1 : (B * List.foldl (fun a l => B * a + l) 0 ws + w) % B = w := by rw [Nat.mul_add_mod, Nat.mod_eq_of_lt (by omega)]
        have e2 : (B * List.foldl (fun a l => B * a + l) 0 zs + z) % B = z := by rw [Nat.mul_add_mod, Nat.mod_eq_of_lt (by omega)]
        have hwz : w = z := by rw [← e1, e, e2]
        subst hwz
        have hm : List.foldl (fun a l => B * a + l) 0 ws = List.foldl (fun a l => B * a + l) 0 zs := Nat.eq_of_mul_eq_mul_left (show 0 < B by omega) (by omega)
        rw [ih ws zs (by rw [List.length_append] at hl; simpa using hl) (fun l hl2 => hx l (List.mem_append_left _ hl2)) (fun l hl2 => hy l (List.mem_append_left _ hl2)) hm]
theorem qn_lt {B : Nat} (hB : 27 ≤ B) : ∀ (n : Nat) (xs : List Nat), xs.length = n → (∀ l, l ∈ xs → 1 ≤ l ∧ l ≤ 26) → List.foldl (fun a l => B * a + l) 0 xs < B ^ n := by
  intro n
  induction n with
  | zero =>
    intro xs hl hx
    have hx0 : xs = [] := List.length_eq_zero_iff.mp hl
    subst hx0
    exact Nat.lt_succ_self 0
  | succ n ih =>
    intro xs hl hx
    rcases List.eq_nil_or_concat xs with h | ⟨ws, w, h⟩
    · subst h; cases hl
    · subst h
      rw [List.concat_eq_append] at hl hx ⊢
      have hw := hx w (List.mem_append_right _ (List.mem_singleton.mpr rfl))
      have h1 := ih ws (by rw [List.length_append] at hl; simpa using hl) (fun l hl2 => hx l (List.mem_append_left _ hl2))
      rw [List.foldl_append]
      show B * List.foldl (fun a l => B * a + l) 0 ws + w < B ^ (n + 1)
      rw [Nat.pow_succ, Nat.mul_comm (B ^ n) B]
      have : B * (List.foldl (fun a l => B * a + l) 0 ws + 1) ≤ B * B ^ n := Nat.mul_le_mul_left B h1
      rw [Nat.mul_add, Nat.mul_one] at this
      omega
theorem qn_32_lt {ls : List Nat} (h : qn_ok ls) : qn_32 ls < 2 ^ 35 := by
  have h1 := qn_lt (B := 32) (by decide) ls.length ls rfl h.2
  have h2 : 32 ^ ls.length ≤ 32 ^ 7 := Nat.pow_le_pow_right (by decide) h.1.2
  exact Nat.lt_of_lt_of_le h1 (Nat.le_trans h2 (by decide))
theorem qn_27_lt {ls : List Nat} (h : qn_ok ls) : qn_27 ls < 2 ^ 35 := by
  have h1 := qn_lt (B := 27) (by decide) ls.length ls rfl h.2
  have h2 : 27 ^ ls.length ≤ 27 ^ 7 := Nat.pow_le_pow_right (by decide) h.1.2
  exact Nat.lt_of_lt_of_le h1 (Nat.le_trans h2 (by decide))
theorem qn_32_inj {xs ys : List Nat} (hx : qn_ok xs) (hy : qn_ok ys) : lN (qn_32 xs) = lN (qn_32 ys) ↔ xs = ys := by
  have h1 := qn_32_lt hx
  have h2 := qn_32_lt hy
  rw [fb_lN_inj (by omega) (by omega)]
  exact ⟨fun e => qn_inj (B := 32) (by decide) xs.length xs ys rfl hx.2 hy.2 e, fun e => by rw [e]⟩
theorem qn_27_inj {xs ys : List Nat} (hx : qn_ok xs) (hy : qn_ok ys) : lN (qn_27 xs) = lN (qn_27 ys) ↔ xs = ys := by
  have h1 := qn_27_lt hx
  have h2 := qn_27_lt hy
  rw [fb_lN_inj (by omega) (by omega)]
  exact ⟨fun e => qn_inj (B := 27) (by decide) xs.length xs ys rfl hx.2 hy.2 e, fun e => by rw [e]⟩
theorem qn_same {x y : Int64} {ls : List Nat} (h : qn x y) (hl : qn_ok ls) : x = lN (qn_32 ls) ↔ y = lN (qn_27 ls) := by
  obtain ⟨ws, h1, h2, h3⟩ := h
  rw [h2, h3, qn_32_inj h1 hl, qn_27_inj h1 hl]
theorem tx_W_ok : ∀ i, i < 23 → qn_ok (tx_W i) := by unfold qn_ok; decide +kernel
theorem tx_W_32 : ∀ i, i < 23 → qw_let i = lN (qn_32 (tx_W i)) := by decide +kernel
theorem tx_pm_lt : ∀ k, k < 23 → tx_pm k < 23 := by decide +kernel
theorem tx_pm_on : ∀ i, i < 23 → ∃ k, k < 23 ∧ tx_pm k = i := by decide +kernel
theorem tx_wd_iff {ls : List Nat} (h : qn_ok ls) {i : Nat} (hi : i < 23) : tx_wd ls = some i ↔ ls = tx_W i := by
  have hno := fa_first_no (fun i => decide (qw_let i = lN (qn_32 ls))) 23
  have hyes := fa_first_yes (fun i => decide (qw_let i = lN (qn_32 ls))) 23
  have hle := fa_first_le (fun i => decide (qw_let i = lN (qn_32 ls))) 23
  unfold tx_wd
  generalize fa_first (fun i => decide (qw_let i = lN (qn_32 ls))) 23 = z at hno hyes hle
  constructor
  · intro e
    split at e
    · rename_i h23
      have e := Option.some.inj e
      subst e
      have := hyes h23
      rw [decide_eq_true_eq, tx_W_32 _ h23, qn_32_inj (tx_W_ok _ h23) h] at this
      exact this.symm
    · cases e
  · intro e
    have hi2 : qw_let i = lN (qn_32 ls) := by rw [tx_W_32 i hi, e]
    have hz : z ≤ i := Nat.not_lt.mp (fun q => by
      have := hno i q
      rw [decide_eq_false_iff_not] at this
      exact this hi2)
    have h23 : z < 23 := by omega
    rw [if_pos h23]
    have h2 := hyes h23
    rw [decide_eq_true_eq, ← hi2] at h2
    rw [qb_let z h23 i hi h2]
theorem tx_wd_lt {ls : List Nat} {i : Nat} (h : tx_wd ls = some i) : i < 23 := by
  unfold tx_wd at h
  generalize fa_first (fun i => decide (qw_let i = lN (qn_32 ls))) 23 = z at h
  split at h
  · rename_i q
    have h := Option.some.inj h
    omega
  · cases h
def sw1 (c : Int32) (v : Int64) : Int64 := if c ≤ 0 then v else 27 * v + c.toInt64 - 96
theorem sp_speltM (d : Nat) (a b c e f g h : Int32) (H : qa_H) : qe (d + 1) 177 [.int a, .int b, .int c, .int e, .int f, .int g, .int h] H = some (some (.long (sw1 h (sw1 g (sw1 f (sw1 e (sw1 c (27 * (a.toInt64 - 96) + b.toInt64 - 96))))))), H) := by
  have s5 : ∀ v, qa_lm (qe d) (qa_cd qc_177) (99, [.int a, .int b, .int c, .int e, .int f, .int g, .int h, .long v, .retAddr 0], [], H) = some (some (.long (sw1 h v)), H) := fun v => by
    unfold sw1
    refine go_ild_9_6 rfl ?_
    refine go_ifle rfl (fun z => ?_) (fun z => ?_)
    · rw [if_pos z]
      refine go_lld_9_7 rfl ?_
      exact fin_l rfl rfl
    · rw [if_neg z]
      refine go_c rfl ?_
      refine go_lld_9_7 rfl ?_
      refine go_lmul rfl ?_
      refine go_ild_9_6 rfl ?_
      refine go_i2l rfl ?_
      refine go_ladd rfl ?_
      refine go_c rfl ?_
      refine go_lsub rfl ?_
      refine go_lst_9_7 rfl rfl ?_
      refine go_lld_9_7 rfl ?_
      exact fin_l rfl rfl
  have s4 : ∀ v, qa_lm (qe d) (qa_cd qc_177) (78, [.int a, .int b, .int c, .int e, .int f, .int g, .int h, .long v, .retAddr 0], [], H) = some (some (.long (sw1 h (sw1 g v))), H) := fun v => by
    refine go_ild_9_5 rfl ?_
    refine go_ifle rfl (fun z => ?_) (fun z => ?_)
    · rw [show sw1 g v = v from if_pos z]
      exact s5 v
    · rw [show sw1 g v = 27 * v + g.toInt64 - 96 from if_neg z]
      refine go_c rfl ?_
      refine go_lld_9_7 rfl ?_
      refine go_lmul rfl ?_
      refine go_ild_9_5 rfl ?_
      refine go_i2l rfl ?_
      refine go_ladd rfl ?_
      refine go_c rfl ?_
      refine go_lsub rfl ?_
      refine go_lst_9_7 rfl rfl ?_
      exact s5 _
  have s3 : ∀ v, qa_lm (qe d) (qa_cd qc_177) (57, [.int a, .int b, .int c, .int e, .int f, .int g, .int h, .long v, .retAddr 0], [], H) = some (some (.long (sw1 h (sw1 g (sw1 f v)))), H) := fun v => by
    refine go_ild_9_4 rfl ?_
    refine go_ifle rfl (fun z => ?_) (fun z => ?_)
    · rw [show sw1 f v = v from if_pos z]
      exact s4 v
    · rw [show sw1 f v = 27 * v + f.toInt64 - 96 from if_neg z]
      refine go_c rfl ?_
      refine go_lld_9_7 rfl ?_
      refine go_lmul rfl ?_
      refine go_ild_9_4 rfl ?_
      refine go_i2l rfl ?_
      refine go_ladd rfl ?_
      refine go_c rfl ?_
      refine go_lsub rfl ?_
      refine go_lst_9_7 rfl rfl ?_
      exact s4 _
  have s2 : ∀ v, qa_lm (qe d) (qa_cd qc_177) (38, [.int a, .int b, .int c, .int e, .int f, .int g, .int h, .long v, .retAddr 0], [], H) = some (some (.long (sw1 h (sw1 g (sw1 f (sw1 e v))))), H) := fun v => by
    refine go_ild_9_3 rfl ?_
    refine go_ifle rfl (fun z => ?_) (fun z => ?_)
    · rw [show sw1 e v = v from if_pos z]
      exact s3 v
    · rw [show sw1 e v = 27 * v + e.toInt64 - 96 from if_neg z]
      refine go_c rfl ?_
      refine go_lld_9_7 rfl ?_
      refine go_lmul rfl ?_
      refine go_ild_9_3 rfl ?_
      refine go_i2l rfl ?_
      refine go_ladd rfl ?_
      refine go_c rfl ?_
      refine go_lsub rfl ?_
      refine go_lst_9_7 rfl rfl ?_
      exact s3 _
  have s1 : ∀ v, qa_lm (qe d) (qa_cd qc_177) (19, [.int a, .int b, .int c, .int e, .int f, .int g, .int h, .long v, .retAddr 0], [], H) = some (some (.long (sw1 h (sw1 g (sw1 f (sw1 e (sw1 c v)))))), H) := fun v => by
    refine go_ild_9_2 rfl ?_
    refine go_ifle rfl (fun z => ?_) (fun z => ?_)
    · rw [show sw1 c v = v from if_pos z]
      exact s2 v
    · rw [show sw1 c v = 27 * v + c.toInt64 - 96 from if_neg z]
      refine go_c rfl ?_
      refine go_lld_9_7 rfl ?_
      refine go_lmul rfl ?_
      refine go_ild_9_2 rfl ?_
      refine go_i2l rfl ?_
      refine go_ladd rfl ?_
      refine go_c rfl ?_
      refine go_lsub rfl ?_
      refine go_lst_9_7 rfl rfl ?_
      exact s2 _
  refine (en_177 d a b c e f g h H).trans ?_
  refine go_c rfl ?_
  refine go_ild_9_0 rfl ?_
  refine go_i2l rfl ?_
  refine go_c rfl ?_
  refine go_lsub rfl ?_
  refine go_lmul rfl ?_
  refine go_ild_9_1 rfl ?_
  refine go_i2l rfl ?_
  refine go_ladd rfl ?_
  refine go_c rfl ?_
  refine go_lsub rfl ?_
  refine go_lst_9_7 rfl rfl ?_
  exact s1 _
theorem sp_word_0 (d : Nat) (H : qa_H) : qe (d + 2) 176 [.int (nI 0)] H = some (some (.long (lN (qn_27 (tx_W 0)))), H) := by
  refine (en_176 (d + 1) (nI 0) H).trans ?_
  refine go_ild_1_0 rfl ?_
  refine go_sw2 (n := 104) rfl (by decide +kernel) ?_
  refine go_c rfl ?_
  refine go_c rfl ?_
  refine go_c rfl ?_
  refine go_c rfl ?_
  refine go_c rfl ?_
  refine go_c rfl ?_
  refine go_c rfl ?_
  refine go_call7 rfl (sp_speltM d _ _ _ _ _ _ _ _) (Nat.le_of_ble_eq_true rfl) rfl ?_
  exact fin_l rfl (qR_l (by decide +kernel))
theorem sp_word_1 (d : Nat) (H : qa_H) : qe (d + 2) 176 [.int (nI 1)] H = some (some (.long (lN (qn_27 (tx_W 1)))), H) := by
  refine (en_176 (d + 1) (nI 1) H).trans ?_
  refine go_ild_1_0 rfl ?_
  refine go_sw2 (n := 120) rfl (by decide +kernel) ?_
  refine go_c rfl ?_
  refine go_c rfl ?_
  refine go_c rfl ?_
  refine go_c rfl ?_
  refine go_c rfl ?_
  refine go_c rfl ?_
  refine go_c rfl ?_
  refine go_call7 rfl (sp_speltM d _ _ _ _ _ _ _ _) (Nat.le_of_ble_eq_true rfl) rfl ?_
  exact fin_l rfl (qR_l (by decide +kernel))
theorem sp_word_2 (d : Nat) (H : qa_H) : qe (d + 2) 176 [.int (nI 2)] H = some (some (.long (lN (qn_27 (tx_W 3)))), H) := by
  refine (en_176 (d + 1) (nI 2) H).trans ?_
  refine go_ild_1_0 rfl ?_
  refine go_sw2 (n := 137) rfl (by decide +kernel) ?_
  refine go_c rfl ?_
  refine go_c rfl ?_
  refine go_c rfl ?_
  refine go_c rfl ?_
  refine go_c rfl ?_
  refine go_c rfl ?_
  refine go_c rfl ?_
  refine go_call7 rfl (sp_speltM d _ _ _ _ _ _ _ _) (Nat.le_of_ble_eq_true rfl) rfl ?_
  exact fin_l rfl (qR_l (by decide +kernel))
theorem sp_word_3 (d : Nat) (H : qa_H) : qe (d + 2) 176 [.int (nI 3)] H = some (some (.long (lN (qn_27 (tx_W 4)))), H) := by
  refine (en_176 (d + 1) (nI 3) H).trans ?_
  refine go_ild_1_0 rfl ?_
  refine go_sw2 (n := 154) rfl (by decide +kernel) ?_
  refine go_c rfl ?_
  refine go_c rfl ?_
  refine go_c rfl ?_
  refine go_c rfl ?_
  refine go_c rfl ?_
  refine go_c rfl ?_
  refine go_c rfl ?_
  refine go_call7 rfl (sp_speltM d _ _ _ _ _ _ _ _) (Nat.le_of_ble_eq_true rfl) rfl ?_
  exact fin_l rfl (qR_l (by decide +kernel))
theorem sp_word_4 (d : Nat) (H : qa_H) : qe (d + 2) 176 [.int (nI 4)] H = some (some (.long (lN (qn_27 (tx_W 5)))), H) := by
  refine (en_176 (d + 1) (nI 4) H).trans ?_
  refine go_ild_1_0 rfl ?_
  refine go_sw2 (n := 168) rfl (by decide +kernel) ?_
  refine go_c rfl ?_
  refine go_c rfl ?_
  refine go_c rfl ?_
  refine go_c rfl ?_
  refine go_c rfl ?_
  refine go_c rfl ?_
  refine go_c rfl ?_
  refine go_call7 rfl (sp_speltM d _ _ _ _ _ _ _ _) (Nat.le_of_ble_eq_true rfl) rfl ?_
  exact fin_l rfl (qR_l (by decide +kernel))
theorem sp_word_5 (d : Nat) (H : qa_H) : qe (d + 2) 176 [.int (nI 5)] H = some (some (.long (lN (qn_27 (tx_W 8)))), H) := by
  refine (en_176 (d + 1) (nI 5) H).trans ?_
  refine go_ild_1_0 rfl ?_
  refine go_sw2 (n := 183) rfl (by decide +kernel) ?_
  refine go_c rfl ?_
  refine go_c rfl ?_
  refine go_c rfl ?_
  refine go_c rfl ?_
  refine go_c rfl ?_
  refine go_c rfl ?_
  refine go_c rfl ?_
  refine go_call7 rfl (sp_speltM d _ _ _ _ _ _ _ _) (Nat.le_of_ble_eq_true rfl) rfl ?_
  exact fin_l rfl (qR_l (by decide +kernel))
theorem sp_word_6 (d : Nat) (H : qa_H) : qe (d + 2) 176 [.int (nI 6)] H = some (some (.long (lN (qn_27 (tx_W 9)))), H) := by
  refine (en_176 (d + 1) (nI 6) H).trans ?_
  refine go_ild_1_0 rfl ?_
  refine go_sw2 (n := 197) rfl (by decide +kernel) ?_
  refine go_c rfl ?_
  refine go_c rfl ?_
  refine go_c rfl ?_
  refine go_c rfl ?_
  refine go_c rfl ?_
  refine go_c rfl ?_
  refine go_c rfl ?_
  refine go_call7 rfl (sp_speltM d _ _ _ _ _ _ _ _) (Nat.le_of_ble_eq_true rfl) rfl ?_
  exact fin_l rfl (qR_l (by decide +kernel))
theorem sp_word_7 (d : Nat) (H : qa_H) : qe (d + 2) 176 [.int (nI 7)] H = some (some (.long (lN (qn_27 (tx_W 10)))), H) := by
  refine (en_176 (d + 1) (nI 7) H).trans ?_
  refine go_ild_1_0 rfl ?_
  refine go_sw2 (n := 212) rfl (by decide +kernel) ?_
  refine go_c rfl ?_
  refine go_c rfl ?_
  refine go_c rfl ?_
  refine go_c rfl ?_
  refine go_c rfl ?_
  refine go_c rfl ?_
  refine go_c rfl ?_
  refine go_call7 rfl (sp_speltM d _ _ _ _ _ _ _ _) (Nat.le_of_ble_eq_true rfl) rfl ?_
  exact fin_l rfl (qR_l (by decide +kernel))
theorem sp_word_8 (d : Nat) (H : qa_H) : qe (d + 2) 176 [.int (nI 8)] H = some (some (.long (lN (qn_27 (tx_W 11)))), H) := by
  refine (en_176 (d + 1) (nI 8) H).trans ?_
  refine go_ild_1_0 rfl ?_
  refine go_sw2 (n := 226) rfl (by decide +kernel) ?_
  refine go_c rfl ?_
  refine go_c rfl ?_
  refine go_c rfl ?_
  refine go_c rfl ?_
  refine go_c rfl ?_
  refine go_c rfl ?_
  refine go_c rfl ?_
  refine go_call7 rfl (sp_speltM d _ _ _ _ _ _ _ _) (Nat.le_of_ble_eq_true rfl) rfl ?_
  exact fin_l rfl (qR_l (by decide +kernel))
theorem sp_word_9 (d : Nat) (H : qa_H) : qe (d + 2) 176 [.int (nI 9)] H = some (some (.long (lN (qn_27 (tx_W 6)))), H) := by
  refine (en_176 (d + 1) (nI 9) H).trans ?_
  refine go_ild_1_0 rfl ?_
  refine go_sw2 (n := 241) rfl (by decide +kernel) ?_
  refine go_c rfl ?_
  refine go_c rfl ?_
  refine go_c rfl ?_
  refine go_c rfl ?_
  refine go_c rfl ?_
  refine go_c rfl ?_
  refine go_c rfl ?_
  refine go_call7 rfl (sp_speltM d _ _ _ _ _ _ _ _) (Nat.le_of_ble_eq_true rfl) rfl ?_
  exact fin_l rfl (qR_l (by decide +kernel))
theorem sp_word_10 (d : Nat) (H : qa_H) : qe (d + 2) 176 [.int (nI 10)] H = some (some (.long (lN (qn_27 (tx_W 7)))), H) := by
  refine (en_176 (d + 1) (nI 10) H).trans ?_
  refine go_ild_1_0 rfl ?_
  refine go_sw2 (n := 258) rfl (by decide +kernel) ?_
  refine go_c rfl ?_
  refine go_c rfl ?_
  refine go_c rfl ?_
  refine go_c rfl ?_
  refine go_c rfl ?_
  refine go_c rfl ?_
  refine go_c rfl ?_
  refine go_call7 rfl (sp_speltM d _ _ _ _ _ _ _ _) (Nat.le_of_ble_eq_true rfl) rfl ?_
  exact fin_l rfl (qR_l (by decide +kernel))
theorem sp_word_11 (d : Nat) (H : qa_H) : qe (d + 2) 176 [.int (nI 11)] H = some (some (.long (lN (qn_27 (tx_W 12)))), H) := by
  refine (en_176 (d + 1) (nI 11) H).trans ?_
  refine go_ild_1_0 rfl ?_
  refine go_sw2 (n := 274) rfl (by decide +kernel) ?_
  refine go_c rfl ?_
  refine go_c rfl ?_
  refine go_c rfl ?_
  refine go_c rfl ?_
  refine go_c rfl ?_
  refine go_c rfl ?_
  refine go_c rfl ?_
  refine go_call7 rfl (sp_speltM d _ _ _ _ _ _ _ _) (Nat.le_of_ble_eq_true rfl) rfl ?_
  exact fin_l rfl (qR_l (by decide +kernel))
theorem sp_word_12 (d : Nat) (H : qa_H) : qe (d + 2) 176 [.int (nI 12)] H = some (some (.long (lN (qn_27 (tx_W 13)))), H) := by
  refine (en_176 (d + 1) (nI 12) H).trans ?_
  refine go_ild_1_0 rfl ?_
  refine go_sw2 (n := 289) rfl (by decide +kernel) ?_
  refine go_c rfl ?_
  refine go_c rfl ?_
  refine go_c rfl ?_
  refine go_c rfl ?_
  refine go_c rfl ?_
  refine go_c rfl ?_
  refine go_c rfl ?_
  refine go_call7 rfl (sp_speltM d _ _ _ _ _ _ _ _) (Nat.le_of_ble_eq_true rfl) rfl ?_
  exact fin_l rfl (qR_l (by decide +kernel))
theorem sp_word_13 (d : Nat) (H : qa_H) : qe (d + 2) 176 [.int (nI 13)] H = some (some (.long (lN (qn_27 (tx_W 14)))), H) := by
  refine (en_176 (d + 1) (nI 13) H).trans ?_
  refine go_ild_1_0 rfl ?_
  refine go_sw2 (n := 302) rfl (by decide +kernel) ?_
  refine go_c rfl ?_
  refine go_c rfl ?_
  refine go_c rfl ?_
  refine go_c rfl ?_
  refine go_c rfl ?_
  refine go_c rfl ?_
  refine go_c rfl ?_
  refine go_call7 rfl (sp_speltM d _ _ _ _ _ _ _ _) (Nat.le_of_ble_eq_true rfl) rfl ?_
  exact fin_l rfl (qR_l (by decide +kernel))
theorem sp_word_14 (d : Nat) (H : qa_H) : qe (d + 2) 176 [.int (nI 14)] H = some (some (.long (lN (qn_27 (tx_W 15)))), H) := by
  refine (en_176 (d + 1) (nI 14) H).trans ?_
  refine go_ild_1_0 rfl ?_
  refine go_sw2 (n := 316) rfl (by decide +kernel) ?_
  refine go_c rfl ?_
  refine go_c rfl ?_
  refine go_c rfl ?_
  refine go_c rfl ?_
  refine go_c rfl ?_
  refine go_c rfl ?_
  refine go_c rfl ?_
  refine go_call7 rfl (sp_speltM d _ _ _ _ _ _ _ _) (Nat.le_of_ble_eq_true rfl) rfl ?_
  exact fin_l rfl (qR_l (by decide +kernel))
theorem sp_word_15 (d : Nat) (H : qa_H) : qe (d + 2) 176 [.int (nI 15)] H = some (some (.long (lN (qn_27 (tx_W 2)))), H) := by
  refine (en_176 (d + 1) (nI 15) H).trans ?_
  refine go_ild_1_0 rfl ?_
  refine go_sw2 (n := 330) rfl (by decide +kernel) ?_
  refine go_c rfl ?_
  refine go_c rfl ?_
  refine go_c rfl ?_
  refine go_c rfl ?_
  refine go_c rfl ?_
  refine go_c rfl ?_
  refine go_c rfl ?_
  refine go_call7 rfl (sp_speltM d _ _ _ _ _ _ _ _) (Nat.le_of_ble_eq_true rfl) rfl ?_
  exact fin_l rfl (qR_l (by decide +kernel))
theorem sp_word_16 (d : Nat) (H : qa_H) : qe (d + 2) 176 [.int (nI 16)] H = some (some (.long (lN (qn_27 (tx_W 16)))), H) := by
  refine (en_176 (d + 1) (nI 16) H).trans ?_
  refine go_ild_1_0 rfl ?_
  refine go_sw2 (n := 348) rfl (by decide +kernel) ?_
  refine go_c rfl ?_
  refine go_c rfl ?_
  refine go_c rfl ?_
  refine go_c rfl ?_
  refine go_c rfl ?_
  refine go_c rfl ?_
  refine go_c rfl ?_
  refine go_call7 rfl (sp_speltM d _ _ _ _ _ _ _ _) (Nat.le_of_ble_eq_true rfl) rfl ?_
  exact fin_l rfl (qR_l (by decide +kernel))
theorem sp_word_17 (d : Nat) (H : qa_H) : qe (d + 2) 176 [.int (nI 17)] H = some (some (.long (lN (qn_27 (tx_W 17)))), H) := by
  refine (en_176 (d + 1) (nI 17) H).trans ?_
  refine go_ild_1_0 rfl ?_
  refine go_sw2 (n := 365) rfl (by decide +kernel) ?_
  refine go_c rfl ?_
  refine go_c rfl ?_
  refine go_c rfl ?_
  refine go_c rfl ?_
  refine go_c rfl ?_
  refine go_c rfl ?_
  refine go_c rfl ?_
  refine go_call7 rfl (sp_speltM d _ _ _ _ _ _ _ _) (Nat.le_of_ble_eq_true rfl) rfl ?_
  exact fin_l rfl (qR_l (by decide +kernel))
theorem sp_word_18 (d : Nat) (H : qa_H) : qe (d + 2) 176 [.int (nI 18)] H = some (some (.long (lN (qn_27 (tx_W 18)))), H) := by
  refine (en_176 (d + 1) (nI 18) H).trans ?_
  refine go_ild_1_0 rfl ?_
  refine go_sw2 (n := 380) rfl (by decide +kernel) ?_
  refine go_c rfl ?_
  refine go_c rfl ?_
  refine go_c rfl ?_
  refine go_c rfl ?_
  refine go_c rfl ?_
  refine go_c rfl ?_
  refine go_c rfl ?_
  refine go_call7 rfl (sp_speltM d _ _ _ _ _ _ _ _) (Nat.le_of_ble_eq_true rfl) rfl ?_
  exact fin_l rfl (qR_l (by decide +kernel))
theorem sp_word_19 (d : Nat) (H : qa_H) : qe (d + 2) 176 [.int (nI 19)] H = some (some (.long (lN (qn_27 (tx_W 19)))), H) := by
  refine (en_176 (d + 1) (nI 19) H).trans ?_
  refine go_ild_1_0 rfl ?_
  refine go_sw2 (n := 393) rfl (by decide +kernel) ?_
  refine go_c rfl ?_
  refine go_c rfl ?_
  refine go_c rfl ?_
  refine go_c rfl ?_
  refine go_c rfl ?_
  refine go_c rfl ?_
  refine go_c rfl ?_
  refine go_call7 rfl (sp_speltM d _ _ _ _ _ _ _ _) (Nat.le_of_ble_eq_true rfl) rfl ?_
  exact fin_l rfl (qR_l (by decide +kernel))
theorem sp_word_20 (d : Nat) (H : qa_H) : qe (d + 2) 176 [.int (nI 20)] H = some (some (.long (lN (qn_27 (tx_W 20)))), H) := by
  refine (en_176 (d + 1) (nI 20) H).trans ?_
  refine go_ild_1_0 rfl ?_
  refine go_sw2 (n := 406) rfl (by decide +kernel) ?_
  refine go_c rfl ?_
  refine go_c rfl ?_
  refine go_c rfl ?_
  refine go_c rfl ?_
  refine go_c rfl ?_
  refine go_c rfl ?_
  refine go_c rfl ?_
  refine go_call7 rfl (sp_speltM d _ _ _ _ _ _ _ _) (Nat.le_of_ble_eq_true rfl) rfl ?_
  exact fin_l rfl (qR_l (by decide +kernel))
theorem sp_word_21 (d : Nat) (H : qa_H) : qe (d + 2) 176 [.int (nI 21)] H = some (some (.long (lN (qn_27 (tx_W 21)))), H) := by
  refine (en_176 (d + 1) (nI 21) H).trans ?_
  refine go_ild_1_0 rfl ?_
  refine go_sw2 (n := 422) rfl (by decide +kernel) ?_
  refine go_c rfl ?_
  refine go_c rfl ?_
  refine go_c rfl ?_
  refine go_c rfl ?_
  refine go_c rfl ?_
  refine go_c rfl ?_
  refine go_c rfl ?_
  refine go_call7 rfl (sp_speltM d _ _ _ _ _ _ _ _) (Nat.le_of_ble_eq_true rfl) rfl ?_
  exact fin_l rfl (qR_l (by decide +kernel))
theorem sp_word_22 (d : Nat) (H : qa_H) : qe (d + 2) 176 [.int (nI 22)] H = some (some (.long (lN (qn_27 (tx_W 22)))), H) := by
  refine (en_176 (d + 1) (nI 22) H).trans ?_
  refine go_ild_1_0 rfl ?_
  refine go_sw2 (n := 438) rfl (by decide +kernel) ?_
  refine go_c rfl ?_
  refine go_c rfl ?_
  refine go_c rfl ?_
  refine go_c rfl ?_
  refine go_c rfl ?_
  refine go_c rfl ?_
  refine go_c rfl ?_
  refine go_call7 rfl (sp_speltM d _ _ _ _ _ _ _ _) (Nat.le_of_ble_eq_true rfl) rfl ?_
  exact fin_l rfl (qR_l (by decide +kernel))
theorem sp_wordOf (d : Nat) (H : qa_H) (k : Nat) (hk : k < 23) : qe (d + 2) 176 [.int (nI k)] H = some (some (.long (lN (qn_27 (tx_W (tx_pm k))))), H) := by
  match k, hk with
  | 0, _ => exact sp_word_0 d H
  | 1, _ => exact sp_word_1 d H
  | 2, _ => exact sp_word_2 d H
  | 3, _ => exact sp_word_3 d H
  | 4, _ => exact sp_word_4 d H
  | 5, _ => exact sp_word_5 d H
  | 6, _ => exact sp_word_6 d H
  | 7, _ => exact sp_word_7 d H
  | 8, _ => exact sp_word_8 d H
  | 9, _ => exact sp_word_9 d H
  | 10, _ => exact sp_word_10 d H
  | 11, _ => exact sp_word_11 d H
  | 12, _ => exact sp_word_12 d H
  | 13, _ => exact sp_word_13 d H
  | 14, _ => exact sp_word_14 d H
  | 15, _ => exact sp_word_15 d H
  | 16, _ => exact sp_word_16 d H
  | 17, _ => exact sp_word_17 d H
  | 18, _ => exact sp_word_18 d H
  | 19, _ => exact sp_word_19 d H
  | 20, _ => exact sp_word_20 d H
  | 21, _ => exact sp_word_21 d H
  | 22, _ => exact sp_word_22 d H
  | k + 23, h => exact absurd h (Nat.not_lt.mpr (Nat.le_add_left 23 k))
/-- is the token this word -/
def tk_w (n l : Nat) (b : Nat → Nat) (p i : Nat) : Prop := tx_k n l b p = 2 ∧ tx_wd (tx_l n b p) = some i
theorem tx_l_ok {n l : Nat} {b : Nat → Nat} {p : Nat} (hp : p ≤ n) (h : tx_k n l b p = 2) : qn_ok (tx_l n b p) := by
  obtain ⟨⟨q1, q2⟩, q3, q4⟩ := tx_q_ok (n := n) (b := b) hp
  unfold tx_k at h
  by_cases hl : l < n ∧ l ≤ tx_q n b p
  · rw [if_pos hl] at h; cases h
  · rw [if_neg hl] at h
    by_cases he : n ≤ tx_q n b p
    · rw [if_pos he] at h; cases h
    · rw [if_neg he] at h
      by_cases hr : (tx_a (b (tx_q n b p)) || tx_d (b (tx_q n b p))) = true
      · rw [if_pos hr] at h
        by_cases hA : tx_A b (tx_q n b p) (tx_r n b (tx_q n b p) - tx_q n b p) = true ∧ tx_r n b (tx_q n b p) - tx_q n b p ≤ 7
        · obtain ⟨⟨r1, r2⟩, r3, r4⟩ := tx_r_ok (n := n) (b := b) (q := tx_q n b p) q2
          unfold tx_l tx_ls
          generalize tx_q n b p = q at hr hA he r1 r2 r3 r4
          have hne : q < tx_r n b q := Classical.byContradiction fun z => by
            have hz : tx_r n b q = q := by omega
            rw [hz] at r4
            exact r4 (by omega) hr
          refine ⟨by rw [List.length_map, List.length_range]; omega, fun x hx => ?_⟩
          obtain ⟨i, hi, rfl⟩ := List.mem_map.mp hx
          have := tx_A_iff.mp hA.1 i (List.mem_range.mp hi)
          unfold tx_a at this
          rw [Bool.and_eq_true, decide_eq_true_eq, decide_eq_true_eq] at this
          omega
        · rw [if_neg hA] at h
          split at h <;> cases h
      · rw [if_neg hr] at h
        split at h
        · rename_i hs
          rw [h] at hs
          exact absurd hs (by decide)
        · cases h
theorem tx_k_kd {n l : Nat} {b : Nat → Nat} {p : Nat} : tx_k n l b p = 0 ∨ tx_k n l b p = 1 ∨ tx_k n l b p = 2 ∨ tx_k n l b p = 3 ∨ tx_k n l b p = 59 ∨ tx_k n l b p = 60 ∨ tx_k n l b p = 61 ∨ tx_k n l b p = 62 ∨ tx_k n l b p = 40 ∨ tx_k n l b p = 41 := by
  unfold tx_k
  split
  · omega
  · split
    · omega
    · split
      · split
        · omega
        · split <;> omega
      · split
        · rename_i hs
          unfold tx_s at hs
          simp only [Bool.or_eq_true, decide_eq_true_eq] at hs
          omega
        · omega
theorem sp_isAt (d : Nat) (s : qb_M) (c : Nat × Nat) {kc : Nat} {w : Option Nat} (hk : kc < 2 ^ 31) (h7 : s.1 65 7 = nI kc) (h10 : kc = 2 → s.2.2 65 10 = w) (hw : ∀ j, w = some j → j < 23) (i : Nat) (hi : i < 23) : qe (d + 1) 28 [.ref 65, .ref i] (qb_hp (s), 149, c) = some (some (.int (qB (kc = 2 ∧ w = some i))), (qb_hp (s), 149, c)) := by
  refine (en_28 d 65 i _).trans ?_
  refine go_ald_2_0 rfl ?_
  refine go_geti rfl ⟨_, rfl, rfl, by decide, by decide⟩ ?_
  refine go_c rfl ?_
  rw [h7]
  refine go_icne rfl (fun e => ?_) (fun e => ?_)
  · have e := (nI_eq (b := 2) hk (by decide)).mp e
    refine go_ald_2_0 rfl ?_
    refine go_getp rfl ⟨_, rfl, rfl, by decide, by decide⟩ ?_
    rw [h10 e]
    refine go_ald_2_1 rfl ?_
    refine go_acne (r := w) (q := some i) rfl (by cases w with | none => rfl | some j => exact if_pos (hw j rfl)) (if_pos hi) (fun e2 => ?_) (fun e2 => ?_)
    · refine go_c rfl ?_
      refine go_goto rfl ?_
      exact fin_i rfl rfl (qR_i (qB_t ⟨e, e2⟩).symm)
    · refine go_c rfl ?_
      exact fin_i rfl rfl (qR_i (qB_f (fun z => e2 z.2)).symm)
  · refine go_c rfl ?_
    exact fin_i rfl rfl (qR_i (qB_f (fun z => e (by rw [z.1]; rfl))).symm)
theorem sp_isAtName (d : Nat) (s : qb_M) (c : Nat × Nat) {kc : Nat} {w : Option Nat} (hk : kc < 2 ^ 31) (h7 : s.1 65 7 = nI kc) (h10 : kc = 2 → s.2.2 65 10 = w) : qe (d + 1) 34 [.ref 65] (qb_hp (s), 149, c) = some (some (.int (qB (kc = 2 ∧ w = none))), (qb_hp (s), 149, c)) := by
  refine (en_34 d 65 _).trans ?_
  refine go_ald_1_0 rfl ?_
  refine go_geti rfl ⟨_, rfl, rfl, by decide, by decide⟩ ?_
  refine go_c rfl ?_
  rw [h7]
  refine go_icne rfl (fun e => ?_) (fun e => ?_)
  · have e := (nI_eq (b := 2) hk (by decide)).mp e
    refine go_ald_1_0 rfl ?_
    refine go_getp rfl ⟨_, rfl, rfl, by decide, by decide⟩ ?_
    rw [h10 e]
    cases w with
    | none =>
      refine go_ifnonnull_n rfl ?_
      refine go_c rfl ?_
      refine go_goto rfl ?_
      exact fin_i rfl rfl (qR_i (qB_t ⟨e, rfl⟩).symm)
    | some i =>
      refine go_ifnonnull_r rfl ?_
      refine go_c rfl ?_
      exact fin_i rfl rfl (qR_i (qB_f (fun z => by cases z.2)).symm)
  · refine go_c rfl ?_
    exact fin_i rfl rfl (qR_i (qB_f (fun z => e (by rw [z.1]; rfl))).symm)
theorem sp_isWord (d : Nat) (s : qb_M) (c : Nat × Nat) {km : Nat} {ls : List Nat} (hk : km < 2 ^ 31) (h7 : s.1 192 7 = nI km) (h12 : km = 2 → s.2.1 192 12 = lN (qn_27 ls) ∧ qn_ok ls) (k : Nat) (hk23 : k < 23) : qe (d + 3) 175 [.ref 192, .int (nI k)] (qb_hp (s), 149, c) = some (some (.int (qB (km = 2 ∧ tx_wd ls = some (tx_pm k)))), (qb_hp (s), 149, c)) := by
  refine (en_175 (d + 2) 192 (nI k) _).trans ?_
  refine go_ald_2_0 rfl ?_
  refine go_geti rfl ⟨_, rfl, rfl, by decide, by decide⟩ ?_
  refine go_c rfl ?_
  rw [h7]
  refine go_icne rfl (fun e => ?_) (fun e => ?_)
  · have e := (nI_eq (b := 2) hk (by decide)).mp e
    obtain ⟨h1, h2⟩ := h12 e
    refine go_ald_2_0 rfl ?_
    refine go_getl rfl ⟨_, rfl, rfl, by decide, by decide⟩ ?_
    rw [h1]
    refine go_ild_2_1 rfl ?_
    refine go_call1 rfl (sp_wordOf d _ k hk23) (Nat.le_of_ble_eq_true rfl) rfl ?_
    refine go_lcmp rfl ?_
    have hiff : lg_cmp (lN (qn_27 ls)) (lN (qn_27 (tx_W (tx_pm k)))) = 0 ↔ tx_wd ls = some (tx_pm k) := by
      rw [lg_cmp_0, qn_27_inj h2 (tx_W_ok _ (tx_pm_lt k hk23)), tx_wd_iff h2 (tx_pm_lt k hk23)]
    refine go_ifne rfl (fun e2 => ?_) (fun e2 => ?_)
    · refine go_c rfl ?_
      refine go_goto rfl ?_
      exact fin_i rfl rfl (qR_i (qB_t ⟨e, hiff.mp e2⟩).symm)
    · refine go_c rfl ?_
      exact fin_i rfl rfl (qR_i (qB_f (fun z => e2 (hiff.mpr z.2))).symm)
  · refine go_c rfl ?_
    exact fin_i rfl rfl (qR_i (qB_f (fun z => e (by rw [z.1]; rfl))).symm)
theorem sp_isName (d : Nat) (s : qb_M) (c : Nat × Nat) {km : Nat} {ls : List Nat} (hk : km < 2 ^ 31) (h7 : s.1 192 7 = nI km) (h12 : km = 2 → s.2.1 192 12 = lN (qn_27 ls) ∧ qn_ok ls) : qe (d + 3) 187 [.ref 192] (qb_hp (s), 149, c) = some (some (.int (qB (km = 2 ∧ tx_wd ls = none))), (qb_hp (s), 149, c)) := by
  refine (en_187 (d + 2) 192 _).trans ?_
  refine go_ald_2_0 rfl ?_
  refine go_geti rfl ⟨_, rfl, rfl, by decide, by decide⟩ ?_
  refine go_c rfl ?_
  rw [h7]
  refine go_iceq rfl (fun e => ?_) (fun e => ?_)
  · have e := (nI_eq (b := 2) hk (by decide)).mp e
    obtain ⟨h1, h2⟩ := h12 e
    have loop : ∀ m k, k + m = 23 → (∀ j, j < k → ¬ tx_wd ls = some (tx_pm j)) → qa_lm (qe (d + 2)) (qa_cd qc_187) (12, [.ref 192, .int (nI k)], [], (qb_hp (s), 149, c)) = some (some (.int (qB (km = 2 ∧ tx_wd ls = none))), (qb_hp (s), 149, c)) := by
      intro m
      induction m with
      | zero =>
        intro k hk hj
        have hk : k = 23 := by omega
        subst hk
        refine go_ild_2_1 rfl ?_
        refine go_c rfl ?_
        refine go_icgt rfl (fun e2 => ?_) (fun e2 => ?_)
        · refine go_c rfl ?_
          refine fin_i rfl rfl (qR_i (qB_t ⟨e, ?_⟩).symm)
          cases hw : tx_wd ls with
          | none => rfl
          | some i =>
            obtain ⟨j, j1, j2⟩ := tx_pm_on i (tx_wd_lt hw)
            exact absurd (by rw [j2]; exact hw) (hj j j1)
        · exact absurd (by decide) e2
      | succ m ih =>
        intro k hk hj
        have hiff : lg_cmp (lN (qn_27 ls)) (lN (qn_27 (tx_W (tx_pm k)))) = 0 ↔ tx_wd ls = some (tx_pm k) := by
          rw [lg_cmp_0, qn_27_inj h2 (tx_W_ok _ (tx_pm_lt k (by omega))), tx_wd_iff h2 (tx_pm_lt k (by omega))]
        refine go_ild_2_1 rfl ?_
        refine go_c rfl ?_
        refine go_icgt rfl (fun e2 => ?_) (fun e2 => ?_)
        · exact absurd ((nI_ltI (a := 22) (by decide) (by omega)).mp e2) (by omega)
        · refine go_ald_2_0 rfl ?_
          refine go_getl rfl ⟨_, rfl, rfl, by decide, by decide⟩ ?_
          rw [h1]
          refine go_ild_2_1 rfl ?_
          refine go_call1 rfl (sp_wordOf d _ k (by omega)) (Nat.le_of_ble_eq_true rfl) rfl ?_
          refine go_lcmp rfl ?_
          refine go_ifne rfl (fun e3 => ?_) (fun e3 => ?_)
          · refine go_c rfl ?_
            refine fin_i rfl rfl (qR_i (qB_f (fun z => ?_)).symm)
            have := hiff.mp e3
            rw [z.2] at this
            cases this
          · refine go_inc_2_1 rfl rfl ?_
            refine go_goto rfl ?_
            rw [nI_1]
            exact ih (k + 1) (by omega) (fun j hj2 => by
              by_cases q : j = k
              · subst q; exact fun z => e3 (hiff.mpr z)
              · exact hj j (by omega))
    refine go_c rfl ?_
    refine go_ist_2_1 rfl rfl ?_
    exact loop 23 0 (by omega) (fun j hj => absurd hj (Nat.not_lt_zero j))
  · refine go_c rfl ?_
    exact fin_i rfl rfl (qR_i (qB_f (fun z => e (by rw [z.1]; rfl))).symm)
/-- the place of a name among many -/
def tx_ix (f : Nat → Int64) (many : Nat) (x : Int64) : Int32 := if fa_first (fun k => decide (f k = x)) many < many then nI (fa_first (fun k => decide (f k = x)) many) else -1
theorem sp_indexOf (d : Nat) (s : qb_M) (c : Nat × Nat) {a N many : Nat} (ha : qb_ia a 1 N) (hm : many ≤ N) (x : Int64) : qe (d + 1) 36 [.ref a, .int (nI many), .long x] (qb_hp (s), 149, c) = some (some (.int (tx_ix (s.2.1 a) many x)), (qb_hp (s), 149, c)) := by
  have hno := fa_first_no (fun k => decide (s.2.1 a k = x)) many
  have hyes := fa_first_yes (fun k => decide (s.2.1 a k = x)) many
  have hle := fa_first_le (fun k => decide (s.2.1 a k = x)) many
  have hN := ha.2.2.2
  unfold tx_ix
  generalize fa_first (fun k => decide (s.2.1 a k = x)) many = z at hno hyes hle
  have loop : ∀ m i, i + m = z → qa_lm (qe (d)) (qa_cd qc_36) (3, [.ref a, .int (nI many), .long x, .retAddr 0, .int (nI i)], [], (qb_hp (s), 149, c)) = some (some (.int (if z < many then nI z else -1)), (qb_hp (s), 149, c)) := by
    intro m
    induction m with
    | zero =>
      intro i hi
      have hi : i = z := by omega
      subst hi
      by_cases h : i < many
      · have hy := hyes h
        rw [decide_eq_true_eq] at hy
        rw [if_pos h]
        refine go_ild_5_4 rfl ?_
        refine go_ild_5_1 rfl ?_
        refine go_icge rfl (fun e => ?_) (fun e => ?_)
        · exact absurd e (nI_ge h (by omega))
        · refine go_ild_5_4 rfl ?_
          refine go_ald_5_0 rfl ?_
          refine go_len rfl (ha) ?_
          refine go_icge rfl (fun e => ?_) (fun e => ?_)
          · exact absurd e (nI_ge (by omega) (by omega))
          · refine go_ald_5_0 rfl ?_
            refine go_ild_5_4 rfl ?_
            refine go_lald (j := i) rfl (ha) (rfl) (by omega) ?_
            refine go_lld_5_2 rfl ?_
            refine go_lcmp rfl ?_
            refine go_ifne rfl (fun e => ?_) (fun e => ?_)
            · refine go_ild_5_4 rfl ?_
              exact fin_i rfl rfl rfl
            · exact absurd (lg_cmp_0.mpr hy) e
      · rw [if_neg h]
        refine go_ild_5_4 rfl ?_
        refine go_ild_5_1 rfl ?_
        refine go_icge rfl (fun e => ?_) (fun e => ?_)
        · refine go_c rfl ?_
          exact fin_i rfl rfl rfl
        · exact absurd (nI_le (by omega) (by omega)) e
    | succ m ih =>
      intro i hi
      have ih := ih (i + 1) (by omega)
      have hn := hno i (by omega)
      rw [decide_eq_false_iff_not] at hn
      refine go_ild_5_4 rfl ?_
      refine go_ild_5_1 rfl ?_
      refine go_icge rfl (fun e => ?_) (fun e => ?_)
      · exact absurd e (nI_ge (by omega) (by omega))
      · refine go_ild_5_4 rfl ?_
        refine go_ald_5_0 rfl ?_
        refine go_len rfl (ha) ?_
        refine go_icge rfl (fun e => ?_) (fun e => ?_)
        · exact absurd e (nI_ge (by omega) (by omega))
        · refine go_ald_5_0 rfl ?_
          refine go_ild_5_4 rfl ?_
          refine go_lald (j := i) rfl (ha) (rfl) (by omega) ?_
          refine go_lld_5_2 rfl ?_
          refine go_lcmp rfl ?_
          refine go_ifne rfl (fun e => ?_) (fun e => ?_)
          · exact absurd (lg_cmp_0.mp e) hn
          · refine go_inc_5_4 rfl rfl ?_
            refine go_goto rfl ?_
            rw [nI_1]
            exact ih
  refine (en_36 d a (nI many) x _).trans ?_
  refine go_c rfl ?_
  refine go_ist_5_4 rfl rfl ?_
  exact loop z 0 (by omega)
theorem sp_findIn (d : Nat) (s : qb_M) (c : Nat × Nat) {a N base many : Nat} (ha : qb_ia a 1 N) (hm : base + many ≤ N) (x : Int64) : qe (d + 1) 188 [.ref a, .int (nI base), .int (nI many), .long x] (qb_hp (s), 149, c) = some (some (.int (tx_ix (fun k => s.2.1 a (base + k)) many x)), (qb_hp (s), 149, c)) := by
  have hno := fa_first_no (fun k => decide (s.2.1 a (base + k) = x)) many
  have hyes := fa_first_yes (fun k => decide (s.2.1 a (base + k) = x)) many
  have hle := fa_first_le (fun k => decide (s.2.1 a (base + k) = x)) many
  have hN := ha.2.2.2
  unfold tx_ix
  generalize fa_first (fun k => decide (s.2.1 a (base + k) = x)) many = z at hno hyes hle
  have loop : ∀ m i, i + m = z → qa_lm (qe (d)) (qa_cd qc_188) (3, [.ref a, .int (nI base), .int (nI many), .long x, .retAddr 0, .int (nI i)], [], (qb_hp (s), 149, c)) = some (some (.int (if z < many then nI z else -1)), (qb_hp (s), 149, c)) := by
    intro m
    induction m with
    | zero =>
      intro i hi
      have hi : i = z := by omega
      subst hi
      by_cases h : i < many
      · have hy := hyes h
        rw [decide_eq_true_eq] at hy
        rw [if_pos h]
        refine go_ild_6_5 rfl ?_
        refine go_ild_6_2 rfl ?_
        refine go_icge rfl (fun e => ?_) (fun e => ?_)
        · exact absurd e (nI_ge h (by omega))
        · refine go_ald_6_0 rfl ?_
          refine go_ild_6_1 rfl ?_
          refine go_ild_6_5 rfl ?_
          refine go_iadd rfl ?_
          rw [nI_add]
          refine go_lald (j := base + i) rfl (ha) (rfl) (by omega) ?_
          refine go_lld_6_3 rfl ?_
          refine go_lcmp rfl ?_
          refine go_ifne rfl (fun e => ?_) (fun e => ?_)
          · refine go_ild_6_5 rfl ?_
            exact fin_i rfl rfl rfl
          · exact absurd (lg_cmp_0.mpr hy) e
      · rw [if_neg h]
        refine go_ild_6_5 rfl ?_
        refine go_ild_6_2 rfl ?_
        refine go_icge rfl (fun e => ?_) (fun e => ?_)
        · refine go_c rfl ?_
          exact fin_i rfl rfl rfl
        · exact absurd (nI_le (by omega) (by omega)) e
    | succ m ih =>
      intro i hi
      have ih := ih (i + 1) (by omega)
      have hn := hno i (by omega)
      rw [decide_eq_false_iff_not] at hn
      refine go_ild_6_5 rfl ?_
      refine go_ild_6_2 rfl ?_
      refine go_icge rfl (fun e => ?_) (fun e => ?_)
      · exact absurd e (nI_ge (by omega) (by omega))
      · refine go_ald_6_0 rfl ?_
        refine go_ild_6_1 rfl ?_
        refine go_ild_6_5 rfl ?_
        refine go_iadd rfl ?_
        rw [nI_add]
        refine go_lald (j := base + i) rfl (ha) (rfl) (by omega) ?_
        refine go_lld_6_3 rfl ?_
        refine go_lcmp rfl ?_
        refine go_ifne rfl (fun e => ?_) (fun e => ?_)
        · exact absurd (lg_cmp_0.mp e) hn
        · refine go_inc_6_5 rfl rfl ?_
          refine go_goto rfl ?_
          rw [nI_1]
          exact ih
  refine (en_188 d a (nI base) (nI many) x _).trans ?_
  refine go_c rfl ?_
  refine go_ist_6_5 rfl rfl ?_
  exact loop z 0 (by omega)

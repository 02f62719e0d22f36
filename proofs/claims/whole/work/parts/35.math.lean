/-! MATHEMATICS of settings: ways that differ, counting under a mask, folds -/
theorem qm_bh_off {lo hi : Nat → Nat} {b : Bool} {k w : Nat} (h : ¬ (w = lo k ∨ w = hi k)) : qm_bh lo hi b k w = w := by
  unfold qm_bh
  split
  · rw [if_neg (fun z => h (Or.inl z)), if_neg (fun z => h (Or.inr z))]
  · rfl
theorem qm_bh_on {lo hi : Nat → Nat} {k w : Nat} (h : w = lo k ∨ w = hi k) (hk : lo k < hi k) : qm_bh lo hi true k w ≠ qm_bh lo hi false k w := by
  unfold qm_bh
  rw [if_pos rfl, if_neg (show ¬ (false = true) by decide)]
  rcases h with e | e
  · rw [if_pos e]; omega
  · rw [if_neg (by omega), if_pos e]; omega
theorem qm_wy_eq {nw nm : Nat} {lo hi : Nat → Nat} (h : qm_ok nw nm lo hi) (X Y : Nat) {i : Nat} (hi0 : i < nw) : qm_wy lo hi Y i nm = qm_wy lo hi X i nm ↔ ∀ k, k ≤ nm → qm_wr lo hi Y i k = qm_wr lo hi X i k := by
  constructor
  · intro e k hk
    rw [← qm_wy_at h Y hi0 nm (Nat.le_refl _) k hk, e, qm_wy_at h X hi0 nm (Nat.le_refl _) k hk]
  · intro e
    have : ∀ m, m ≤ nm → qm_wy lo hi Y i m = qm_wy lo hi X i m := by
      intro m
      induction m with
      | zero => intro _; rfl
      | succ m ih =>
        intro hm
        show 2 ^ (3 * m + 3) * qm_wr lo hi Y i (m + 1) + qm_wy lo hi Y i m = 2 ^ (3 * m + 3) * qm_wr lo hi X i (m + 1) + qm_wy lo hi X i m
        rw [e (m + 1) hm, ih (by omega)]
    exact this nm (Nat.le_refl _)
theorem qm_wr_all {nw nm : Nat} {lo hi : Nat → Nat} (h : qm_ok nw nm lo hi) (X Y : Nat) (i : Nat) : (∀ k, k ≤ nm → qm_wr lo hi Y i k = qm_wr lo hi X i k) ↔ ∀ k, k < nm → qm_th lo hi X i k = true → Y.testBit k = X.testBit k := by
  constructor
  · intro e k hk ht
    have e1 := e k (by omega)
    have e2 : qm_bh lo hi (Y.testBit k) k (qm_wr lo hi Y i k) = qm_bh lo hi (X.testBit k) k (qm_wr lo hi X i k) := e (k + 1) (by omega)
    rw [e1] at e2
    have hon := qm_bh_on (of_decide_eq_true ht) (h.2 k hk).1
    cases hy : Y.testBit k <;> cases hx : X.testBit k
    · rfl
    · rw [hx, hy] at e2; exact absurd e2.symm hon
    · rw [hx, hy] at e2; exact absurd e2 hon
    · rfl
  · intro e k
    induction k with
    | zero => intro _; rfl
    | succ k ih =>
      intro hk
      show qm_bh lo hi (Y.testBit k) k (qm_wr lo hi Y i k) = qm_bh lo hi (X.testBit k) k (qm_wr lo hi X i k)
      rw [ih (by omega)]
      by_cases ht : qm_wr lo hi X i k = lo k ∨ qm_wr lo hi X i k = hi k
      · rw [e k (by omega) (decide_eq_true ht)]
      · rw [qm_bh_off ht, qm_bh_off ht]
theorem qm_and0 {a b : Nat} : a &&& b = 0 ↔ ∀ j, a.testBit j = true → b.testBit j = true → False := by
  constructor
  · intro e j h1 h2
    have : (a &&& b).testBit j = true := by rw [Nat.testBit_and, h1, h2]; rfl
    rw [e, Nat.zero_testBit] at this
    exact absurd this (by decide)
  · intro h
    apply Nat.eq_of_testBit_eq
    intro j
    rw [Nat.testBit_and, Nat.zero_testBit]
    cases h1 : a.testBit j <;> cases h2 : b.testBit j
    · rfl
    · rfl
    · rfl
    · exact absurd (h j h1 h2) id
theorem qm_xor_bit {a b j : Nat} : (a ^^^ b).testBit j = true ↔ a.testBit j ≠ b.testBit j := by
  rw [Nat.testBit_xor]
  cases a.testBit j <;> cases b.testBit j <;> decide
/-- a way is another when a switch on it is set otherwise -/
def qm_ch (lo hi : Nat → Nat) (nm X Y i : Nat) : Bool := decide (qm_ac (qm_th lo hi X i) nm &&& (X ^^^ Y) ≠ 0)
theorem qm_ch_iff {nw nm : Nat} {lo hi : Nat → Nat} (h : qm_ok nw nm lo hi) (X Y : Nat) {i : Nat} (hi0 : i < nw) : qm_ch lo hi nm X Y i = true ↔ ¬ qm_wy lo hi Y i nm = qm_wy lo hi X i nm := by
  unfold qm_ch
  rw [decide_eq_true_eq, qm_wy_eq h X Y hi0, qm_wr_all h X Y i]
  constructor
  · intro q e
    refine q (qm_and0.mpr (fun j h1 h2 => ?_))
    rw [qm_ac_bit, Bool.and_eq_true, decide_eq_true_eq] at h1
    rw [qm_xor_bit] at h2
    exact h2 (e j h1.1 h1.2).symm
  · intro q e
    refine q (fun k hk ht => Classical.byContradiction fun z => ?_)
    refine qm_and0.mp e k ?_ ?_
    · rw [qm_ac_bit, Bool.and_eq_true, decide_eq_true_eq]; exact ⟨hk, ht⟩
    · rw [qm_xor_bit]; exact fun w => z w.symm
theorem qm_ch_end {nw nm : Nat} {lo hi : Nat → Nat} (h : qm_ok nw nm lo hi) (X Y : Nat) {i : Nat} (hi0 : i < nw) (q : ¬ qm_ch lo hi nm X Y i = true) : qm_wr lo hi Y i nm = qm_wr lo hi X i nm := by
  rw [qm_ch_iff h X Y hi0, Classical.not_not, qm_wy_eq h X Y hi0] at q
  exact q nm (Nat.le_refl _)
/-! counting under a mask -/
def qm_dp : Nat → Nat → Nat → Nat
  | 0, _, _ => 0
  | n + 1, L, i => if L % 2 = 1 then 2 * qm_dp n (L / 2) (i / 2) + i % 2 else 2 * qm_dp n (L / 2) i
def qm_bc : Nat → Nat → Nat
  | 0, _ => 0
  | n + 1, L => L % 2 + qm_bc n (L / 2)
def qm_xt : Nat → Nat → Nat → Nat
  | 0, _, _ => 0
  | n + 1, L, Z => if L % 2 = 1 then 2 * qm_xt n (L / 2) (Z / 2) + Z % 2 else qm_xt n (L / 2) (Z / 2)
theorem qm_dp_lt : ∀ n L i, qm_dp n L i < 2 ^ n
  | 0, _, _ => by show (0 : Nat) < 1; omega
  | n + 1, L, i => by
    have h1 := qm_dp_lt n (L / 2) (i / 2)
    have h2 := qm_dp_lt n (L / 2) i
    show (if L % 2 = 1 then 2 * qm_dp n (L / 2) (i / 2) + i % 2 else 2 * qm_dp n (L / 2) i) < 2 ^ (n + 1)
    rw [Nat.pow_succ]
    split <;> omega
theorem qm_dp_0 : ∀ n L, qm_dp n L 0 = 0
  | 0, _ => rfl
  | n + 1, L => by
    show (if L % 2 = 1 then 2 * qm_dp n (L / 2) (0 / 2) + 0 % 2 else 2 * qm_dp n (L / 2) 0) = 0
    rw [show 0 / 2 = 0 from rfl, qm_dp_0 n (L / 2)]
    split <;> rfl
theorem qm_dp_sub : ∀ n L i j, (qm_dp n L i).testBit j = true → L.testBit j = true
  | 0, _, _, j, h => by rw [show qm_dp 0 _ _ = 0 from rfl, Nat.zero_testBit] at h; exact absurd h (by decide)
  | n + 1, L, i, 0, h => by
    rw [Nat.testBit_zero] at h ⊢
    rw [decide_eq_true_eq] at h ⊢
    unfold qm_dp at h
    split at h
    · assumption
    · omega
  | n + 1, L, i, j + 1, h => by
    rw [Nat.testBit_succ] at h ⊢
    unfold qm_dp at h
    split at h
    · rw [show (2 * qm_dp n (L / 2) (i / 2) + i % 2) / 2 = qm_dp n (L / 2) (i / 2) by omega] at h
      exact qm_dp_sub n _ _ j h
    · rw [show 2 * qm_dp n (L / 2) i / 2 = qm_dp n (L / 2) i by omega] at h
      exact qm_dp_sub n _ _ j h
theorem qm_dp_mono : ∀ n L i j, i < j → j < 2 ^ qm_bc n L → qm_dp n L i < qm_dp n L j
  | 0, _, i, j, h, h2 => by rw [show qm_bc 0 _ = 0 from rfl] at h2; omega
  | n + 1, L, i, j, h, h2 => by
    unfold qm_bc at h2
    unfold qm_dp
    by_cases e : L % 2 = 1
    · rw [if_pos e, if_pos e]
      rw [e, Nat.add_comm, Nat.pow_succ] at h2
      by_cases e2 : i / 2 < j / 2
      · have := qm_dp_mono n (L / 2) (i / 2) (j / 2) e2 (by omega)
        omega
      · rw [show i / 2 = j / 2 by omega]
        omega
    · rw [if_neg e, if_neg e]
      rw [show L % 2 = 0 by omega, Nat.zero_add] at h2
      have := qm_dp_mono n (L / 2) i j h h2
      omega
theorem qm_xt_ok : ∀ n L Z, Z < 2 ^ n → (∀ j, Z.testBit j = true → L.testBit j = true) → qm_dp n L (qm_xt n L Z) = Z ∧ qm_xt n L Z < 2 ^ qm_bc n L
  | 0, L, Z, h, _ => by
    have : Z = 0 := by rw [show (2 : Nat) ^ 0 = 1 from rfl] at h; omega
    subst this
    exact ⟨rfl, by show (0 : Nat) < 2 ^ 0; omega⟩
  | n + 1, L, Z, h, hs => by
    rw [Nat.pow_succ] at h
    obtain ⟨h1, h2⟩ := qm_xt_ok n (L / 2) (Z / 2) (by omega) (fun j q => by
      rw [← Nat.testBit_succ] at q ⊢
      exact hs (j + 1) q)
    unfold qm_xt qm_dp qm_bc
    by_cases e : L % 2 = 1
    · rw [if_pos e, if_pos e, show (2 * qm_xt n (L / 2) (Z / 2) + Z % 2) / 2 = qm_xt n (L / 2) (Z / 2) by omega, show (2 * qm_xt n (L / 2) (Z / 2) + Z % 2) % 2 = Z % 2 by omega, h1]
      rw [e, Nat.add_comm 1, Nat.pow_succ]
      omega
    · have hz : Z % 2 = 0 := by
        have := hs 0
        rw [Nat.testBit_zero, Nat.testBit_zero, decide_eq_true_eq, decide_eq_true_eq] at this
        omega
      rw [if_neg e, if_neg e, h1, show L % 2 = 0 by omega, Nat.zero_add]
      omega
theorem qm_half (x y : Nat) (h1 : x / 2 = y / 2) (h2 : x % 2 = y % 2) : x = y := by omega
theorem qm_dp_adv : ∀ n L i, L < 2 ^ n → ((qm_dp n L i ||| (2 ^ n - (L + 1))) + 1) &&& L = qm_dp n L (i + 1)
  | 0, L, i, h => by
    have : L = 0 := by rw [show (2 : Nat) ^ 0 = 1 from rfl] at h; omega
    subst this
    rw [Nat.and_zero]
    rfl
  | n + 1, L, i, h => by
    rw [Nat.pow_succ] at h
    have hb : ∀ i, (qm_dp n (L / 2) i ||| (2 ^ n - (L / 2 + 1))) &&& (L / 2) = qm_dp n (L / 2) i := fun i => by
      apply Nat.eq_of_testBit_eq
      intro j
      rw [Nat.testBit_and, Nat.testBit_or, Nat.testBit_two_pow_sub_succ (by omega)]
      have hs := qm_dp_sub n (L / 2) i j
      cases h1 : (qm_dp n (L / 2) i).testBit j <;> cases h2 : (L / 2).testBit j
      · simp
      · simp
      · rw [h1, h2] at hs; exact absurd (hs rfl) (by decide)
      · simp
    have ih := qm_dp_adv n (L / 2)
    by_cases e : L % 2 = 1
    · have ec : 2 ^ (n + 1) - (L + 1) = 2 * (2 ^ n - (L / 2 + 1)) := by rw [Nat.pow_succ]; omega
      rw [ec]
      unfold qm_dp
      rw [if_pos e, if_pos e]
      have e1 : ((2 * qm_dp n (L / 2) (i / 2) + i % 2) ||| 2 * (2 ^ n - (L / 2 + 1))) / 2 = qm_dp n (L / 2) (i / 2) ||| (2 ^ n - (L / 2 + 1)) := by
        rw [Nat.or_div_two]
        congr 1 <;> omega
      have e2 : ((2 * qm_dp n (L / 2) (i / 2) + i % 2) ||| 2 * (2 ^ n - (L / 2 + 1))) % 2 = i % 2 := by
        have := @Nat.or_mod_two_eq_one (2 * qm_dp n (L / 2) (i / 2) + i % 2) (2 * (2 ^ n - (L / 2 + 1)))
        omega
      generalize ((2 * qm_dp n (L / 2) (i / 2) + i % 2) ||| 2 * (2 ^ n - (L / 2 + 1))) = E at e1 e2
      by_cases e3 : i % 2 = 0
      · apply qm_half
        · rw [Nat.and_div_two, show (E + 1) / 2 = E / 2 by omega, e1, hb]
          rw [show (i + 1) / 2 = i / 2 by omega]
          omega
        · have := @Nat.and_mod_two_eq_one (E + 1) L
          omega
      · apply qm_half
        · rw [Nat.and_div_two, show (E + 1) / 2 = E / 2 + 1 by omega, e1, ih _ (by omega)]
          rw [show (i + 1) / 2 = i / 2 + 1 by omega]
          omega
        · have := @Nat.and_mod_two_eq_one (E + 1) L
          omega
    · have ec : 2 ^ (n + 1) - (L + 1) = 2 * (2 ^ n - (L / 2 + 1)) + 1 := by rw [Nat.pow_succ]; omega
      rw [ec]
      unfold qm_dp
      rw [if_neg e, if_neg e]
      have e1 : ((2 * qm_dp n (L / 2) i) ||| (2 * (2 ^ n - (L / 2 + 1)) + 1)) / 2 = qm_dp n (L / 2) i ||| (2 ^ n - (L / 2 + 1)) := by
        rw [Nat.or_div_two]
        congr 1 <;> omega
      have e2 : ((2 * qm_dp n (L / 2) i) ||| (2 * (2 ^ n - (L / 2 + 1)) + 1)) % 2 = 1 := by
        have := @Nat.or_mod_two_eq_one (2 * qm_dp n (L / 2) i) (2 * (2 ^ n - (L / 2 + 1)) + 1)
        omega
      generalize ((2 * qm_dp n (L / 2) i) ||| (2 * (2 ^ n - (L / 2 + 1)) + 1)) = E at e1 e2
      apply qm_half
      · rw [Nat.and_div_two, show (E + 1) / 2 = E / 2 + 1 by omega, e1, ih _ (by omega)]
        omega
      · have := @Nat.and_mod_two_eq_one (E + 1) L
        omega
/-! folds over numbers -/
def qm_fo {α : Type} (S : Nat → Bool) (g : Nat → α → α) (a : α) : Nat → α
  | 0 => a
  | n + 1 => if S n = true then g n (qm_fo S g a n) else qm_fo S g a n
theorem qm_fo_skip {α : Type} {S : Nat → Bool} {g : Nat → α → α} {a : α} {x : Nat} : ∀ n, (∀ k, x ≤ k → k < x + n → ¬ S k = true) → qm_fo S g a (x + n) = qm_fo S g a x
  | 0, _ => rfl
  | n + 1, h => by
    show (if S (x + n) = true then _ else qm_fo S g a (x + n)) = _
    rw [if_neg (h (x + n) (by omega) (by omega)), qm_fo_skip n (fun k h1 h2 => h k h1 (by omega))]
theorem qm_fo_skip' {α : Type} {S : Nat → Bool} {g : Nat → α → α} {a : α} {x y : Nat} (hxy : x ≤ y) (h : ∀ k, x ≤ k → k < y → ¬ S k = true) : qm_fo S g a y = qm_fo S g a x := by
  have := qm_fo_skip (S := S) (g := g) (a := a) (x := x) (y - x) (fun k h1 h2 => h k h1 (by omega))
  rw [show x + (y - x) = y by omega] at this
  exact this
/-- the settings that leave the switches F as X has them -/
def qm_S (X F : Nat) (Z : Nat) : Bool := decide ((X ^^^ Z) &&& F = 0)
def qm_L (nm F : Nat) : Nat := qm_ac (fun j => !F.testBit j) nm
def qm_B (nm X F : Nat) : Nat := qm_ac (fun j => X.testBit j && F.testBit j) nm
def qm_N (nm F : Nat) : Nat := 2 ^ qm_bc 32 (qm_L nm F)
def qm_y (nm X F i : Nat) : Nat := qm_B nm X F ||| qm_dp 32 (qm_L nm F) i
theorem qm_y_bit {nm X F i j : Nat} : (qm_y nm X F i).testBit j = (decide (j < nm) && (if F.testBit j = true then X.testBit j else (qm_dp 32 (qm_L nm F) i).testBit j)) := by
  unfold qm_y qm_B
  rw [Nat.testBit_or, qm_ac_bit]
  have hs := qm_dp_sub 32 (qm_L nm F) i j
  unfold qm_L at hs
  rw [qm_ac_bit] at hs
  unfold qm_L
  cases h1 : F.testBit j <;> cases h2 : decide (j < nm) <;> cases h3 : (qm_dp 32 (qm_ac (fun j => !F.testBit j) nm) i).testBit j <;> simp_all
theorem qm_lt_of_bit {a n : Nat} (h : ∀ j, n ≤ j → a.testBit j = false) : a < 2 ^ n := by
  rw [← Nat.mod_eq_of_lt (Nat.lt_two_pow_self (n := a))]
  apply Nat.lt_pow_two_of_testBit
  intro j hj
  rw [Nat.mod_eq_of_lt (Nat.lt_two_pow_self (n := a))]
  exact h j hj
theorem qm_y_lt {nm X F i : Nat} : qm_y nm X F i < 2 ^ nm := qm_lt_of_bit (fun j hj => by rw [qm_y_bit, decide_eq_false (by omega)]; rfl)
theorem qm_S_bit {X F Z : Nat} : qm_S X F Z = true ↔ ∀ j, F.testBit j = true → Z.testBit j = X.testBit j := by
  unfold qm_S
  rw [decide_eq_true_eq, qm_and0]
  constructor
  · intro h j hj
    exact Classical.byContradiction fun z => h j (qm_xor_bit.mpr (fun w => z w.symm)) hj
  · intro h j h1 h2
    exact (qm_xor_bit.mp h1) (h j h2).symm
theorem qm_y_S {nm X F i : Nat} (hX : X < 2 ^ nm) : qm_S X F (qm_y nm X F i) = true := by
  rw [qm_S_bit]
  intro j hj
  rw [qm_y_bit, if_pos hj]
  by_cases h : j < nm
  · rw [decide_eq_true h]; rfl
  · rw [decide_eq_false h, Nat.testBit_lt_two_pow (Nat.lt_of_lt_of_le hX (Nat.pow_le_pow_right (by decide) (by omega)))]; rfl
theorem qm_or_add' : ∀ n a b : Nat, a < 2 ^ n → (∀ j, a.testBit j = true → b.testBit j = true → False) → a ||| b = a + b
  | 0, a, b, h, _ => by
    have : a = 0 := by rw [show (2 : Nat) ^ 0 = 1 from rfl] at h; omega
    subst this
    rw [Nat.zero_or, Nat.zero_add]
  | n + 1, a, b, h, hd => by
    rw [Nat.pow_succ] at h
    have ih := qm_or_add' n (a / 2) (b / 2) (by omega) (fun j h1 h2 => hd (j + 1) (by rw [Nat.testBit_succ]; exact h1) (by rw [Nat.testBit_succ]; exact h2))
    have h0 := hd 0
    rw [Nat.testBit_zero, Nat.testBit_zero, decide_eq_true_eq, decide_eq_true_eq] at h0
    have h0' : ¬ (a % 2 = 1 ∧ b % 2 = 1) := fun q => h0 q.1 q.2
    have h3 := @Nat.or_mod_two_eq_one a b
    have h4 := Nat.or_div_two (a := a) (b := b)
    rw [ih] at h4
    apply qm_half <;> omega
theorem qm_or_add {a b : Nat} (h : ∀ j, a.testBit j = true → b.testBit j = true → False) : a ||| b = a + b := qm_or_add' a a b Nat.lt_two_pow_self h
theorem qm_y_add {nm X F i : Nat} : qm_y nm X F i = qm_B nm X F + qm_dp 32 (qm_L nm F) i := by
  unfold qm_y
  refine qm_or_add (fun j h1 h2 => ?_)
  have hs := qm_dp_sub 32 (qm_L nm F) i j h2
  unfold qm_L at hs
  unfold qm_B at h1
  rw [qm_ac_bit] at h1 hs
  cases h : F.testBit j <;> simp_all
theorem qm_S_y {nm X F Z : Nat} (hn : nm ≤ 32) (hX : X < 2 ^ nm) (hZ : Z < 2 ^ nm) (h : qm_S X F Z = true) : ∃ i, i < qm_N nm F ∧ Z = qm_y nm X F i := by
  rw [qm_S_bit] at h
  have h9 : ∀ {a j : Nat}, a < 2 ^ nm → a.testBit j = true → j < nm := fun {a j} ha hj => Classical.byContradiction fun z => by
    rw [Nat.testBit_lt_two_pow (Nat.lt_of_lt_of_le ha (Nat.pow_le_pow_right (by decide) (Nat.not_lt.mp z)))] at hj
    exact absurd hj (by decide)
  have hL : ∀ j, (qm_L nm F).testBit j = (decide (j < nm) && !F.testBit j) := fun j => qm_ac_bit _ _ _
  obtain ⟨h1, h2⟩ := qm_xt_ok 32 (qm_L nm F) (Z &&& qm_L nm F) (by
    refine Nat.lt_of_le_of_lt Nat.and_le_left (Nat.lt_of_lt_of_le hZ (Nat.pow_le_pow_right (by decide) hn))) (fun j q => by
    rw [Nat.testBit_and, Bool.and_eq_true] at q
    exact q.2)
  refine ⟨_, h2, ?_⟩
  apply Nat.eq_of_testBit_eq
  intro j
  rw [qm_y_bit, h1, Nat.testBit_and, hL]
  by_cases hj : j < nm
  · cases hf : F.testBit j
    · simp [hj]
    · simp [hj, h j hf]
  · rw [decide_eq_false hj, Nat.testBit_lt_two_pow (Nat.lt_of_lt_of_le hZ (Nat.pow_le_pow_right (by decide) (by omega)))]; rfl
theorem qm_y_mono {nm X F i j : Nat} (h : i < j) (hj : j < qm_N nm F) : qm_y nm X F i < qm_y nm X F j := by
  rw [qm_y_add, qm_y_add]
  have := qm_dp_mono 32 (qm_L nm F) i j h hj
  omega
/-- the place of the fold behind i settings of a sweep -/
def qm_yy (nm X F i : Nat) : Nat := if i < qm_N nm F then qm_y nm X F i else 2 ^ nm
theorem qm_N_pos {nm F : Nat} : 0 < qm_N nm F := Nat.two_pow_pos _
theorem qm_sw_0 {α : Type} {g : Nat → α → α} {a : α} {nm X F : Nat} (hn : nm ≤ 32) (hX : X < 2 ^ nm) : qm_fo (qm_S X F) g a (qm_yy nm X F 0) = a := by
  unfold qm_yy
  rw [if_pos qm_N_pos]
  rw [qm_fo_skip' (Nat.zero_le _) (fun k _ h2 h3 => ?_)]
  · rfl
  · obtain ⟨i, h4, h5⟩ := qm_S_y (nm := nm) hn hX (Nat.lt_trans h2 qm_y_lt) h3
    rcases Nat.eq_zero_or_pos i with e | e
    · subst e; omega
    · have := qm_y_mono (nm := nm) (X := X) (F := F) e h4
      omega
theorem qm_sw_s {α : Type} {g : Nat → α → α} {a : α} {nm X F i : Nat} (hn : nm ≤ 32) (hX : X < 2 ^ nm) (hi : i < qm_N nm F) : qm_fo (qm_S X F) g a (qm_yy nm X F (i + 1)) = g (qm_y nm X F i) (qm_fo (qm_S X F) g a (qm_yy nm X F i)) := by
  have e1 : qm_yy nm X F i = qm_y nm X F i := if_pos hi
  have hle : qm_y nm X F i + 1 ≤ qm_yy nm X F (i + 1) := by
    unfold qm_yy
    split
    · rename_i h; exact qm_y_mono (by omega) h
    · exact qm_y_lt
  rw [qm_fo_skip' hle (fun k h1 h2 h3 => ?_), e1]
  · show (if qm_S X F (qm_y nm X F i) = true then _ else _) = _
    rw [if_pos (qm_y_S hX)]
  · have hk : k < 2 ^ nm := by
      refine Nat.lt_of_lt_of_le h2 ?_
      unfold qm_yy
      split
      · exact Nat.le_of_lt qm_y_lt
      · exact Nat.le_refl _
    obtain ⟨j, h4, h5⟩ := qm_S_y (nm := nm) hn hX hk h3
    rcases Nat.lt_or_ge i j with e | e
    · have : i + 1 < qm_N nm F := by omega
      unfold qm_yy at h2
      rw [if_pos this] at h2
      rcases Nat.lt_or_ge (i + 1) j with e6 | e6
      · have := qm_y_mono (nm := nm) (X := X) (F := F) e6 h4
        omega
      · have : j = i + 1 := by omega
        subst this
        omega
    · rcases Nat.lt_or_ge j i with e6 | e6
      · have := qm_y_mono (nm := nm) (X := X) (F := F) e6 hi
        omega
      · have : j = i := by omega
        subst this
        omega
theorem qm_sw_e {nm X F : Nat} : qm_yy nm X F (qm_N nm F) = 2 ^ nm := if_neg (Nat.lt_irrefl _)

/-! MATHEMATICS of ends: where a wire comes out from a place on, four bits a wire -/
def qm_te (lo hi : Nat → Nat) (Y nm : Nat) : Nat → Nat → Nat
  | 0, w => w
  | r + 1, w => qm_te lo hi Y nm r (qm_bh lo hi (Y.testBit (nm - 1 - r)) (nm - 1 - r) w)
theorem qm_te_wr {lo hi : Nat → Nat} {Y nm i : Nat} : ∀ r k, k + r = nm → qm_te lo hi Y nm r (qm_wr lo hi Y i k) = qm_wr lo hi Y i nm
  | 0, k, h => by
    have : k = nm := by omega
    subst this
    rfl
  | r + 1, k, h => by
    show qm_te lo hi Y nm r (qm_bh lo hi (Y.testBit (nm - 1 - r)) (nm - 1 - r) (qm_wr lo hi Y i k)) = _
    rw [show nm - 1 - r = k by omega]
    exact qm_te_wr r (k + 1) (by omega)
theorem qm_te_end {lo hi : Nat → Nat} {Y nm i : Nat} : qm_te lo hi Y nm nm i = qm_wr lo hi Y i nm := qm_te_wr nm 0 (by omega)
theorem qm_te_lt {nw nm : Nat} {lo hi : Nat → Nat} (h : qm_ok nw nm lo hi) (Y : Nat) : ∀ r, r ≤ nm → ∀ w, w < 8 → qm_te lo hi Y nm r w < 8
  | 0, _, w, hw => hw
  | r + 1, hr, w, hw => by
    have h3 := h.1
    have h4 := h.2 (nm - 1 - r) (by omega)
    exact qm_te_lt h Y r (by omega) _ (qm_bh_lt (nw := 8) h4.1 (by omega) hw)
theorem qm_te_cong {lo hi : Nat → Nat} {Y Z nm : Nat} : ∀ r, (∀ j, nm - r ≤ j → j < nm → Y.testBit j = Z.testBit j) → r ≤ nm → ∀ w, qm_te lo hi Y nm r w = qm_te lo hi Z nm r w
  | 0, _, _, _ => rfl
  | r + 1, h, hr, w => by
    show qm_te lo hi Y nm r _ = qm_te lo hi Z nm r _
    rw [h (nm - 1 - r) (by omega) (by omega), qm_te_cong r (fun j h1 h2 => h j (by omega) h2) (by omega)]
theorem qm_b8 {a j : Nat} (ha : a < 8) (hj : 3 ≤ j) : a.testBit j = false := by
  apply Nat.testBit_lt_two_pow
  have : 2 ^ 3 ≤ 2 ^ j := Nat.pow_le_pow_right (by decide) hj
  omega
def qm_pb (g : Nat → Nat) (j : Nat) : Bool := (g (j / 4)).testBit (j % 4)
def qm_pk (g : Nat → Nat) : Nat := qm_ac (qm_pb g) 32
theorem qm_pk_bit {g : Nat → Nat} {j : Nat} : (qm_pk g).testBit j = (decide (j < 32) && qm_pb g j) := qm_ac_bit _ _ _
theorem qm_pk_lt {g : Nat → Nat} (h : g 7 < 8) : qm_pk g < 2 ^ 31 := by
  have h1 := qm_ac_lt (qm_pb g) 31
  show qm_ac (qm_pb g) 31 + (if qm_pb g 31 = true then 2 ^ 31 else 0) < 2 ^ 31
  rw [if_neg]
  · omega
  · show ¬ (g 7).testBit 3 = true
    rw [Nat.testBit_lt_two_pow (show g 7 < 2 ^ 3 from h)]
    decide
theorem qm_pk_cong {g h : Nat → Nat} (e : ∀ w, w < 8 → g w = h w) : qm_pk g = qm_pk h := qm_ac_cong (fun k hk => by unfold qm_pb; rw [e (k / 4) (by omega)])
theorem qm_pk_id : qm_pk (fun w => w) = 0x76543210 := by decide +kernel
theorem qm_pk_inj {g h : Nat → Nat} (hg : ∀ w, w < 8 → g w < 8) (hh : ∀ w, w < 8 → h w < 8) (e : qm_pk g = qm_pk h) : ∀ w, w < 8 → g w = h w := by
  intro w hw
  apply Nat.eq_of_testBit_eq
  intro j
  by_cases hj : j < 4
  · have e1 : (qm_pk g).testBit (4 * w + j) = (qm_pk h).testBit (4 * w + j) := by rw [e]
    rw [qm_pk_bit, qm_pk_bit, decide_eq_true (show 4 * w + j < 32 by omega)] at e1
    unfold qm_pb at e1
    rw [show (4 * w + j) / 4 = w by omega, show (4 * w + j) % 4 = j by omega] at e1
    simpa using e1
  · have h1 : ∀ a, a < 8 → a.testBit j = false := fun a ha => qm_b8 ha (by omega)
    rw [h1 _ (hg w hw), h1 _ (hh w hw)]
/-- two wires changed, by four bits each -/
theorem qm_pk_swap {lo hi : Nat → Nat} {k : Nat} (g : Nat → Nat) (h1 : lo k < hi k) (h2 : hi k < 8) : qm_pk g ^^^ (((qm_pk g / 2 ^ (4 * lo k) ^^^ qm_pk g / 2 ^ (4 * hi k)) % 16) * 2 ^ (4 * lo k) ||| ((qm_pk g / 2 ^ (4 * lo k) ^^^ qm_pk g / 2 ^ (4 * hi k)) % 16) * 2 ^ (4 * hi k)) = qm_pk (fun w => g (qm_bh lo hi true k w)) := by
  have hu : ∀ j, ((qm_pk g / 2 ^ (4 * lo k) ^^^ qm_pk g / 2 ^ (4 * hi k)) % 16).testBit j = (decide (j < 4) && ((qm_pk g).testBit (4 * lo k + j) ^^ (qm_pk g).testBit (4 * hi k + j))) := fun j => by
    rw [show (16 : Nat) = 2 ^ 4 from rfl, Nat.testBit_mod_two_pow, Nat.testBit_xor, ← Nat.shiftRight_eq_div_pow, ← Nat.shiftRight_eq_div_pow, Nat.testBit_shiftRight, Nat.testBit_shiftRight]
  generalize ((qm_pk g / 2 ^ (4 * lo k) ^^^ qm_pk g / 2 ^ (4 * hi k)) % 16) = u at hu
  apply Nat.eq_of_testBit_eq
  intro j
  rw [Nat.testBit_xor, Nat.testBit_or, ← Nat.shiftLeft_eq, ← Nat.shiftLeft_eq, Nat.testBit_shiftLeft, Nat.testBit_shiftLeft, hu, hu, qm_pk_bit (j := j), qm_pk_bit (g := fun w => g (qm_bh lo hi true k w))]
  have hbb : ∀ w, qm_pb (fun w => g (qm_bh lo hi true k w)) w = (g (qm_bh lo hi true k (w / 4))).testBit (w % 4) := fun w => rfl
  by_cases e1 : j / 4 = lo k
  · have hb : qm_bh lo hi true k (j / 4) = hi k := by unfold qm_bh; rw [if_pos rfl, if_pos e1]
    have hx : j - 4 * lo k = j % 4 := by omega
    have h3 : ¬ 4 * hi k ≤ j := by omega
    rw [hbb, hb, hx, decide_eq_false h3, qm_pk_bit, qm_pk_bit]
    unfold qm_pb
    rw [show (4 * lo k + j % 4) / 4 = lo k by omega, show (4 * lo k + j % 4) % 4 = j % 4 by omega, show (4 * hi k + j % 4) / 4 = hi k by omega, show (4 * hi k + j % 4) % 4 = j % 4 by omega, e1]
    rw [decide_eq_true (show j < 32 by omega), decide_eq_true (show 4 * lo k ≤ j by omega), decide_eq_true (show j % 4 < 4 by omega), decide_eq_true (show 4 * lo k + j % 4 < 32 by omega), decide_eq_true (show 4 * hi k + j % 4 < 32 by omega)]
    cases (g (lo k)).testBit (j % 4) <;> cases (g (hi k)).testBit (j % 4) <;> rfl
  · by_cases e2 : j / 4 = hi k
    · have hb : qm_bh lo hi true k (j / 4) = lo k := by unfold qm_bh; rw [if_pos rfl, if_neg e1, if_pos e2]
      have hx : j - 4 * hi k = j % 4 := by omega
      rw [hbb, hb, hx, decide_eq_false (show ¬ j - 4 * lo k < 4 by omega), qm_pk_bit, qm_pk_bit, qm_pk_bit, qm_pk_bit]
      unfold qm_pb
      rw [show (4 * lo k + j % 4) / 4 = lo k by omega, show (4 * lo k + j % 4) % 4 = j % 4 by omega, show (4 * hi k + j % 4) / 4 = hi k by omega, show (4 * hi k + j % 4) % 4 = j % 4 by omega, e2]
      rw [decide_eq_true (show j < 32 by omega), decide_eq_true (show 4 * hi k ≤ j by omega), decide_eq_true (show j % 4 < 4 by omega), decide_eq_true (show 4 * lo k + j % 4 < 32 by omega), decide_eq_true (show 4 * hi k + j % 4 < 32 by omega)]
      cases (g (lo k)).testBit (j % 4) <;> cases (g (hi k)).testBit (j % 4) <;> simp
    · have hb : qm_bh lo hi true k (j / 4) = j / 4 := qm_bh_off (fun q => q.elim e1 e2)
      rw [hbb, hb]
      have q1 : (decide (j ≥ 4 * lo k) && (decide (j - 4 * lo k < 4) && ((qm_pk g).testBit (4 * lo k + (j - 4 * lo k)) ^^ (qm_pk g).testBit (4 * hi k + (j - 4 * lo k))))) = false := by
        by_cases z : 4 * lo k ≤ j
        · rw [decide_eq_false (show ¬ j - 4 * lo k < 4 by omega)]; simp
        · rw [decide_eq_false z]; rfl
      have q2 : (decide (j ≥ 4 * hi k) && (decide (j - 4 * hi k < 4) && ((qm_pk g).testBit (4 * lo k + (j - 4 * hi k)) ^^ (qm_pk g).testBit (4 * hi k + (j - 4 * hi k))))) = false := by
        by_cases z : 4 * hi k ≤ j
        · rw [decide_eq_false (show ¬ j - 4 * hi k < 4 by omega)]; simp
        · rw [decide_eq_false z]; rfl
      rw [q1, q2]
      unfold qm_pb
      simp
/-- some wires looked at: four bits each -/
def qm_mk (D : Nat → Bool) : Nat := qm_ac (fun j => D (j / 4)) 32
def qm_wt (D : Nat → Bool) (o : Nat → Nat) : Nat := qm_ac (fun j => D (j / 4) && (o (j / 4)).testBit (j % 4)) 32
theorem qm_mk_add {D E : Nat → Bool} {c : Nat} (hc : c < 8) (hE : ∀ w, w < 8 → E w = (D w || decide (w = c))) : qm_mk D ||| 15 * 2 ^ (4 * c) = qm_mk E := by
  apply Nat.eq_of_testBit_eq
  intro j
  unfold qm_mk
  rw [Nat.testBit_or, qm_ac_bit, qm_ac_bit, ← Nat.shiftLeft_eq, Nat.testBit_shiftLeft]
  have h15 : ∀ k, (15 : Nat).testBit k = decide (k < 4) := fun k => by
    rw [show (15 : Nat) = 2 ^ 4 - 1 from rfl, Nat.testBit_two_pow_sub_one]
  rw [h15]
  by_cases hj : j < 32
  · rw [hE (j / 4) (by omega)]
    by_cases e : j / 4 = c
    · simp [hj, e, show 4 * c ≤ j by omega, show j - 4 * c < 4 by omega]
    · have : (decide (j ≥ 4 * c) && decide (j - 4 * c < 4)) = false := by
        by_cases z : 4 * c ≤ j
        · rw [decide_eq_false (show ¬ j - 4 * c < 4 by omega)]; simp
        · rw [decide_eq_false z]; rfl
      rw [this]
      simp [hj, e]
  · have : (decide (j ≥ 4 * c) && decide (j - 4 * c < 4)) = false := by rw [decide_eq_false (show ¬ j - 4 * c < 4 by omega)]; simp
    rw [this]
    simp [hj]
theorem qm_wt_add {D E : Nat → Bool} {o : Nat → Nat} {c : Nat} (hc : c < 8) (ho : o c < 8) (hE : ∀ w, w < 8 → E w = (D w || decide (w = c))) : qm_wt D o ||| o c * 2 ^ (4 * c) = qm_wt E o := by
  apply Nat.eq_of_testBit_eq
  intro j
  unfold qm_wt
  rw [Nat.testBit_or, qm_ac_bit, qm_ac_bit, ← Nat.shiftLeft_eq, Nat.testBit_shiftLeft]
  have h8 : ∀ k, 4 ≤ k → (o c).testBit k = false := fun k hk => qm_b8 ho (by omega)
  by_cases hj : j < 32
  · rw [hE (j / 4) (by omega)]
    by_cases e : j / 4 = c
    · subst e
      rw [show j - 4 * (j / 4) = j % 4 by omega]
      simp [hj, show 4 * (j / 4) ≤ j by omega]
    · have : (decide (j ≥ 4 * c) && (o c).testBit (j - 4 * c)) = false := by
        by_cases z : 4 * c ≤ j
        · rw [h8 _ (by omega)]; simp
        · rw [decide_eq_false z]; rfl
      rw [this]
      simp [hj, e]
  · have : (decide (j ≥ 4 * c) && (o c).testBit (j - 4 * c)) = false := by rw [h8 _ (by omega)]; simp
    rw [this]
    simp [hj]
theorem qm_mk_0 : qm_mk (fun _ => false) = 0 := by decide +kernel
theorem qm_wt_0 {o : Nat → Nat} : qm_wt (fun _ => false) o = 0 := by
  apply Nat.eq_of_testBit_eq
  intro j
  unfold qm_wt
  rw [qm_ac_bit]
  simp
theorem qm_mk_eq {D : Nat → Bool} {g o : Nat → Nat} (hg : ∀ w, w < 8 → g w < 8) (ho : ∀ w, w < 8 → D w = true → o w < 8) : qm_pk g &&& qm_mk D = qm_wt D o ↔ ∀ w, w < 8 → D w = true → g w = o w := by
  have hb : ∀ j, (qm_pk g &&& qm_mk D).testBit j = (decide (j < 32) && (D (j / 4) && (g (j / 4)).testBit (j % 4))) := fun j => by
    unfold qm_mk
    rw [Nat.testBit_and, qm_pk_bit, qm_ac_bit]
    unfold qm_pb
    cases decide (j < 32) <;> cases D (j / 4) <;> simp
  have hw : ∀ j, (qm_wt D o).testBit j = (decide (j < 32) && (D (j / 4) && (o (j / 4)).testBit (j % 4))) := fun j => qm_ac_bit _ _ _
  constructor
  · intro e w hw8 hd
    apply Nat.eq_of_testBit_eq
    intro j
    by_cases hj : j < 4
    · have e1 : (qm_pk g &&& qm_mk D).testBit (4 * w + j) = (qm_wt D o).testBit (4 * w + j) := by rw [e]
      rw [hb, hw, show (4 * w + j) / 4 = w by omega, show (4 * w + j) % 4 = j by omega, decide_eq_true (show 4 * w + j < 32 by omega), hd] at e1
      simpa using e1
    · have h1 : ∀ a, a < 8 → a.testBit j = false := fun a ha => qm_b8 ha (by omega)
      rw [h1 _ (hg w hw8), h1 _ (ho w hw8 hd)]
  · intro e
    apply Nat.eq_of_testBit_eq
    intro j
    rw [hb, hw]
    by_cases hj : j < 32
    · cases hd : D (j / 4)
      · simp
      · rw [e (j / 4) (by omega) hd]
    · simp [hj]
/-! the same in ints -/
theorem nI_eq32 {a b : Nat} (ha : a < 2 ^ 32) (hb : b < 2 ^ 32) : nI a = nI b ↔ a = b := by
  constructor
  · intro e
    have : (BitVec.ofNat 32 a).toNat = (BitVec.ofNat 32 b).toNat := congrArg (fun z : Int32 => z.toBitVec.toNat) e
    rw [BitVec.toNat_ofNat, BitVec.toNat_ofNat, Nat.mod_eq_of_lt ha, Nat.mod_eq_of_lt hb] at this
    exact this
  · intro e; rw [e]
theorem qx_sm : ∀ k, k < 32 → ((nI k &&& 31).toBitVec.smod 32).toNat = k := by decide +kernel
theorem qx_um : ∀ k, k < 32 → (((nI k).toUInt32 &&& Int32.toUInt32 31).toBitVec % 32).toNat = k := by decide +kernel
theorem qx_shl {n k : Nat} (hk : k < 32) (h : n * 2 ^ k < 2 ^ 32) : nI n <<< (nI k &&& 31) = nI (n * 2 ^ k) := pk_shlN _ k (qx_sm k hk) h
theorem qx_ushr {n k : Nat} (hn : n < 2 ^ 32) (hk : k < 32) : ((nI n).toUInt32 >>> ((nI k).toUInt32 &&& Int32.toUInt32 31)).toInt32 = nI (n / 2 ^ k) := pk_ushrN hn _ k (qx_um k hk)
theorem qx_four (c : Nat) : (4 : Int32) * nI c = nI (4 * c) := by rw [show (4 : Int32) = nI 4 from rfl, pk_mul]
theorem qx_not (x : Nat) : nI x ^^^ (-1) = nI (x ^^^ (2 ^ 32 - 1)) := by rw [show (-1 : Int32) = nI (2 ^ 32 - 1) from by decide +kernel, fb_xorI]
theorem qx_fif (n : Nat) (h : n < 2 ^ 32) : nI n &&& 15 = nI (n % 16) := pk_andN h 4 (by decide +kernel)
theorem qx_all {n : Nat} (hn : n < 31) : (1 : Int32) <<< (nI n &&& 31) - 1 = nI (2 ^ n - 1) := by
  rw [qx_1shl n hn]
  have : 2 ^ n = (2 ^ n - 1) + 1 := by have := Nat.two_pow_pos n; omega
  rw [this, nI_pred]
  rfl
theorem qm_L_and {nm F : Nat} (hn : nm ≤ 32) : (2 ^ nm - 1) &&& (F ^^^ (2 ^ 32 - 1)) = qm_L nm F := by
  apply Nat.eq_of_testBit_eq
  intro j
  unfold qm_L
  rw [Nat.testBit_and, Nat.testBit_two_pow_sub_one, Nat.testBit_xor, Nat.testBit_two_pow_sub_one, qm_ac_bit]
  by_cases h : j < nm
  · simp [h, show j < 32 by omega]
  · simp [h]
theorem qm_B_and {nm X F : Nat} : X &&& (2 ^ nm - 1) &&& F = qm_B nm X F := by
  apply Nat.eq_of_testBit_eq
  intro j
  unfold qm_B
  rw [Nat.testBit_and, Nat.testBit_and, Nat.testBit_two_pow_sub_one, qm_ac_bit]
  cases decide (j < nm) <;> cases X.testBit j <;> cases F.testBit j <;> rfl
theorem qm_y_0 {nm X F : Nat} : qm_y nm X F 0 = qm_B nm X F := by
  unfold qm_y
  rw [qm_dp_0, Nat.or_zero]
theorem qm_y_adv {nm X F i : Nat} (hn : nm ≤ 31) : (((nI (qm_y nm X F i) ||| (nI (qm_L nm F) ^^^ (-1))) + 1) &&& nI (qm_L nm F)) ||| nI (qm_B nm X F) = nI (qm_y nm X F (i + 1)) := by
  have hL : qm_L nm F < 2 ^ 32 := Nat.lt_of_lt_of_le (qm_ac_lt _ nm) (Nat.pow_le_pow_right (by decide) (by omega))
  have e1 : qm_L nm F ^^^ (2 ^ 32 - 1) = 2 ^ 32 - (qm_L nm F + 1) := by
    apply Nat.eq_of_testBit_eq
    intro j
    rw [Nat.testBit_xor, Nat.testBit_two_pow_sub_one, Nat.testBit_two_pow_sub_succ hL]
    by_cases h : j < 32
    · simp [h]
    · rw [Nat.testBit_lt_two_pow (Nat.lt_of_lt_of_le hL (Nat.pow_le_pow_right (by decide) (Nat.not_lt.mp h)))]
      simp [h]
  have e2 : qm_y nm X F i ||| (2 ^ 32 - (qm_L nm F + 1)) = qm_dp 32 (qm_L nm F) i ||| (2 ^ 32 - (qm_L nm F + 1)) := by
    apply Nat.eq_of_testBit_eq
    intro j
    unfold qm_y
    rw [Nat.testBit_or, Nat.testBit_or, Nat.testBit_or, Nat.testBit_two_pow_sub_succ hL]
    have hb : (qm_B nm X F).testBit j = (decide (j < nm) && (X.testBit j && F.testBit j)) := qm_ac_bit _ _ _
    have hl : (qm_L nm F).testBit j = (decide (j < nm) && !F.testBit j) := qm_ac_bit _ _ _
    rw [hb, hl]
    by_cases h : j < nm
    · have : j < 32 := by omega
      cases F.testBit j <;> cases X.testBit j <;> simp [h, this]
    · simp [h]
  rw [qx_not, fa_or, nI_1, fa_and, fa_or, e1, e2, qm_dp_adv 32 _ _ hL, Nat.or_comm]
  rfl

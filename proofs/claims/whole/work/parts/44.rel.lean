/-! the acts keep what is so in bounds, and one and the other alike -/
theorem qt_tn_1 {k : Nat} {f : Nat → Int32} : ∀ n, qt_tn (2 ^ k) f n = if k < n then qs_b (qs_b f (30 + k)) 5 else f
  | 0 => by rw [if_neg (by omega)]; rfl
  | n + 1 => by
    unfold qt_tn
    rw [qt_tn_1 n, Nat.testBit_two_pow]
    by_cases e : k = n
    · subst e
      rw [if_pos (by simp), if_neg (by omega), if_pos (by omega)]
    · rw [if_neg (by simpa using e)]
      by_cases e2 : k < n
      · rw [if_pos e2, if_pos (by omega)]
      · rw [if_neg e2, if_neg (by omega)]
theorem qs_bu {f : Nat → Int32} {k j : Nat} {v : Int32} (h : k ≠ j) : qs_b (qs_u f j v) k = qs_u (qs_b f k) j v := by
  funext x
  unfold qs_b qs_u
  by_cases e1 : x = k
  · subst e1
    simp only [if_pos rfl, if_neg h]
  · by_cases e2 : x = j
    · subst e2; simp only [if_neg e1, if_pos rfl]
    · simp only [if_neg e1, if_neg e2]
theorem qt_turn_eq {g : Nat → Int32} {k X : Nat} (hk : k < 10) (hX : g 1 = nI X) : qs_b (qs_b (qs_u g 1 (g 1 ^^^ (1 : Int32) <<< (nI k &&& 31))) (30 + k)) 5 = qs_u (qt_tn (2 ^ k) g 10) 1 (nI (X ^^^ 2 ^ k)) := by
  rw [qt_tn_1, if_pos hk, hX, qx_1shl k (by omega), fb_xorI, qs_bu (by omega), qs_bu (by omega)]
theorem qs_R.turn {f g : Nat → Int32} (h : qs_R f g) {k X : Nat} : qs_R (qs_u (qt_tn (2 ^ k) f 10) 1 (nI X)) (qs_u (qt_tn (2 ^ k) g 10) 1 (nI X)) := (h.tn 10 (Nat.le_refl _)).u (by omega)
theorem qs_R.end {f g : Nat → Int32} (h : qs_R f g) {i : Nat} (hi : i < 8) : qs_R (qs_u f (6 + i) (-1)) (qt_me g i) := by
  unfold qt_me
  refine ⟨fun j h1 h2 => ?_, fun w hw hon => ?_⟩
  · rw [qs_u_n (k := 22 + i) (by omega), qs_u_n (k := 14 + i) (by omega)]
    unfold qs_u
    split
    · rfl
    · exact h.1 j h1 h2
  · rw [qs_on_u (by omega), qs_on_u (by omega)] at hon
    by_cases e : w = i
    · subst e
      unfold qs_on at hon
      rw [qs_u_s] at hon
      exact absurd (of_decide_eq_true hon) (fun z => z rfl)
    · rw [qs_on_u (by omega)] at hon
      rw [qs_u_n (k := 6 + i) (by omega), qs_u_n (k := 22 + i) (by omega), qs_u_n (k := 14 + i) (by omega), qs_u_n (k := 6 + i) (by omega), qs_u_n (k := 6 + i) (by omega), qs_u_n (k := 22 + i) (by omega), qs_u_n (k := 14 + i) (by omega), qs_u_n (k := 6 + i) (by omega)]
      exact h.2 w hw hon
theorem qs_in.end {nw nm : Nat} {lo hi : Nat → Nat} {g : Nat → Int32} {H X J : Nat} {Lf Sh : Nat → Nat} (hI : qs_in nw nm lo hi g H X J Lf Sh) {i : Nat} (hi8 : i < 8) : qs_in nw nm lo hi (qt_me g i) H X J Lf Sh := by
  obtain ⟨h0, h1, h2, h3⟩ := hI
  unfold qt_me
  refine ⟨?_, ?_, ?_, fun w hw hon => ?_⟩
  · rw [qs_u_n (by omega), qs_u_n (by omega), qs_u_n (by omega)]; exact h0
  · rw [qs_u_n (by omega), qs_u_n (by omega), qs_u_n (by omega)]; exact h1
  · rw [qs_u_n (by omega), qs_u_n (by omega), qs_u_n (by omega)]; exact h2
  · rw [qs_on_u (by omega), qs_on_u (by omega)] at hon
    by_cases e : w = i
    · subst e
      unfold qs_on at hon
      rw [qs_u_s] at hon
      exact absurd (of_decide_eq_true hon) (fun z => z rfl)
    · rw [qs_on_u (by omega)] at hon
      have e1 : ∀ x, x ≠ 6 + i → x ≠ 14 + i → x ≠ 22 + i → qs_u (qs_u (qs_u g (6 + i) (-1)) (14 + i) 0) (22 + i) 0 x = g x := fun x a b c => by rw [qs_u_n c, qs_u_n b, qs_u_n a]
      rw [e1 _ (by omega) (by omega) (by omega), e1 _ (by omega) (by omega) (by omega), e1 _ (by omega) (by omega) (by omega)]
      exact h3 w hw hon
theorem qs_in.jam {nw nm : Nat} {lo hi : Nat → Nat} {g : Nat → Int32} {H X J : Nat} {Lf Sh : Nat → Nat} (hI : qs_in nw nm lo hi g H X J Lf Sh) {K : Nat} (hK : K < 2 ^ nm) : qs_in nw nm lo hi (qs_u g 2 (nI K)) H X K Lf Sh := by
  obtain ⟨h0, h1, h2, h3⟩ := hI
  refine ⟨?_, ?_, ⟨qs_u_s, hK⟩, fun w hw hon => ?_⟩
  · rw [qs_u_n (by omega)]; exact h0
  · rw [qs_u_n (by omega)]; exact h1
  · rw [qs_on_u (by omega)] at hon
    rw [qs_u_n (by omega), qs_u_n (by omega), qs_u_n (by omega)]
    exact h3 w hw hon
theorem qm_wr_flip {nw nm : Nat} {lo hi : Nat → Nat} (hok : qm_ok nw nm lo hi) {X k w : Nat} (h : ¬ qm_th lo hi X w k = true) : qm_wr lo hi (X ^^^ 2 ^ k) w nm = qm_wr lo hi X w nm := by
  refine (qm_wr_all hok X (X ^^^ 2 ^ k) w).mpr (fun j hj ht => ?_) nm (Nat.le_refl _)
  rw [Nat.testBit_xor, Nat.testBit_two_pow]
  by_cases e : k = j
  · subst e; exact absurd ht h
  · simp [e]
theorem qs_in.turn {nw nm : Nat} {lo hi : Nat → Nat} (hok : qm_ok nw nm lo hi) {g : Nat → Int32} {H X J : Nat} {Lf Sh : Nat → Nat} (hI : qs_in nw nm lo hi g H X J Lf Sh) {k : Nat} (hk : k < nm) (hno : ¬ ∃ w, w < nw ∧ qs_on g w = true ∧ qm_th lo hi X w k = true) : qs_in nw nm lo hi (qs_u (qt_tn (2 ^ k) g 10) 1 (nI (X ^^^ 2 ^ k))) H (X ^^^ 2 ^ k) J Lf Sh := by
  obtain ⟨h0, h1, h2, h3⟩ := hI
  refine ⟨?_, ⟨qs_u_s, Nat.xor_lt_two_pow h1.2 (Nat.pow_lt_pow_right (by decide) hk)⟩, ?_, fun w hw hon => ?_⟩
  · rw [qs_u_n (by omega), qt_tn_n (by omega) (by omega)]; exact h0
  · rw [qs_u_n (by omega), qt_tn_n (by omega) (by omega)]; exact h2
  · rw [qs_on_u (by omega), qt_tn_on hw] at hon
    rw [qs_u_n (by omega), qs_u_n (by omega), qs_u_n (by omega), qt_tn_n (by omega) (by omega), qt_tn_n (by omega) (by omega), qt_tn_n (by omega) (by omega)]
    have := h3 w hw hon
    rw [qm_wr_flip hok (fun z => hno ⟨w, this.1, hon, z⟩)]
    exact this
theorem qs_in.cl {nw nm : Nat} {lo hi : Nat → Nat} (hok : qm_ok nw nm lo hi) {g : Nat → Int32} {H X J : Nat} {Lf Sh : Nat → Nat} (hI : qs_in nw nm lo hi g H X J Lf Sh) {i o n Z V : Nat} {b : Bool} (hi0 : i < nw) (ho : o < nw) (hn1 : 1 ≤ n) (hn2 : n ≤ 30) (hV : V ≤ 9) (hZ : Z < 2 ^ nm) (hz : qk_okM lo hi nw nm X J g b V Sh i o Z = true) : qs_in nw nm lo hi (qt_cl lo hi nw nm i o (nI n) X Z g) H Z J (fun w => if w = i then n else Lf w) (fun w => if w = i then 0 else if (qs_on g w && qm_ch lo hi nm X Z w) = true then Sh w + 1 else Sh w) := by
  obtain ⟨h0, h1, h2, h3⟩ := hI
  have h8 := hok.1
  unfold qk_okM at hz
  rw [Bool.and_eq_true, Bool.and_eq_true, decide_eq_true_eq, Bool.not_eq_true', ← Bool.not_eq_true, qm_any_t] at hz
  obtain ⟨z1, z2, z3⟩ := hz
  have hw : ∀ x, x ≠ 1 → x ≠ 3 → x ≠ 4 → x ≠ 5 → x < 30 → x ≠ 6 + i → x ≠ 14 + i → x ≠ 22 + i → (x < 22 ∨ 22 + nw ≤ x) → qt_cl lo hi nw nm i o (nI n) X Z g x = g x := fun x a1 a3 a4 a5 a30 a6 a14 a22 a => by
    unfold qt_cl
    rw [qs_b_n a3, qs_u_n a22, qs_u_n a14, qs_u_n a6, qs_u_n a1, qt_tn_n a5 a30, qt_sf_n a4 nw a]
  have hon : ∀ w, w < 8 → w ≠ i → qs_on (qt_cl lo hi nw nm i o (nI n) X Z g) w = qs_on g w := fun w hw8 hwi => by
    unfold qs_on
    rw [hw (6 + w) (by omega) (by omega) (by omega) (by omega) (by omega) (by omega) (by omega) (by omega) (by omega)]
  refine ⟨?_, ⟨?_, hZ⟩, ?_, fun w hw8 hw1 => ?_⟩
  · rw [hw 0 (by omega) (by omega) (by omega) (by omega) (by omega) (by omega) (by omega) (by omega) (by omega)]; exact h0
  · unfold qt_cl
    rw [qs_b_n (by omega), qs_u_n (by omega), qs_u_n (by omega), qs_u_n (by omega), qs_u_s]
  · rw [hw 2 (by omega) (by omega) (by omega) (by omega) (by omega) (by omega) (by omega) (by omega) (by omega)]; exact h2
  · dsimp only
    by_cases e : w = i
    · subst e
      refine ⟨hi0, ?_, ⟨?_, ?_⟩, ?_, ?_⟩
      · rw [z2]
        unfold qt_cl
        rw [qs_b_n (by omega), qs_u_n (by omega), qs_u_n (by omega), qs_u_s]
      · unfold qt_cl
        rw [qs_b_n (by omega), qs_u_n (by omega), qs_u_s, if_pos rfl]
      · rw [if_pos rfl]; exact ⟨hn1, hn2⟩
      · unfold qt_cl
        rw [qs_b_n (by omega), qs_u_s, if_pos rfl]; rfl
      · rw [if_pos rfl]; omega
    · rw [hon w hw8 e] at hw1
      obtain ⟨g1, g2, g3, g4⟩ := h3 w hw8 hw1
      rw [hw (6 + w) (by omega) (by omega) (by omega) (by omega) (by omega) (by omega) (by omega) (by omega) (by omega), hw (14 + w) (by omega) (by omega) (by omega) (by omega) (by omega) (by omega) (by omega) (by omega) (by omega), if_neg e, if_neg e]
      have hnb : ¬ qk_bad lo hi nm X g b V Sh Z w = true := fun z => z3 ⟨w, g1, z⟩
      unfold qk_bad at hnb
      have e22 : qt_cl lo hi nw nm i o (nI n) X Z g (22 + w) = if (qs_on g w && qm_ch lo hi nm X Z w) = true then g (22 + w) + 1 else g (22 + w) := by
        unfold qt_cl
        rw [qs_b_n (by omega), qs_u_n (by omega), qs_u_n (by omega), qs_u_n (by omega), qs_u_n (by omega), qt_tn_n (by omega) (by omega), qt_sf_in nw g1]
      rw [e22]
      by_cases hc : qm_ch lo hi nm X Z w = true
      · rw [hw1, hc, Bool.true_and, Bool.true_and, Bool.or_eq_true, Bool.or_eq_true, decide_eq_true_eq, decide_eq_true_eq] at hnb
        have q1 : ¬ V ≤ Sh w := fun z => hnb (Or.inr (Or.inl z))
        have q2 : qm_wr lo hi Z w nm = qm_wr lo hi X w nm := Classical.byContradiction fun z => hnb (Or.inr (Or.inr z))
        rw [if_pos (by rw [hw1, hc]; rfl), if_pos (by rw [hw1, hc]; rfl), q2, g4.1, nI_1]
        exact ⟨g1, g2, g3, rfl, by omega⟩
      · rw [if_neg (by rw [hw1, Bool.true_and]; exact hc), if_neg (by rw [hw1, Bool.true_and]; exact hc), qm_ch_end hok X Z g1 hc]
        exact ⟨g1, g2, g3, g4⟩
/-! hours -/
theorem qt_ph_o {f : Nat → Int32} {j : Nat} : ∀ n, (∀ w, w < n → j ≠ 6 + w ∧ j ≠ 14 + w) → qt_ph f n j = f j
  | 0, _ => rfl
  | n + 1, h => by
    have ih := qt_ph_o (f := f) (j := j) n (fun w hw => h w (by omega))
    have := h n (by omega)
    show qt_p1 (qt_ph f n) n j = f j
    unfold qt_p1
    split
    · split
      · rw [qs_u_n this.1, qs_u_n this.2]; exact ih
      · rw [qs_u_n this.2]; exact ih
    · exact ih
theorem qt_ph_6 {f : Nat → Int32} {w : Nat} : ∀ n, w < n → n ≤ 8 → qt_ph f n (6 + w) = if qs_on f w = true ∧ f (14 + w) - 1 ≤ 0 then -1 else f (6 + w)
  | 0, h, _ => by omega
  | n + 1, h, h8 => by
    show qt_p1 (qt_ph f n) n (6 + w) = _
    have e6 : qt_ph f n (6 + n) = f (6 + n) := qt_ph_o n (fun w hw => by omega)
    have e14 : qt_ph f n (14 + n) = f (14 + n) := qt_ph_o n (fun w hw => by omega)
    have eon : qs_on (qt_ph f n) n = qs_on f n := by unfold qs_on; rw [e6]
    unfold qt_p1
    rw [eon, e14]
    by_cases e : w = n
    · subst e
      by_cases h1 : qs_on f w = true
      · rw [if_pos h1]
        by_cases h2 : f (14 + w) - 1 ≤ 0
        · rw [if_pos h2, if_pos ⟨h1, h2⟩, qs_u_s]
        · rw [if_neg h2, if_neg (fun q => h2 q.2), qs_u_n (by omega), e6]
      · rw [if_neg h1, if_neg (fun q => h1 q.1), e6]
    · have ih := qt_ph_6 (f := f) (w := w) n (by omega) (by omega)
      split
      · split
        · rw [qs_u_n (by omega), qs_u_n (by omega)]; exact ih
        · rw [qs_u_n (by omega)]; exact ih
      · exact ih
theorem qt_ph_14 {f : Nat → Int32} {w : Nat} : ∀ n, w < n → n ≤ 8 → qt_ph f n (14 + w) = if qs_on f w = true then f (14 + w) - 1 else f (14 + w)
  | 0, h, _ => by omega
  | n + 1, h, h8 => by
    show qt_p1 (qt_ph f n) n (14 + w) = _
    have e6 : qt_ph f n (6 + n) = f (6 + n) := qt_ph_o n (fun w hw => by omega)
    have e14 : qt_ph f n (14 + n) = f (14 + n) := qt_ph_o n (fun w hw => by omega)
    have eon : qs_on (qt_ph f n) n = qs_on f n := by unfold qs_on; rw [e6]
    unfold qt_p1
    rw [eon, e14]
    by_cases e : w = n
    · subst e
      by_cases h1 : qs_on f w = true
      · rw [if_pos h1, if_pos h1]
        split
        · rw [qs_u_n (by omega), qs_u_s]
        · rw [qs_u_s]
      · rw [if_neg h1, if_neg h1, e14]
    · have ih := qt_ph_14 (f := f) (w := w) n (by omega) (by omega)
      split
      · split
        · rw [qs_u_n (by omega), qs_u_n (by omega)]; exact ih
        · rw [qs_u_n (by omega)]; exact ih
      · exact ih
theorem qt_mh_o {f : Nat → Int32} {j : Nat} : ∀ n, (∀ w, w < n → j ≠ 6 + w ∧ j ≠ 14 + w ∧ j ≠ 22 + w) → qt_mh f n j = f j
  | 0, _ => rfl
  | n + 1, h => by
    have ih := qt_mh_o (f := f) (j := j) n (fun w hw => h w (by omega))
    have := h n (by omega)
    show qt_m1 (qt_mh f n) n j = f j
    unfold qt_m1 qt_me
    split
    · split
      · rw [qs_u_n this.2.2, qs_u_n this.2.1, qs_u_n this.1, qs_u_n this.2.1]; exact ih
      · rw [qs_u_n this.2.1]; exact ih
    · exact ih
/-- the three places of a wire behind an hour -/
theorem qt_mh_w {f : Nat → Int32} {w : Nat} : ∀ n, w < n → n ≤ 8 → qt_mh f n (6 + w) = (if qs_on f w = true ∧ f (14 + w) - 1 = 0 then -1 else f (6 + w)) ∧ qt_mh f n (14 + w) = (if qs_on f w = true then f (14 + w) - 1 else f (14 + w)) ∧ qt_mh f n (22 + w) = (if qs_on f w = true ∧ f (14 + w) - 1 = 0 then 0 else f (22 + w))
  | 0, h, _ => by omega
  | n + 1, h, h8 => by
    show qt_m1 (qt_mh f n) n (6 + w) = _ ∧ qt_m1 (qt_mh f n) n (14 + w) = _ ∧ qt_m1 (qt_mh f n) n (22 + w) = _
    have e6 : qt_mh f n (6 + n) = f (6 + n) := qt_mh_o n (fun w hw => by omega)
    have e14 : qt_mh f n (14 + n) = f (14 + n) := qt_mh_o n (fun w hw => by omega)
    have e22 : qt_mh f n (22 + n) = f (22 + n) := qt_mh_o n (fun w hw => by omega)
    have eon : qs_on (qt_mh f n) n = qs_on f n := by unfold qs_on; rw [e6]
    unfold qt_m1 qt_me
    rw [eon, e14]
    by_cases e : w = n
    · subst e
      by_cases h1 : qs_on f w = true
      · by_cases h2 : f (14 + w) - 1 = 0
        · rw [if_pos h1, if_pos h2, if_pos ⟨h1, h2⟩, if_pos h1, if_pos ⟨h1, h2⟩, qs_u_n (by omega), qs_u_n (by omega), qs_u_s, qs_u_n (by omega), qs_u_s, qs_u_s, h2]
          exact ⟨rfl, rfl, rfl⟩
        · rw [if_pos h1, if_neg h2, if_neg (fun q => h2 q.2), if_pos h1, if_neg (fun q => h2 q.2), qs_u_n (by omega), qs_u_s, qs_u_n (by omega), e6, e22]
          exact ⟨rfl, rfl, rfl⟩
      · rw [if_neg h1, if_neg (fun q => h1 q.1), if_neg h1, if_neg (fun q => h1 q.1), e6, e14, e22]
        exact ⟨rfl, rfl, rfl⟩
    · have ih := qt_mh_w (f := f) (w := w) n (by omega) (by omega)
      split
      · split
        · rw [qs_u_n (by omega), qs_u_n (by omega), qs_u_n (by omega), qs_u_n (by omega), qs_u_n (by omega), qs_u_n (by omega), qs_u_n (by omega), qs_u_n (by omega), qs_u_n (by omega), qs_u_n (by omega), qs_u_n (by omega), qs_u_n (by omega)]
          exact ih
        · rw [qs_u_n (by omega), qs_u_n (by omega), qs_u_n (by omega)]; exact ih
      · exact ih
theorem qt_hour {nw nm : Nat} {lo hi : Nat → Nat} (h8 : nw ≤ 8) {f g : Nat → Int32} (hR : qs_R f g) {H X J : Nat} {Lf Sh : Nat → Nat} (hI : qs_in nw nm lo hi g H X J Lf Sh) (hH : H + 1 ≤ 400) : qs_R (qs_b (qt_ph f 8) 0) (qs_b (qt_mh g nw) 0) ∧ qs_in nw nm lo hi (qs_b (qt_mh g nw) 0) (H + 1) X J (fun w => Lf w - 1) Sh := by
  obtain ⟨h0, h1, h2, h3⟩ := hI
  have eo : ∀ j, j < 6 ∨ 30 ≤ j → qt_mh g nw j = g j := fun j hj => qt_mh_o nw (fun w hw => by omega)
  have ef : ∀ j, j < 6 ∨ 22 ≤ j → qt_ph f 8 j = f j := fun j hj => qt_ph_o 8 (fun w hw => by omega)
  have hoff : ∀ w, w < 8 → ¬ w < nw → ¬ qs_on g w = true := fun w hw hn hon => hn (h3 w hw hon).1
  -- wire by wire
  have hm : ∀ w, w < 8 → qt_mh g nw (6 + w) = (if qs_on g w = true ∧ g (14 + w) - 1 = 0 then -1 else g (6 + w)) ∧ qt_mh g nw (14 + w) = (if qs_on g w = true then g (14 + w) - 1 else g (14 + w)) ∧ qt_mh g nw (22 + w) = (if qs_on g w = true ∧ g (14 + w) - 1 = 0 then 0 else g (22 + w)) := fun w hw => by
    by_cases hn : w < nw
    · exact qt_mh_w nw hn h8
    · have := hoff w hw hn
      rw [if_neg (fun q => this q.1), if_neg this, if_neg (fun q => this q.1)]
      exact ⟨qt_mh_o nw (fun x hx => by omega), qt_mh_o nw (fun x hx => by omega), qt_mh_o nw (fun x hx => by omega)⟩
  have hl : ∀ w, w < 8 → qs_on g w = true → g (14 + w) - 1 = nI (Lf w - 1) ∧ (g (14 + w) - 1 ≤ 0 ↔ Lf w = 1) ∧ (g (14 + w) - 1 = 0 ↔ Lf w = 1) := fun w hw hon => by
    obtain ⟨g1, g2, ⟨g3, g4, g5⟩, g6⟩ := h3 w hw hon
    have e1 : g (14 + w) - 1 = nI (Lf w - 1) := by
      rw [g3]
      obtain ⟨m, hm⟩ : ∃ m, Lf w = m + 1 := ⟨Lf w - 1, by omega⟩
      rw [hm, nI_pred]
      rfl
    refine ⟨e1, ?_, ?_⟩
    · rw [e1, show (0 : Int32) = nI 0 from rfl, nI_leI (by omega) (by decide)]; omega
    · rw [e1, show (0 : Int32) = nI 0 from rfl, nI_eq (by omega) (by decide)]; omega
  have h6 : ∀ w, w < 8 → qt_ph f 8 (6 + w) = qt_mh g nw (6 + w) := fun w hw => by
    rw [qt_ph_6 8 hw (Nat.le_refl _), (hm w hw).1, hR.on hw, hR.1 (6 + w) (by omega) (by omega)]
    by_cases hon : qs_on g w = true
    · obtain ⟨a1, a2, a3⟩ := hl w hw hon
      rw [(hR.2 w hw hon).1]
      by_cases z : Lf w = 1
      · rw [if_pos ⟨hon, a2.mpr z⟩, if_pos ⟨hon, a3.mpr z⟩]
      · rw [if_neg (fun q => z (a2.mp q.2)), if_neg (fun q => z (a3.mp q.2))]
    · rw [if_neg (fun q => hon q.1), if_neg (fun q => hon q.1)]
  have honm : ∀ w, w < 8 → qs_on (qs_b (qt_mh g nw) 0) w = true → qs_on g w = true ∧ ¬ g (14 + w) - 1 = 0 := fun w hw hon => by
    rw [qs_on_b (by omega)] at hon
    have hg : qs_on g w = true := Classical.byContradiction fun z => by
      unfold qs_on at hon z
      rw [(hm w hw).1, if_neg (fun q => z q.1)] at hon
      exact z hon
    refine ⟨hg, fun z => ?_⟩
    unfold qs_on at hon
    rw [(hm w hw).1, if_pos ⟨hg, z⟩] at hon
    exact absurd (of_decide_eq_true hon) (fun q => q rfl)
  refine ⟨⟨fun j h4 h5 => ?_, fun w hw hon => ?_⟩, ?_, ?_, ?_, fun w hw hon => ?_⟩
  · by_cases j0 : j = 0
    · subst j0
      rw [qs_b_s, qs_b_s, ef 0 (by omega), eo 0 (by omega), hR.1 0 (by omega) (by omega)]
    · rw [qs_b_n j0, qs_b_n j0]
      by_cases j6 : 6 ≤ j ∧ j < 14
      · have := h6 (j - 6) (by omega)
        rw [show 6 + (j - 6) = j by omega] at this
        exact this
      · rw [ef j (by omega), eo j (by omega), hR.1 j h4 h5]
  · obtain ⟨hg, hz⟩ := honm w hw hon
    rw [qs_b_n (by omega), qs_b_n (by omega), qs_b_n (by omega), qs_b_n (by omega), qt_ph_14 8 hw (Nat.le_refl _), (hm w hw).2.1, (hm w hw).2.2, ef (22 + w) (by omega), hR.on hw, if_pos hg, if_pos hg, if_neg (fun q => hz q.2), (hR.2 w hw hg).1, (hR.2 w hw hg).2]
    exact ⟨rfl, rfl⟩
  · rw [qs_b_s, eo 0 (by omega), h0.1, nI_1]
    exact ⟨rfl, hH⟩
  · rw [qs_b_n (by omega), eo 1 (by omega)]; exact h1
  · rw [qs_b_n (by omega), eo 2 (by omega)]; exact h2
  · dsimp only
    obtain ⟨hg, hz⟩ := honm w hw hon
    obtain ⟨g1, g2, ⟨g3, g4, g5⟩, g6⟩ := h3 w hw hg
    obtain ⟨a1, a2, a3⟩ := hl w hw hg
    rw [qs_b_n (by omega), qs_b_n (by omega), qs_b_n (by omega), (hm w hw).1, (hm w hw).2.1, (hm w hw).2.2, if_neg (fun q => hz q.2), if_pos hg, if_neg (fun q => hz q.2)]
    have : ¬ Lf w = 1 := fun z => hz (a3.mpr z)
    exact ⟨g1, g2, ⟨a1, by omega, by omega⟩, g6⟩
theorem qt_hours {nw nm : Nat} {lo hi : Nat → Nat} (h8 : nw ≤ 8) {f g : Nat → Int32} (hR : qs_R f g) {H X J : Nat} {Lf Sh : Nat → Nat} (hI : qs_in nw nm lo hi g H X J Lf Sh) : ∀ n, H + n ≤ 400 → qs_R (qt_hs f n) (qt_ms g nw n) ∧ ∃ Lf', qs_in nw nm lo hi (qt_ms g nw n) (H + n) X J Lf' Sh
  | 0, _ => ⟨hR, Lf, hI⟩
  | n + 1, hn => by
    obtain ⟨h1, Lf', h2⟩ := qt_hours h8 hR hI n (by omega)
    obtain ⟨g1, g2⟩ := qt_hour h8 h1 h2 (by omega)
    exact ⟨g1, _, g2⟩

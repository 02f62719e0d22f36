/-! frames by place -/
def qG (P : Nat → Nat → Prop) (s t : qb_M) : Prop := ∀ x k, ¬ P x k → t.1 x k = s.1 x k ∧ t.2.1 x k = s.2.1 x k ∧ t.2.2 x k = s.2.2 x k
theorem qG.rf {P : Nat → Nat → Prop} {s : qb_M} : qG P s s := fun _ _ _ => ⟨rfl, rfl, rfl⟩
theorem qG.tr {P : Nat → Nat → Prop} {s t u : qb_M} (h1 : qG P s t) (h2 : qG P t u) : qG P s u := fun x k hx => ⟨(h2 x k hx).1.trans (h1 x k hx).1, (h2 x k hx).2.1.trans (h1 x k hx).2.1, (h2 x k hx).2.2.trans (h1 x k hx).2.2⟩
theorem qG.mo {P Q : Nat → Nat → Prop} {s t : qb_M} (h : qG P s t) (hpq : ∀ x k, P x k → Q x k) : qG Q s t := fun x k hx => h x k (fun z => hx (hpq x k z))
theorem qG.ui {P : Nat → Nat → Prop} {s t : qb_M} {x k : Nat} {v : Int32} (h : qG P s t) (hx : P x k) : qG P s (qb_ui t x k v) := fun y j hy => ⟨(qb_ui_1n (by
  by_cases e : y = x
  · right; intro z; subst e; subst z; exact hy hx
  · exact Or.inl e)).trans (h y j hy).1, (h y j hy).2.1, (h y j hy).2.2⟩
theorem qG.ul {P : Nat → Nat → Prop} {s t : qb_M} {x k : Nat} {v : Int64} (h : qG P s t) (hx : P x k) : qG P s (qb_ul t x k v) := fun y j hy => ⟨(h y j hy).1, (qb_ul_1n (by
  by_cases e : y = x
  · right; intro z; subst e; subst z; exact hy hx
  · exact Or.inl e)).trans (h y j hy).2.1, (h y j hy).2.2⟩
theorem qG.up {P : Nat → Nat → Prop} {s t : qb_M} {x k : Nat} {v : Option Nat} (h : qG P s t) (hx : P x k) : qG P s (qb_up t x k v) := fun y j hy => ⟨(h y j hy).1, (h y j hy).2.1, (show qb_u t.2.2 x k v y j = _ from by
  by_cases e : y = x
  · exact qb_u_k (fun z => hy (by rw [e, z]; exact hx))
  · exact qb_u_a e).trans (h y j hy).2.2⟩
theorem qG.wr {P : Nat → Nat → Prop} {s t : qb_M} {x i n : Nat} {g : Nat → Int32} (h : qG P s t) (hx : ∀ k, i ≤ k → k < i + n → P x k) : qG P s (qb_wr t x i n g) := fun y j hy => ⟨(qb_wr_o (by
  by_cases e : y = x
  · right
    rcases Nat.lt_or_ge j i with z | z
    · exact Or.inl z
    · rcases Nat.lt_or_ge j (i + n) with z2 | z2
      · exact absurd (hx j z z2) (by rw [← e]; exact hy)
      · exact Or.inr z2
  · exact Or.inl e)).trans (h y j hy).1, (h y j hy).2.1, (h y j hy).2.2⟩
theorem qG.wl {P : Nat → Nat → Prop} {s t : qb_M} {x i n : Nat} {g : Nat → Int64} (h : qG P s t) (hx : ∀ k, i ≤ k → k < i + n → P x k) : qG P s (qb_wl t x i n g) := fun y j hy => ⟨(h y j hy).1, (qb_wl_o (by
  by_cases e : y = x
  · right
    rcases Nat.lt_or_ge j i with z | z
    · exact Or.inl z
    · rcases Nat.lt_or_ge j (i + n) with z2 | z2
      · exact absurd (hx j z z2) (by rw [← e]; exact hy)
      · exact Or.inr z2
  · exact Or.inl e)).trans (h y j hy).2.1, (h y j hy).2.2⟩
theorem qG.i {P : Nat → Nat → Prop} {s t : qb_M} (h : qG P s t) {x k : Nat} (hx : ¬ P x k) : t.1 x k = s.1 x k := (h x k hx).1
theorem qG.l {P : Nat → Nat → Prop} {s t : qb_M} (h : qG P s t) {x k : Nat} (hx : ¬ P x k) : t.2.1 x k = s.2.1 x k := (h x k hx).2.1
theorem qG.p {P : Nat → Nat → Prop} {s t : qb_M} (h : qG P s t) {x k : Nat} (hx : ¬ P x k) : t.2.2 x k = s.2.2 x k := (h x k hx).2.2
theorem qF.G {P : Nat → Prop} {s t : qb_M} (h : qF P s t) : qG (fun x _ => P x) s t := fun x k hx => ⟨h.i hx, h.l hx, h.p hx⟩
theorem qG.F {P : Nat → Prop} {s t : qb_M} (h : qG (fun x _ => P x) s t) : qF P s t := fun x hx => ⟨funext fun k => h.i hx, funext fun k => h.l hx, funext fun k => h.p hx⟩
/-! what is so, by forty places: written place by place -/
def qs_u (f : Nat → Int32) (k : Nat) (v : Int32) : Nat → Int32 := fun j => if j = k then v else f j
theorem qs_u_s {f : Nat → Int32} {k : Nat} {v : Int32} : qs_u f k v k = v := if_pos rfl
theorem qs_u_n {f : Nat → Int32} {k j : Nat} {v : Int32} (h : j ≠ k) : qs_u f k v j = f j := if_neg h
def qs_b (f : Nat → Int32) (k : Nat) : Nat → Int32 := qs_u f k (f k + 1)
theorem qs_b_s {f : Nat → Int32} {k : Nat} : qs_b f k k = f k + 1 := qs_u_s
theorem qs_b_n {f : Nat → Int32} {k j : Nat} (h : j ≠ k) : qs_b f k j = f j := qs_u_n h
theorem qm_so_u {s : qb_M} {k : Nat} {v : Int32} : qm_so (qb_ui s 194 (30 + k) v) = qs_u (qm_so s) k v := by
  funext j
  unfold qm_so qs_u
  by_cases e : j = k
  · subst e; rw [if_pos rfl, qb_ui_1s]
  · rw [if_neg e, qb_ui_1n (Or.inr (by omega))]
theorem qs_so_eq {s t : qb_M} {a j : Nat} (h0 : j < 6 → t.1 a (4 + j) = s.1 a (4 + j)) (h1 : 6 ≤ j → j < 14 → t.1 (a + 1) (j - 6) = s.1 (a + 1) (j - 6)) (h2 : 14 ≤ j → j < 22 → t.1 (a + 2) (j - 14) = s.1 (a + 2) (j - 14)) (h3 : 22 ≤ j → j < 30 → t.1 (a + 3) (j - 22) = s.1 (a + 3) (j - 22)) (h4 : 30 ≤ j → t.1 (a + 4) (j - 30) = s.1 (a + 4) (j - 30)) : qs_so t a j = qs_so s a j := by
  unfold qs_so
  by_cases c1 : j < 6
  · rw [if_pos c1, if_pos c1]; exact h0 c1
  rw [if_neg c1, if_neg c1]
  by_cases c2 : j < 14
  · rw [if_pos c2, if_pos c2]; exact h1 (by omega) c2
  rw [if_neg c2, if_neg c2]
  by_cases c3 : j < 22
  · rw [if_pos c3, if_pos c3]; exact h2 (by omega) c3
  rw [if_neg c3, if_neg c3]
  by_cases c4 : j < 30
  · rw [if_pos c4, if_pos c4]; exact h3 (by omega) c4
  rw [if_neg c4, if_neg c4]
  exact h4 (by omega)
theorem qs_so_uh {s : qb_M} {a k : Nat} {v : Int32} (hk : k < 6) : qs_so (qb_ui s a (4 + k) v) a = qs_u (qs_so s a) k v := by
  funext j
  unfold qs_u
  by_cases e : j = k
  · subst e
    rw [if_pos rfl, qs_so_h hk, qb_ui_1s]
  · rw [if_neg e]
    exact qs_so_eq (fun h => qb_ui_1n (by omega)) (fun h h2 => qb_ui_1n (by omega)) (fun h h2 => qb_ui_1n (by omega)) (fun h h2 => qb_ui_1n (by omega)) (fun h => qb_ui_1n (by omega))
theorem qs_so_uo {s : qb_M} {a w : Nat} {v : Int32} (hw : w < 8) : qs_so (qb_ui s (a + 1) w v) a = qs_u (qs_so s a) (6 + w) v := by
  funext j
  unfold qs_u
  by_cases e : j = (6 + w)
  · subst e
    rw [if_pos rfl, qs_so_o hw, qb_ui_1s]
  · rw [if_neg e]
    exact qs_so_eq (fun h => qb_ui_1n (by omega)) (fun h h2 => qb_ui_1n (by omega)) (fun h h2 => qb_ui_1n (by omega)) (fun h h2 => qb_ui_1n (by omega)) (fun h => qb_ui_1n (by omega))
theorem qs_so_ul {s : qb_M} {a w : Nat} {v : Int32} (hw : w < 8) : qs_so (qb_ui s (a + 2) w v) a = qs_u (qs_so s a) (14 + w) v := by
  funext j
  unfold qs_u
  by_cases e : j = (14 + w)
  · subst e
    rw [if_pos rfl, qs_so_l hw, qb_ui_1s]
  · rw [if_neg e]
    exact qs_so_eq (fun h => qb_ui_1n (by omega)) (fun h h2 => qb_ui_1n (by omega)) (fun h h2 => qb_ui_1n (by omega)) (fun h h2 => qb_ui_1n (by omega)) (fun h => qb_ui_1n (by omega))
theorem qs_so_us {s : qb_M} {a w : Nat} {v : Int32} (hw : w < 8) : qs_so (qb_ui s (a + 3) w v) a = qs_u (qs_so s a) (22 + w) v := by
  funext j
  unfold qs_u
  by_cases e : j = (22 + w)
  · subst e
    rw [if_pos rfl, qs_so_s hw, qb_ui_1s]
  · rw [if_neg e]
    exact qs_so_eq (fun h => qb_ui_1n (by omega)) (fun h h2 => qb_ui_1n (by omega)) (fun h h2 => qb_ui_1n (by omega)) (fun h h2 => qb_ui_1n (by omega)) (fun h => qb_ui_1n (by omega))
theorem qs_so_ut {s : qb_M} {a k : Nat} {v : Int32} : qs_so (qb_ui s (a + 4) k v) a = qs_u (qs_so s a) (30 + k) v := by
  funext j
  unfold qs_u
  by_cases e : j = (30 + k)
  · subst e
    rw [if_pos rfl, qs_so_t, qb_ui_1s]
  · rw [if_neg e]
    exact qs_so_eq (fun h => qb_ui_1n (by omega)) (fun h h2 => qb_ui_1n (by omega)) (fun h h2 => qb_ui_1n (by omega)) (fun h h2 => qb_ui_1n (by omega)) (fun h => qb_ui_1n (by omega))
theorem qs_on_u {f : Nat → Int32} {k : Nat} {v : Int32} {w : Nat} (h : 6 + w ≠ k) : qs_on (qs_u f k v) w = qs_on f w := by
  unfold qs_on
  rw [qs_u_n h]
theorem qs_on_b {f : Nat → Int32} {k w : Nat} (h : 6 + w ≠ k) : qs_on (qs_b f k) w = qs_on f w := qs_on_u h
/-! one and the other: alike but for what is left and shifted where no call is -/
def qs_R (f g : Nat → Int32) : Prop := (∀ k, k < 40 → (k < 14 ∨ 30 ≤ k) → f k = g k) ∧ ∀ w, w < 8 → qs_on g w = true → f (14 + w) = g (14 + w) ∧ f (22 + w) = g (22 + w)
theorem qs_R.on {f g : Nat → Int32} (h : qs_R f g) {w : Nat} (hw : w < 8) : qs_on f w = qs_on g w := by
  unfold qs_on
  rw [h.1 (6 + w) (by omega) (by omega)]
theorem qs_R.u {f g : Nat → Int32} (h : qs_R f g) {k : Nat} {v : Int32} (hk : k < 6 ∨ 14 ≤ k) : qs_R (qs_u f k v) (qs_u g k v) := by
  refine ⟨fun j h1 h2 => ?_, fun w hw hon => ?_⟩
  · unfold qs_u
    split
    · rfl
    · exact h.1 j h1 h2
  · rw [qs_on_u (by omega)] at hon
    have := h.2 w hw hon
    unfold qs_u
    constructor
    · split
      · rfl
      · exact this.1
    · split
      · rfl
      · exact this.2
theorem qs_R.b {f g : Nat → Int32} (h : qs_R f g) {k : Nat} (hk : k < 6 ∨ 30 ≤ k ∧ k < 40) : qs_R (qs_b f k) (qs_b g k) := by
  unfold qs_b
  rw [h.1 k (by omega) (by omega)]
  exact h.u (by omega)
theorem qs_R.bs {f g : Nat → Int32} (h : qs_R f g) {w : Nat} (hw : w < 8) (hon : qs_on g w = true) : qs_R (qs_b f (22 + w)) (qs_b g (22 + w)) := by
  unfold qs_b
  rw [(h.2 w hw hon).2]
  exact h.u (by omega)
theorem qs_R.at {f g : Nat → Int32} (h : qs_R f g) : ∀ n, n ≤ 8 → qs_at f n = qs_at g n
  | 0, _ => rfl
  | n + 1, hn => by
    unfold qs_at
    rw [h.at n (by omega), h.on (by omega), h.1 (6 + n) (by omega) (by omega)]
theorem qs_R.bz {f g : Nat → Int32} (h : qs_R f g) {i o : Nat} (hi : i < 8) : qs_bz f i o = qs_bz g i o := by
  unfold qs_bz
  rw [h.on hi, h.at 8 (Nat.le_refl _)]
theorem qs_R.up {f g : Nat → Int32} (h : qs_R f g) : qs_up f = qs_up g := qm_ac_cong (fun k hk => h.on hk)
theorem qs_R.in {f g : Nat → Int32} (h : qs_R f g) {nw nm H X J : Nat} {lo hi Lf Sh : Nat → Nat} (hI : qs_in nw nm lo hi g H X J Lf Sh) : qs_in nw nm lo hi f H X J Lf Sh := by
  obtain ⟨h0, h1, h2, h3⟩ := hI
  unfold qs_in
  rw [h.1 0 (by omega) (by omega), h.1 1 (by omega) (by omega), h.1 2 (by omega) (by omega)]
  refine ⟨h0, h1, h2, fun w hw hon => ?_⟩
  rw [h.on hw] at hon
  rw [h.1 (6 + w) (by omega) (by omega), (h.2 w hw hon).1, (h.2 w hw hon).2]
  exact h3 w hw hon
theorem qs_R.rf {f : Nat → Int32} : qs_R f f := ⟨fun _ _ _ => rfl, fun _ _ _ => ⟨rfl, rfl⟩⟩
/-! the acts, place by place -/
def qt_sf (p : Nat → Bool) (f : Nat → Int32) : Nat → Nat → Int32
  | 0 => f
  | c + 1 => if p c = true then qs_b (qs_b (qt_sf p f c) (22 + c)) 4 else qt_sf p f c
def qt_tn (D : Nat) (f : Nat → Int32) : Nat → Nat → Int32
  | 0 => f
  | k + 1 => if D.testBit k = true then qs_b (qs_b (qt_tn D f k) (30 + k)) 5 else qt_tn D f k
theorem qt_sf_n {p : Nat → Bool} {f : Nat → Int32} {j : Nat} (h4 : j ≠ 4) : ∀ n, (j < 22 ∨ 22 + n ≤ j) → qt_sf p f n j = f j
  | 0, _ => rfl
  | n + 1, h => by
    unfold qt_sf
    split
    · rw [qs_b_n h4, qs_b_n (by omega)]
      exact qt_sf_n h4 n (by omega)
    · exact qt_sf_n h4 n (by omega)
theorem qt_sf_in {p : Nat → Bool} {f : Nat → Int32} {c : Nat} : ∀ n, c < n → qt_sf p f n (22 + c) = if p c = true then f (22 + c) + 1 else f (22 + c)
  | 0, h => by omega
  | n + 1, h => by
    unfold qt_sf
    by_cases e : c = n
    · subst e
      split
      · rw [qs_b_n (by omega), qs_b_s, qt_sf_n (by omega) c (by omega)]
      · exact qt_sf_n (by omega) c (by omega)
    · split
      · rw [qs_b_n (by omega), qs_b_n (by omega)]
        exact qt_sf_in n (by omega)
      · exact qt_sf_in n (by omega)
theorem qt_sf_on {p : Nat → Bool} {f : Nat → Int32} {n w : Nat} (hw : w < 8) : qs_on (qt_sf p f n) w = qs_on f w := by
  unfold qs_on
  rw [qt_sf_n (by omega) n (by omega)]
theorem qt_tn_n {D : Nat} {f : Nat → Int32} {j : Nat} (h4 : j ≠ 5) (h3 : j < 30) : ∀ n, qt_tn D f n j = f j
  | 0 => rfl
  | n + 1 => by
    unfold qt_tn
    split
    · rw [qs_b_n h4, qs_b_n (by omega)]
      exact qt_tn_n h4 h3 n
    · exact qt_tn_n h4 h3 n
theorem qt_tn_on {D : Nat} {f : Nat → Int32} {n w : Nat} (hw : w < 8) : qs_on (qt_tn D f n) w = qs_on f w := by
  unfold qs_on
  rw [qt_tn_n (by omega) (by omega) n]
theorem qt_tn_more {D m : Nat} {f : Nat → Int32} (hD : D < 2 ^ m) : ∀ n, qt_tn D f (m + n) = qt_tn D f m
  | 0 => rfl
  | n + 1 => by
    show (if D.testBit (m + n) = true then _ else qt_tn D f (m + n)) = _
    rw [if_neg, qt_tn_more hD n]
    rw [Nat.testBit_lt_two_pow (Nat.lt_of_lt_of_le hD (Nat.pow_le_pow_right (by decide) (by omega)))]
    decide
theorem qs_R.sf {f g : Nat → Int32} (h : qs_R f g) {p q : Nat → Bool} : ∀ n, n ≤ 8 → (∀ c, c < n → p c = q c ∧ (q c = true → qs_on g c = true)) → qs_R (qt_sf p f n) (qt_sf q g n)
  | 0, _, _ => h
  | n + 1, hn, hp => by
    have ih := qs_R.sf h n (by omega) (fun c hc => hp c (by omega))
    unfold qt_sf
    rw [(hp n (by omega)).1]
    split
    · refine (ih.bs (by omega) ?_).b (by omega)
      rw [qt_sf_on (by omega)]
      exact (hp n (by omega)).2 (by assumption)
    · exact ih
theorem qs_R.tn {f g : Nat → Int32} (h : qs_R f g) {D : Nat} : ∀ n, n ≤ 10 → qs_R (qt_tn D f n) (qt_tn D g n)
  | 0, _ => h
  | n + 1, hn => by
    have ih := qs_R.tn h (D := D) n (by omega)
    unfold qt_tn
    split
    · exact (ih.b (by omega)).b (by omega)
    · exact ih
/-- a call put through -/
def qt_cl (lo hi : Nat → Nat) (nw nm i o : Nat) (n : Int32) (X Z : Nat) (f : Nat → Int32) : Nat → Int32 := qs_b (qs_u (qs_u (qs_u (qs_u (qt_tn (X ^^^ Z) (qt_sf (fun c => qs_on f c && qm_ch lo hi nm X Z c) f nw) nm) 1 (nI Z)) (6 + i) (nI o)) (14 + i) n) (22 + i) 0) 3
theorem qs_R.uo {f g : Nat → Int32} (h : qs_R f g) {i : Nat} {o n : Int32} (hi : i < 8) : qs_R (qs_u (qs_u (qs_u f (6 + i) o) (14 + i) n) (22 + i) 0) (qs_u (qs_u (qs_u g (6 + i) o) (14 + i) n) (22 + i) 0) := by
  refine ⟨fun j h1 h2 => ?_, fun w hw hon => ?_⟩
  · have e1 : ∀ F, qs_u (qs_u (qs_u F (6 + i) o) (14 + i) n) (22 + i) 0 j = qs_u F (6 + i) o j := fun F => by rw [qs_u_n (by omega), qs_u_n (by omega)]
    rw [e1, e1]
    unfold qs_u
    split
    · rfl
    · exact h.1 j h1 h2
  · by_cases e : w = i
    · subst e
      rw [qs_u_n (by omega), qs_u_s, qs_u_n (by omega), qs_u_s, qs_u_s, qs_u_s]
      exact ⟨rfl, rfl⟩
    · rw [qs_on_u (by omega), qs_on_u (by omega), qs_on_u (by omega)] at hon
      rw [qs_u_n (by omega), qs_u_n (by omega), qs_u_n (by omega), qs_u_n (by omega), qs_u_n (by omega), qs_u_n (by omega), qs_u_n (by omega), qs_u_n (by omega), qs_u_n (by omega), qs_u_n (by omega), qs_u_n (by omega), qs_u_n (by omega)]
      exact h.2 w hw hon
theorem qs_R.cl {f g : Nat → Int32} (h : qs_R f g) {lo hi : Nat → Nat} {nw nm i o X Z : Nat} {n : Int32} (hw : nw ≤ 8) (hm : nm ≤ 10) (hi8 : i < 8) : qs_R (qt_cl lo hi nw nm i o n X Z f) (qt_cl lo hi nw nm i o n X Z g) := by
  unfold qt_cl
  refine qs_R.b (qs_R.uo (qs_R.u (qs_R.tn (qs_R.sf h nw hw (fun c hc => ⟨by rw [h.on (by omega)], fun z => by rw [Bool.and_eq_true] at z; exact z.1⟩)) nm hm) (by omega)) hi8) (by omega)

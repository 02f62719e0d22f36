/-! MEMORY: what the cells hold, by address and place; the shapes stay -/
abbrev qb_M : Type := (Nat → Nat → Int32) × (Nat → Nat → Int64) × (Nat → Nat → Option Nat)
abbrev qb_S : Type := (Nat × Nat) ⊕ (Nat × List (Nat × Nat))
def qb_s0 : List qb_S := [.inr (10, [(2, 65), (2, 67), (2, 73), (2, 78), (2, 83), (2, 125), (2, 129), (2, 133), (2, 139), (2, 145), (2, 150), (2, 155), (2, 190), (2, 191), (0, 0), (0, 0), (0, 0), (0, 0)]), .inr (9, [(2, 66), (0, 0), (0, 0), (0, 0), (0, 0), (0, 0), (0, 0), (0, 0), (0, 0), (1, 0), (3, 0)]), .inl (0, 940), .inr (4, [(2, 68), (2, 69), (2, 70), (2, 71), (2, 72), (0, 0), (0, 0), (0, 0), (0, 0), (0, 0), (0, 0), (0, 0), (0, 0)]), .inl (0, 10), .inl (0, 10), .inl (1, 10), .inl (1, 5), .inl (0, 5), .inr (6, [(2, 74), (2, 75), (2, 76), (2, 77), (0, 0), (0, 0), (0, 0), (0, 0), (0, 0), (0, 0)]), .inl (0, 8), .inl (0, 8), .inl (0, 8), .inl (0, 10), .inr (5, [(2, 79), (2, 80), (2, 81), (2, 82), (0, 0), (0, 0)]), .inl (5, 40), .inl (0, 40), .inl (0, 40), .inl (0, 40), .inr (3, [(2, 84), (0, 0), (0, 0)]), .inl (3, 8), .inr (6, [(2, 86), (2, 87), (2, 88), (2, 89), (0, 0), (0, 0), (0, 0), (0, 0), (0, 0), (0, 0)]), .inl (0, 8), .inl (0, 8), .inl (0, 8), .inl (0, 10), .inr (6, [(2, 91), (2, 92), (2, 93), (2, 94), (0, 0), (0, 0), (0, 0), (0, 0), (0, 0), (0, 0)]), .inl (0, 8), .inl (0, 8), .inl (0, 8), .inl (0, 10), .inr (6, [(2, 96), (2, 97), (2, 98), (2, 99), (0, 0), (0, 0), (0, 0), (0, 0), (0, 0), (0, 0)])]
def qb_s1 : List qb_S := [.inl (0, 8), .inl (0, 8), .inl (0, 8), .inl (0, 10), .inr (6, [(2, 101), (2, 102), (2, 103), (2, 104), (0, 0), (0, 0), (0, 0), (0, 0), (0, 0), (0, 0)]), .inl (0, 8), .inl (0, 8), .inl (0, 8), .inl (0, 10), .inr (6, [(2, 106), (2, 107), (2, 108), (2, 109), (0, 0), (0, 0), (0, 0), (0, 0), (0, 0), (0, 0)]), .inl (0, 8), .inl (0, 8), .inl (0, 8), .inl (0, 10), .inr (6, [(2, 111), (2, 112), (2, 113), (2, 114), (0, 0), (0, 0), (0, 0), (0, 0), (0, 0), (0, 0)]), .inl (0, 8), .inl (0, 8), .inl (0, 8), .inl (0, 10), .inr (6, [(2, 116), (2, 117), (2, 118), (2, 119), (0, 0), (0, 0), (0, 0), (0, 0), (0, 0), (0, 0)]), .inl (0, 8), .inl (0, 8), .inl (0, 8), .inl (0, 10), .inr (6, [(2, 121), (2, 122), (2, 123), (2, 124), (0, 0), (0, 0), (0, 0), (0, 0), (0, 0), (0, 0)]), .inl (0, 8), .inl (0, 8), .inl (0, 8), .inl (0, 10), .inr (1, [(2, 67), (2, 127), (2, 126), (0, 0), (0, 0), (0, 0)]), .inl (0, 8), .inr (8, [(2, 67), (2, 128), (0, 0), (0, 0), (0, 0)])]
def qb_s2 : List qb_S := [.inl (0, 11), .inr (7, [(2, 67), (2, 125), (2, 127), (2, 130), (2, 131), (2, 132), (0, 0)]), .inl (0, 2048), .inl (1, 10), .inl (0, 8), .inr (0, [(2, 134), (2, 135), (2, 136), (2, 137), (2, 138), (0, 0), (0, 0)]), .inl (0, 40), .inl (0, 40), .inl (0, 40), .inl (0, 40), .inl (0, 40), .inr (4, [(2, 140), (2, 141), (2, 142), (2, 143), (2, 144), (0, 0), (0, 0), (0, 0), (0, 0), (0, 0), (0, 0), (0, 0), (0, 0)]), .inl (0, 10), .inl (0, 10), .inl (1, 10), .inl (1, 5), .inl (0, 5), .inr (6, [(2, 146), (2, 147), (2, 148), (2, 149), (0, 0), (0, 0), (0, 0), (0, 0), (0, 0), (0, 0)]), .inl (0, 8), .inl (0, 8), .inl (0, 8), .inl (0, 10), .inr (5, [(2, 151), (2, 152), (2, 153), (2, 154), (0, 0), (0, 0)]), .inl (5, 40), .inl (0, 40), .inl (0, 40), .inl (0, 40), .inl (4, 2), .inr (2, [(2, 157), (2, 163), (2, 168), (0, 0)]), .inr (4, [(2, 158), (2, 159), (2, 160), (2, 161), (2, 162), (0, 0), (0, 0), (0, 0), (0, 0), (0, 0), (0, 0), (0, 0), (0, 0)]), .inl (0, 10), .inl (0, 10)]
def qb_s3 : List qb_S := [.inl (1, 10), .inl (1, 5), .inl (0, 5), .inr (6, [(2, 164), (2, 165), (2, 166), (2, 167), (0, 0), (0, 0), (0, 0), (0, 0), (0, 0), (0, 0)]), .inl (0, 8), .inl (0, 8), .inl (0, 8), .inl (0, 10), .inr (5, [(2, 169), (2, 170), (2, 171), (2, 172), (0, 0), (0, 0)]), .inl (5, 40), .inl (0, 40), .inl (0, 40), .inl (0, 40), .inr (2, [(2, 174), (2, 180), (2, 185), (0, 0)]), .inr (4, [(2, 175), (2, 176), (2, 177), (2, 178), (2, 179), (0, 0), (0, 0), (0, 0), (0, 0), (0, 0), (0, 0), (0, 0), (0, 0)]), .inl (0, 10), .inl (0, 10), .inl (1, 10), .inl (1, 5), .inl (0, 5), .inr (6, [(2, 181), (2, 182), (2, 183), (2, 184), (0, 0), (0, 0), (0, 0), (0, 0), (0, 0), (0, 0)]), .inl (0, 8), .inl (0, 8), .inl (0, 8), .inl (0, 10), .inr (5, [(2, 186), (2, 187), (2, 188), (2, 189), (0, 0), (0, 0)]), .inl (5, 40), .inl (0, 40), .inl (0, 40), .inl (0, 40), .inl (0, 16), .inl (0, 4)]
def qb_s4 : List qb_S := [.inr (11, [(0, 0), (2, 193), (0, 0), (0, 0), (0, 0), (0, 0), (0, 0), (0, 0), (0, 0), (0, 0), (0, 0), (0, 0), (1, 0), (0, 0), (2, 194), (2, 195), (2, 196), (2, 197), (2, 198), (2, 199), (2, 200), (2, 201), (2, 202), (2, 203), (0, 0), (2, 204), (0, 0), (0, 0), (2, 205), (2, 206), (0, 0), (0, 0), (2, 207), (2, 208), (0, 0), (0, 0), (2, 209), (2, 210), (0, 0), (0, 0), (2, 211), (0, 0), (0, 0), (0, 0), (0, 0)]), .inl (0, 940), .inl (0, 312), .inl (0, 30), .inl (0, 624), .inl (0, 320), .inl (0, 40), .inl (1, 15), .inl (1, 15), .inl (1, 30), .inl (2, 2), .inl (2, 2), .inl (1, 8), .inl (0, 1024), .inl (0, 8), .inl (0, 8), .inl (0, 64), .inl (0, 200), .inl (0, 4), .inl (0, 240), .inl (1, 1)]
def qb_sg : Nat → List qb_S := fun g => match g with
  | 0 => qb_s0
  | 1 => qb_s1
  | 2 => qb_s2
  | 3 => qb_s3
  | 4 => qb_s4
  | _ => []
def qb_sh (a : Nat) : qb_S := (qb_sg ((a - 64) / 32)).getD ((a - 64) % 32) (.inr (0, []))
def qb_fv (s : qb_M) (a k : Nat) (q : Nat × Nat) : Value := match q.1 with
  | 0 => .int (s.1 a k)
  | 1 => .long (s.2.1 a k)
  | 2 => .ref q.2
  | _ => qa_rv (s.2.2 a k)
def qb_fl (s : qb_M) (a : Nat) (fl : List (Nat × Nat)) : List Value := (List.range fl.length).map (fun k => qb_fv s a k (fl.getD k (0, 0)))
def qb_ar (s : qb_M) (a t : Nat) : ((Nat → Int32) ⊕ (Nat → Int64) ⊕ (Nat → UInt32) ⊕ (Nat → UInt64) ⊕ (Nat → Option Nat)) := match t with
  | 0 => .inl (s.1 a)
  | 1 => .inr (.inl (s.2.1 a))
  | 2 => .inl (s.1 a)
  | _ => .inr (.inr (.inr (.inr (s.2.2 a))))
def qb_hp (s : qb_M) : Nat → qa_C := fun a => match qb_sh a with
  | .inl (t, n) => .inl (t, n, qb_ar s a t)
  | .inr (ci, fl) => .inr (ci, qb_fl s a fl)
def qb_u {α : Type} (f : Nat → Nat → α) (a k : Nat) (v : α) : Nat → Nat → α := fun b j => if b = a ∧ j = k then v else f b j
def qb_ui (s : qb_M) (a k : Nat) (v : Int32) : qb_M := (qb_u s.1 a k v, s.2.1, s.2.2)
def qb_ul (s : qb_M) (a k : Nat) (v : Int64) : qb_M := (s.1, qb_u s.2.1 a k v, s.2.2)
def qb_up (s : qb_M) (a k : Nat) (v : Option Nat) : qb_M := (s.1, s.2.1, qb_u s.2.2 a k v)
theorem qb_u_s {α : Type} {f : Nat → Nat → α} {a k : Nat} {v : α} : qb_u f a k v a k = v := if_pos ⟨rfl, rfl⟩
theorem qb_u_a {α : Type} {f : Nat → Nat → α} {a k b j : Nat} {v : α} (h : b ≠ a) : qb_u f a k v b j = f b j := if_neg (fun q => h q.1)
theorem qb_u_k {α : Type} {f : Nat → Nat → α} {a k b j : Nat} {v : α} (h : j ≠ k) : qb_u f a k v b j = f b j := if_neg (fun q => h q.2)
theorem qb_fl_at {s : qb_M} {a k : Nat} {fl : List (Nat × Nat)} {q : Nat × Nat} (h : fl[k]? = some q) : (qb_fl s a fl)[k]? = some (qb_fv s a k q) := by
  have hl : k < fl.length := (List.getElem?_eq_some_iff.mp h).1
  unfold qb_fl
  rw [List.getElem?_map, List.getElem?_range hl, Option.map_some, List.getD_eq_getElem?_getD, h]
  rfl
theorem qb_obj {s : qb_M} {a ci : Nat} {fl : List (Nat × Nat)} {g : Nat × Nat × Nat} (hs : qb_sh a = .inr (ci, fl)) (ha : 64 ≤ a) (hb : a < 64 + g.1) : qa_obj (qb_hp s, g) a ci = some (qb_fl s a fl) := by
  unfold qa_obj
  rw [if_pos ⟨ha, hb⟩]
  show (match qb_hp s a with | .inr (c, fs) => if c = ci then some fs else none | .inl _ => none) = _
  unfold qb_hp
  rw [hs]
  dsimp only
  rw [if_pos rfl]
theorem qb_arr {s : qb_M} {a t n : Nat} {g : Nat × Nat × Nat} (hs : qb_sh a = .inl (t, n)) (ha : 64 ≤ a) (hb : a < 64 + g.1) : qa_arr (qb_hp s, g) a t = some (n, qb_ar s a t) := by
  unfold qa_arr
  rw [if_pos ⟨ha, hb⟩]
  show (match qb_hp s a with | .inl (u, x) => if u = t then some x else none | .inr _ => none) = _
  unfold qb_hp
  rw [hs]
  dsimp only
  rw [if_pos rfl]
/-- a write into a cell, as a write into the memory -/
theorem qb_hp_up {s s2 : qb_M} {a : Nat} {x : qa_C} (hx : qb_hp s2 a = x) (h : ∀ b, b ≠ a → qb_hp s2 b = qb_hp s b) : qa_up (qb_hp s) a x = qb_hp s2 := by
  funext b
  by_cases hb : b = a
  · subst hb
    rw [qa_up_s, hx]
  · rw [qa_up_n hb, h b hb]
theorem qb_fl_ne {s s2 : qb_M} {b : Nat} {fl : List (Nat × Nat)} (h : ∀ k, s2.1 b k = s.1 b k ∧ s2.2.1 b k = s.2.1 b k ∧ s2.2.2 b k = s.2.2 b k) : qb_fl s2 b fl = qb_fl s b fl := by
  unfold qb_fl
  apply List.map_congr_left
  intro k _
  unfold qb_fv
  split
  · rw [(h k).1]
  · rw [(h k).2.1]
  · rfl
  · rw [(h k).2.2]
theorem qb_hp_ne {s s2 : qb_M} {b : Nat} (h : ∀ k, s2.1 b k = s.1 b k ∧ s2.2.1 b k = s.2.1 b k ∧ s2.2.2 b k = s.2.2 b k) : qb_hp s2 b = qb_hp s b := by
  unfold qb_hp
  split
  · unfold qb_ar
    rw [show s2.1 b = s.1 b from funext fun k => (h k).1, show s2.2.1 b = s.2.1 b from funext fun k => (h k).2.1, show s2.2.2 b = s.2.2 b from funext fun k => (h k).2.2]
  · rw [qb_fl_ne h]
theorem qb_ui_ne {s : qb_M} {a k b : Nat} {v : Int32} (h : b ≠ a) : qb_hp (qb_ui s a k v) b = qb_hp s b := qb_hp_ne (fun j => ⟨qb_u_a h, rfl, rfl⟩)
theorem qb_ul_ne {s : qb_M} {a k b : Nat} {v : Int64} (h : b ≠ a) : qb_hp (qb_ul s a k v) b = qb_hp s b := qb_hp_ne (fun j => ⟨rfl, qb_u_a h, rfl⟩)
theorem qb_up_ne {s : qb_M} {a k b : Nat} {v : Option Nat} (h : b ≠ a) : qb_hp (qb_up s a k v) b = qb_hp s b := qb_hp_ne (fun j => ⟨rfl, rfl, qb_u_a h⟩)
theorem qb_fl_set {s s2 : qb_M} {a k : Nat} {fl : List (Nat × Nat)} {v : Value} (hk : k < fl.length) (hv : qb_fv s2 a k (fl.getD k (0, 0)) = v) (hn : ∀ j, j ≠ k → ∀ q, qb_fv s2 a j q = qb_fv s a j q) : (qb_fl s a fl).set k v = qb_fl s2 a fl := by
  apply List.ext_getElem?
  intro j
  unfold qb_fl
  rw [List.getElem?_set]
  by_cases hj : k = j
  · subst hj
    rw [if_pos rfl, if_pos (by rw [List.length_map, List.length_range]; exact hk), List.getElem?_map, List.getElem?_range hk, Option.map_some, hv]
  · rw [if_neg hj, List.getElem?_map, List.getElem?_map]
    by_cases hl : j < fl.length
    · rw [List.getElem?_range hl, Option.map_some, Option.map_some, hn j (fun z => hj z.symm)]
    · rw [List.getElem?_eq_none (by rw [List.length_range]; exact Nat.not_lt.mp hl)]
      rfl
theorem qb_put_i {s : qb_M} {a ci k r : Nat} {fl : List (Nat × Nat)} {v : Int32} (hs : qb_sh a = .inr (ci, fl)) (hk : fl[k]? = some (0, r)) : qa_up (qb_hp s) a (.inr (ci, (qb_fl s a fl).set k (.int v))) = qb_hp (qb_ui s a k v) := by
  have hl : k < fl.length := (List.getElem?_eq_some_iff.mp hk).1
  refine qb_hp_up ?_ (fun b hb => qb_ui_ne hb)
  unfold qb_hp
  rw [hs]
  dsimp only
  rw [qb_fl_set hl (s2 := qb_ui s a k v)]
  · rw [List.getD_eq_getElem?_getD, hk]
    show Value.int (qb_u s.1 a k v a k) = _
    rw [qb_u_s]
  · intro j hj q
    unfold qb_fv
    split
    · show Value.int (qb_u s.1 a k v a j) = _
      rw [qb_u_k hj]
    all_goals rfl
theorem qb_put_l {s : qb_M} {a ci k r : Nat} {fl : List (Nat × Nat)} {v : Int64} (hs : qb_sh a = .inr (ci, fl)) (hk : fl[k]? = some (1, r)) : qa_up (qb_hp s) a (.inr (ci, (qb_fl s a fl).set k (.long v))) = qb_hp (qb_ul s a k v) := by
  have hl : k < fl.length := (List.getElem?_eq_some_iff.mp hk).1
  refine qb_hp_up ?_ (fun b hb => qb_ul_ne hb)
  unfold qb_hp
  rw [hs]
  dsimp only
  rw [qb_fl_set hl (s2 := qb_ul s a k v)]
  · rw [List.getD_eq_getElem?_getD, hk]
    show Value.long (qb_u s.2.1 a k v a k) = _
    rw [qb_u_s]
  · intro j hj q
    unfold qb_fv
    split
    · rfl
    · show Value.long (qb_u s.2.1 a k v a j) = _
      rw [qb_u_k hj]
    all_goals rfl
theorem qb_put_p {s : qb_M} {a ci k r : Nat} {fl : List (Nat × Nat)} {v : Option Nat} (hs : qb_sh a = .inr (ci, fl)) (hk : fl[k]? = some (3, r)) : qa_up (qb_hp s) a (.inr (ci, (qb_fl s a fl).set k (qa_rv v))) = qb_hp (qb_up s a k v) := by
  have hl : k < fl.length := (List.getElem?_eq_some_iff.mp hk).1
  refine qb_hp_up ?_ (fun b hb => qb_up_ne hb)
  unfold qb_hp
  rw [hs]
  dsimp only
  rw [qb_fl_set hl (s2 := qb_up s a k v)]
  · rw [List.getD_eq_getElem?_getD, hk]
    show qa_rv (qb_u s.2.2 a k v a k) = _
    rw [qb_u_s]
  · intro j hj q
    unfold qb_fv
    split
    · rfl
    · rfl
    · rfl
    · show qa_rv (qb_u s.2.2 a k v a j) = _
      rw [qb_u_k hj]
theorem qb_st_i {s : qb_M} {a n i : Nat} {v : Int32} {t : Nat} (ht : t = 0 ∨ t = 2) (hs : qb_sh a = .inl (t, n)) : qa_up (qb_hp s) a (.inl (t, n, .inl (upd (s.1 a) i v))) = qb_hp (qb_ui s a i v) := by
  refine qb_hp_up ?_ (fun b hb => qb_ui_ne hb)
  unfold qb_hp
  rw [hs]
  dsimp only
  have e : upd (s.1 a) i v = (qb_ui s a i v).1 a := by
    funext j
    show (if j = i then v else s.1 a j) = qb_u s.1 a i v a j
    unfold qb_u
    by_cases h : j = i
    · rw [if_pos h, if_pos ⟨rfl, h⟩]
    · rw [if_neg h, if_neg (fun q => h q.2)]
  rw [e]
  rcases ht with h | h <;> subst h <;> rfl
theorem qb_st_l {s : qb_M} {a n i : Nat} {v : Int64} (hs : qb_sh a = .inl (1, n)) : qa_up (qb_hp s) a (.inl (1, n, .inr (.inl (vp_updL (s.2.1 a) i v)))) = qb_hp (qb_ul s a i v) := by
  refine qb_hp_up ?_ (fun b hb => qb_ul_ne hb)
  unfold qb_hp
  rw [hs]
  dsimp only
  have e : vp_updL (s.2.1 a) i v = (qb_ul s a i v).2.1 a := by
    funext j
    show (if j = i then v else s.2.1 a j) = qb_u s.2.1 a i v a j
    unfold qb_u
    by_cases h : j = i
    · rw [if_pos h, if_pos ⟨rfl, h⟩]
    · rw [if_neg h, if_neg (fun q => h q.2)]
  rw [e]
  rfl
theorem qb_st_p {s : qb_M} {a n i t : Nat} {v : Option Nat} (hs : qb_sh a = .inl (t + 3, n)) : qa_up (qb_hp s) a (.inl (t + 3, n, .inr (.inr (.inr (.inr (va_up (s.2.2 a) i v)))))) = qb_hp (qb_up s a i v) := by
  refine qb_hp_up ?_ (fun b hb => qb_up_ne hb)
  unfold qb_hp
  rw [hs]
  dsimp only
  have e : va_up (s.2.2 a) i v = (qb_up s a i v).2.2 a := by
    funext j
    show (if j = i then v else s.2.2 a j) = qb_u s.2.2 a i v a j
    unfold qb_u
    by_cases h : j = i
    · rw [if_pos h, if_pos ⟨rfl, h⟩]
    · rw [if_neg h, if_neg (fun q => h q.2)]
  rw [e]
  rfl

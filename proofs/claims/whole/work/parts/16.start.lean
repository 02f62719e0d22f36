/-! what the start gives -/
theorem qb_O {args : Array Value} {s : State} {A : Nat → Prop} (hA : ∀ a : Nat, a < s.heap.size → ¬ A a) {t : Term} {E : String} (h : (Cond.exactly t E).before args s = true) : ∃ a : Nat, t.eval args s none [] s = some (.ref a) ∧ va_O E a A s s.heap := by
  obtain ⟨a, c, cell, k, q1, q2, q3, q4, q5, q6, -⟩ := Cond.exactly_spec h
  exact ⟨a, q1, cell, q3, q5, by rw [q6]; exact q2, hA a (Array.getElem?_eq_some_iff.mp q3).1⟩
theorem qb_OF {args : Array Value} {s : State} {A : Nat → Prop} (hA : ∀ a : Nat, a < s.heap.size → ¬ A a) {t : Term} {a : Nat} {o n d : String} {v : Value} (ht : t.eval args s none [] s = some (.ref a)) (hv : (Term.field t o n d).eval args s none [] s = some v) : va_OF o n d v a A s s.heap := vk_OFof ht hv hA
theorem qb_OF_eq {o n d : String} {v u : Value} {a : Nat} {A : Nat → Prop} {U : State} {H : Heap} (h1 : va_OF o n d v a A U H) (h2 : va_OF o n d u a A U H) : v = u := by
  obtain ⟨cf, k, i, f, cell, g1, g2, g3, g4, g5, g6⟩ := h1
  obtain ⟨cf', k', i', f', cell', e1, e2, e3, e4, e5, e6⟩ := h2
  have h9 := g1.symm.trans e1
  cases h9
  cases g3.symm.trans e3
  exact Option.some.inj (g5.symm.trans e5)
theorem qb_let : ∀ i, i < 23 → ∀ j, j < 23 → qw_let i = qw_let j → i = j := by decide +kernel
set_option maxRecDepth 20000 in
theorem qb_words {args : Array Value} {s : State} {A : Nat → Prop} (hA : ∀ a : Nat, a < s.heap.size → ¬ A a) (hts : ∀ w ∈ lw_tbl, w.before args s = true) (hs : ∀ w ∈ flatC (Jvm.Cond.and given_1 narrow_1), w.before args s = true) : ∃ (ad : Nat → Nat) (tA : Nat), (∀ i, i < 23 → va_Z qw_E (qw_nm.getD i "") qw_d (.ref (ad i)) A s s.heap ∧ va_O qw_E (ad i) A s s.heap ∧ va_OF qw_E "letters" "J" (.long (qw_let i)) (ad i) A s s.heap) ∧ va_Z qw_E "ALL" "[LSistersBoard$Word;" (.ref tA) A s s.heap ∧ va_T (.object qw_E) tA 23 (fun j => .ref (ad j)) A s s.heap := by
  have hl : ∀ i, i < 23 → Cond.laysStatic qw_E (qw_nm.getD i "") qw_d ∈ tables_1 := by decide +kernel
  have hx : ∀ i, i < 23 → Cond.exactly (.static qw_E (qw_nm.getD i "") qw_d) qw_E ∈ flatC (Jvm.Cond.and given_1 narrow_1) := by decide +kernel
  have hf : ∀ i, i < 23 → Cond.eq (.field (.static qw_E (qw_nm.getD i "") qw_d) qw_E "letters" "J") (.long (qw_let i)) ∈ flatC (Jvm.Cond.and given_1 narrow_1) := by decide +kernel
  have he : ∀ i, i < 23 → Cond.eq (.elem (.static qw_E "ALL" "[LSistersBoard$Word;") (.int (Int32.ofNat i))) (.static qw_E (qw_nm.getD i "") qw_d) ∈ flatC (Jvm.Cond.and given_1 narrow_1) := by decide +kernel
  have hT : ∀ w, w ∈ tables_1 → w.before args s = true := fun w h => hts w (List.mem_append_right _ h)
  have hini : (Cond.initialized qw_E).before args s = true := hT _ (by decide +kernel)
  have h0 : ∀ i : Nat, ∃ t : Nat, i < 23 → (Term.static qw_E (qw_nm.getD i "") qw_d).eval args s none [] s = some (.ref t) ∧ va_O qw_E t A s s.heap := by
    intro i
    by_cases hi : i < 23
    · obtain ⟨a, h1, h2⟩ := qb_O hA (hs _ (hx i hi))
      exact ⟨a, fun _ => ⟨h1, h2⟩⟩
    · exact ⟨0, fun h => absurd h hi⟩
  obtain ⟨ad, had⟩ := Classical.axiomOfChoice h0
  obtain ⟨tA, hA1, hA2⟩ := va_Tof (args := args) (s := s) (tm := .static qw_E "ALL" "[LSistersBoard$Word;") (ty := .object qw_E) (N := 23) (f := fun j => .ref (ad j)) (A := A) (by decide) (hs _ (by decide +kernel)) (va_eqt (hs _ (by decide +kernel))) (fun j hj => va_eqv (hs _ (he j hj)) (had j hj).1) hA
  refine ⟨ad, tA, fun i hi => ⟨va_Zref (hT _ (hl i hi)) hini (had i hi).1 hA, (had i hi).2, qb_OF hA (had i hi).1 (va_eqtl (hs _ (hf i hi)))⟩, va_Zref (hT _ (by decide +kernel)) hini hA1 hA, hA2⟩
set_option maxRecDepth 20000 in
theorem qb_texts {args : Array Value} {s : State} {A : Nat → Prop} (hA : ∀ a : Nat, a < s.heap.size → ¬ A a) (hts : ∀ w ∈ lw_tbl, w.before args s = true) (hs : ∀ w ∈ flatC (Jvm.Cond.and given_1 narrow_1), w.before args s = true) : ∃ (ak av : Nat → Nat), ∀ j, j < 3 → vk_R "SistersBoard" (qw_ix.getD j 0) (qw_tx.getD j "") (ak j) s ∧ va_O "java/lang/String" (ak j) A s s.heap ∧ va_OF "java/lang/String" "coder" "B" (.int 0) (ak j) A s s.heap ∧ va_OF "java/lang/String" "value" "[B" (.ref (av j)) (ak j) A s s.heap ∧ va_T .byte (av j) ((qw_by.getD j []).map Value.int).length (fun i => ((qw_by.getD j []).map Value.int).getD i .null) A s s.heap := by
  have hT : ∀ w, w ∈ tables_1 → w.before args s = true := fun w h => hts w (List.mem_append_right _ h)
  have hx : ∀ j, j < 3 → Cond.exactly (.string "SistersBoard" (qw_ix.getD j 0)) "java/lang/String" ∈ flatC (Jvm.Cond.and given_1 narrow_1) := by decide +kernel
  have hr : ∀ j, j < 3 → Cond.stringRef "SistersBoard" (qw_ix.getD j 0) (qw_tx.getD j "") ∈ tables_1 := by decide +kernel
  have hc : ∀ j, j < 3 → Cond.eq (.field (.string "SistersBoard" (qw_ix.getD j 0)) "java/lang/String" "coder" "B") (.int 0) ∈ flatC (Jvm.Cond.and given_1 narrow_1) := by decide +kernel
  have ha : ∀ j, j < 3 → Cond.arrayOf (.field (.string "SistersBoard" (qw_ix.getD j 0)) "java/lang/String" "value" "[B") .byte ∈ flatC (Jvm.Cond.and given_1 narrow_1) := by decide +kernel
  have hl : ∀ j, j < 3 → Cond.eq (.length (.field (.string "SistersBoard" (qw_ix.getD j 0)) "java/lang/String" "value" "[B")) (.int (Int32.ofNat ((qw_by.getD j []).map Value.int).length)) ∈ flatC (Jvm.Cond.and given_1 narrow_1) := by decide +kernel
  have he : ∀ j, j < 3 → ∀ i, i < (qw_by.getD j []).length → Cond.eq (.elem (.field (.string "SistersBoard" (qw_ix.getD j 0)) "java/lang/String" "value" "[B") (.int (Int32.ofNat i))) (.int ((qw_by.getD j []).getD i 0)) ∈ flatC (Jvm.Cond.and given_1 narrow_1) := by decide +kernel
  have hlt : ∀ j, j < 3 → ((qw_by.getD j []).map Value.int).length < 2 ^ 31 := by decide +kernel
  have key : ∀ (l : List Int32) (i : Nat), i < l.length → Value.int (l.getD i 0) = (l.map Value.int).getD i .null := fun l i hi => by
    rw [List.getD_eq_getElem?_getD, List.getD_eq_getElem?_getD, List.getElem?_map, List.getElem?_eq_getElem hi]
    rfl
  have h0 : ∀ j : Nat, ∃ t : Nat × Nat, j < 3 → vk_R "SistersBoard" (qw_ix.getD j 0) (qw_tx.getD j "") t.1 s ∧ va_O "java/lang/String" t.1 A s s.heap ∧ va_OF "java/lang/String" "coder" "B" (.int 0) t.1 A s s.heap ∧ va_OF "java/lang/String" "value" "[B" (.ref t.2) t.1 A s s.heap ∧ va_T .byte t.2 ((qw_by.getD j []).map Value.int).length (fun i => ((qw_by.getD j []).map Value.int).getD i .null) A s s.heap := by
    intro j
    by_cases hj : j < 3
    · obtain ⟨a, h1, h2⟩ := qb_O hA (hs _ (hx j hj))
      have hlen : ((qw_by.getD j []).map Value.int).length = (qw_by.getD j []).length := List.length_map _
      obtain ⟨tv, h3, h4⟩ := va_Tof (args := args) (s := s) (tm := .field (.string "SistersBoard" (qw_ix.getD j 0)) "java/lang/String" "value" "[B") (ty := .byte) (N := ((qw_by.getD j []).map Value.int).length) (f := fun i => ((qw_by.getD j []).map Value.int).getD i .null) (A := A) (hlt j hj) (hs _ (ha j hj)) (va_eqt (hs _ (hl j hj))) (fun i hi => by
        rw [hlen] at hi
        rw [va_eqt (hs _ (he j hj i hi)), key _ i hi]) hA
      exact ⟨(a, tv), fun _ => ⟨vk_R.of (hT _ (hr j hj)) h1, h2, qb_OF hA h1 (va_eqt (hs _ (hc j hj))), qb_OF hA h1 h3, h4⟩⟩
    · exact ⟨(0, 0), fun h => absurd h hj⟩
  obtain ⟨t, ht⟩ := Classical.axiomOfChoice h0
  exact ⟨fun j => (t j).1, fun j => (t j).2, fun j hj => ht j hj⟩
theorem qb_arrP {args : Array Value} {s : State} {ty : FieldType} (hp : ty = .int ∨ ty = .long ∨ ty = .boolean) (h : (Cond.arrayClass ty).before args s = true) : ∃ c : ClassId, ArrOfT s c ty ∧ va_RA s c ty := by
  obtain ⟨c, k, comp, h1, h2, h3⟩ := Cond.arrayClass_spec h
  refine ⟨c, fun N z => ⟨(fun k h => by cases h), k, h2, comp, h3⟩, ?_⟩
  rcases hp with e | e | e <;> subst e <;> exact h1
theorem qb_arrO {args : Array Value} {s : State} {C : String} (h : (Cond.arrayOver (.object C)).before args s = true) : ∃ c : ClassId, ArrOfT s c (.object C) ∧ va_RA s c (.object C) := by
  obtain ⟨comp, c, k, h1, h2, h3, h4, h5⟩ := Cond.arrayOver_spec h
  exact ⟨c, fun N z => ⟨(fun k h => by cases h), k, h3, comp, h4⟩, k, comp, h3, h4, h1, h5⟩
set_option maxRecDepth 20000 in
theorem qb_start {args : Array Value} {s : State} (hts : ∀ w ∈ lw_tbl, w.before args s = true) (hn : (Jvm.Cond.and given_1 narrow_1).before args s = true) (b : Nat) : ∃ (D : va_G) (cA : Nat → ClassId) (st : Nat → Nat), qa_X qm_nw D cA st s.heap.size s ∧ st 40 = b := by
  have hs := flat_of_before _ hn
  have hT : ∀ w, w ∈ tables_1 → w.before args s = true := fun w h => hts w (List.mem_append_right _ h)
  have hg : ∀ w ∈ qa_GW, w.before args s = true := fun w h => hts w (List.mem_filter.mp h).1
  have hA : ∀ a : Nat, a < s.heap.size → ¬ qa_A s.heap.size a := fun a h1 h2 => absurd h1 (Nat.not_lt.mpr h2)
  have hK0 : ∀ k : Nat, ∃ q : ClassId × (Nat → Nat), ∀ r : vw_C, qa_cl[k]? = some r → u_Kn s r.1 r.2.1 r.2.2 q.1 q.2 := by
    intro k
    match k with
    | 0 =>
      obtain ⟨c, iS, h⟩ := u_known (C := qn_R0) (T := qn_T0) (N := 7) (n := 7) hg qn_in0 (hT (.instantiable qn_R0 7) (by decide +kernel))
      exact ⟨(c, iS), fun r hr => by cases hr; exact h⟩
    | 1 =>
      obtain ⟨c, iS, h⟩ := u_known (C := qn_R1) (T := qn_T1) (N := 6) (n := 6) hg qn_in1 (hT (.instantiable qn_R1 6) (by decide +kernel))
      exact ⟨(c, iS), fun r hr => by cases hr; exact h⟩
    | 2 =>
      obtain ⟨c, iS, h⟩ := u_known (C := qn_R2) (T := qn_T2) (N := 4) (n := 4) hg qn_in2 (hT (.instantiable qn_R2 4) (by decide +kernel))
      exact ⟨(c, iS), fun r hr => by cases hr; exact h⟩
    | 3 =>
      obtain ⟨c, iS, h⟩ := u_known (C := qn_R3) (T := qn_T3) (N := 3) (n := 3) hg qn_in3 (hT (.instantiable qn_R3 3) (by decide +kernel))
      exact ⟨(c, iS), fun r hr => by cases hr; exact h⟩
    | 4 =>
      obtain ⟨c, iS, h⟩ := u_known (C := qn_R4) (T := qn_T4) (N := 13) (n := 13) hg qn_in4 (hT (.instantiable qn_R4 13) (by decide +kernel))
      exact ⟨(c, iS), fun r hr => by cases hr; exact h⟩
    | 5 =>
      obtain ⟨c, iS, h⟩ := u_known (C := qn_R5) (T := qn_T5) (N := 6) (n := 6) hg qn_in5 (hT (.instantiable qn_R5 6) (by decide +kernel))
      exact ⟨(c, iS), fun r hr => by cases hr; exact h⟩
    | 6 =>
      obtain ⟨c, iS, h⟩ := u_known (C := qn_R6) (T := qn_T6) (N := 10) (n := 10) hg qn_in6 (hT (.instantiable qn_R6 10) (by decide +kernel))
      exact ⟨(c, iS), fun r hr => by cases hr; exact h⟩
    | 7 =>
      obtain ⟨c, iS, h⟩ := u_known (C := qn_R7) (T := qn_T7) (N := 7) (n := 7) hg qn_in7 (hT (.instantiable qn_R7 7) (by decide +kernel))
      exact ⟨(c, iS), fun r hr => by cases hr; exact h⟩
    | 8 =>
      obtain ⟨c, iS, h⟩ := u_known (C := qn_R8) (T := qn_T8) (N := 5) (n := 5) hg qn_in8 (hT (.instantiable qn_R8 5) (by decide +kernel))
      exact ⟨(c, iS), fun r hr => by cases hr; exact h⟩
    | 9 =>
      obtain ⟨c, iS, h⟩ := u_known (C := qn_R9) (T := qn_T9) (N := 11) (n := 11) hg qn_in9 (hT (.instantiable qn_R9 11) (by decide +kernel))
      exact ⟨(c, iS), fun r hr => by cases hr; exact h⟩
    | 10 =>
      obtain ⟨c, iS, h⟩ := u_known (C := qn_R10) (T := qn_T10) (N := 18) (n := 18) hg qn_in10 (hT (.instantiable qn_R10 18) (by decide +kernel))
      exact ⟨(c, iS), fun r hr => by cases hr; exact h⟩
    | 11 =>
      obtain ⟨c, iS, h⟩ := u_known (C := qn_R11) (T := qn_T11) (N := 45) (n := 45) hg qn_in11 (hT (.instantiable qn_R11 45) (by decide +kernel))
      exact ⟨(c, iS), fun r hr => by cases hr; exact h⟩
    | k + 12 => exact ⟨(0, fun _ => 0), fun r hr => by simp [qa_cl] at hr⟩
  obtain ⟨dD, hdD⟩ := Classical.axiomOfChoice hK0
  obtain ⟨c0, hc0⟩ := qb_arrP (Or.inl rfl) (hT (.arrayClass .int) (by decide +kernel))
  obtain ⟨c1, hc1⟩ := qb_arrP (Or.inr (Or.inl rfl)) (hT (.arrayClass .long) (by decide +kernel))
  obtain ⟨c2, hc2⟩ := qb_arrP (Or.inr (Or.inr rfl)) (hT (.arrayClass .boolean) (by decide +kernel))
  have hO3 := hT (.arrayOver (.object "SistersBoard$State")) (by decide +kernel)
  have hO4 := hT (.arrayOver (.object "SistersBoard$Image")) (by decide +kernel)
  have hO5 := hT (.arrayOver (.object "SistersBoard$Word")) (by decide +kernel)
  obtain ⟨c3, hc3⟩ := qb_arrO hO3
  obtain ⟨c4, hc4⟩ := qb_arrO hO4
  obtain ⟨c5, hc5⟩ := qb_arrO hO5
  obtain ⟨ad, tA, hW1, hW2, hW3⟩ := qb_words hA hts hs
  obtain ⟨ak, av, hX1⟩ := qb_texts hA hts hs
  refine ⟨(fun k => (dD k).1, fun k => (dD k).2), fun t => match t with | 0 => c0 | 1 => c1 | 2 => c2 | 3 => c3 | 4 => c4 | _ => c5, fun k => if k < 23 then ad k else if k = 24 then tA else if k < 28 then ak (k - 25) else if k < 33 then av (k - 30) else b, ⟨⟨fun c q hq => hdD c q hq, ?_⟩, ?_, ?_, ?_⟩, rfl⟩
  · intro k q hk
    match k, hk with
    | 0, hk => cases hk; exact hc0
    | 1, hk => cases hk; exact hc1
    | 2, hk => cases hk; exact hc2
    | 3, hk => cases hk; exact hc3
    | 4, hk => cases hk; exact hc4
    | 5, hk => cases hk; exact hc5
    | k + 6, hk => simp [qa_ty] at hk
  · have hN : ∀ q ∈ qm_nw, Cond.methodLinkNest q.1 q.2.1 q.2.2.1 q.2.2.2 ∈ tables_1 := by decide +kernel
    exact fun q hq => va_Nw.of rfl (hT _ (hN q hq))
  · intro C hC
    simp only [List.mem_cons, List.not_mem_nil, or_false] at hC
    rcases hC with e | e | e <;> subst e
    · exact va_AO.of hO3
    · exact va_AO.of hO4
    · exact va_AO.of hO5
  · refine ⟨fun q hq => ?_, fun q hq => ?_, fun q hq => ?_, fun q hq => ?_, fun j hj => ?_, fun i j hi hj e => ?_, ⟨?_, ?_, ?_⟩, ?_⟩
    · rcases List.mem_append.mp hq with h | h
      · obtain ⟨i, hi, rfl⟩ := List.mem_map.mp h
        have hi := List.mem_range.mp hi
        have := (hW1 i hi).1
        simpa only [qa_v, qa_ca, show i < 64 by omega, if_true, hi] using this
      · simp only [List.mem_cons, List.not_mem_nil, or_false] at h
        rcases h with e | e <;> subst e
        · exact hW2
        · exact va_Zof (hT _ (by decide +kernel)) (hT _ (by decide +kernel)) (va_eqt (hs _ (by decide +kernel))) hA
    · rcases List.mem_append.mp hq with h | h
      · rcases List.mem_append.mp h with h | h
        · obtain ⟨i, hi, rfl⟩ := List.mem_map.mp h
          have hi := List.mem_range.mp hi
          have := (hW1 i hi).2.2
          simpa only [qa_v, hi, if_true] using this
        · obtain ⟨j, hj, rfl⟩ := List.mem_map.mp h
          have hj := List.mem_range.mp hj
          have := (hX1 j hj).2.2.1
          simpa only [qa_v, show ¬ 25 + j < 23 by omega, show ¬ 25 + j = 24 by omega, show 25 + j < 28 by omega, show 25 + j - 25 = j by omega, if_true, if_false] using this
      · obtain ⟨j, hj, rfl⟩ := List.mem_map.mp h
        have hj := List.mem_range.mp hj
        have := (hX1 j hj).2.2.2.1
        revert this
        match j, hj with
        | 0, _ => exact fun h => h
        | 1, _ => exact fun h => h
        | 2, _ => exact fun h => h
        | k + 3, h => exact absurd h (Nat.not_lt.mpr (Nat.le_add_left 3 k))
    · rcases List.mem_cons.mp hq with h | h
      · subst h
        have e1 : ∀ j, j < 23 → ((List.range 23).map Value.ref).getD j .null = .ref j := by decide +kernel
        obtain ⟨cell, h1, h2, h3, h4, h5, h6, h7⟩ := hW3
        refine ⟨cell, h1, h2, h3, h4, h5, fun j hj => ?_, h7⟩
        have hj : j < 23 := hj
        rw [h6 j hj]
        dsimp only
        rw [e1 j hj]
        simp only [qa_v, qa_ca, show j < 64 by omega, if_true, hj]
      · obtain ⟨j, hj, rfl⟩ := List.mem_map.mp h
        have hj := List.mem_range.mp hj
        obtain ⟨cell, h1, h2, h3, h4, h5, h6, h7⟩ := (hX1 j hj).2.2.2.2
        refine ⟨cell, ?_, h2, h3, h4, h5, fun i hi => ?_, ?_⟩
        · simpa only [show ¬ 30 + j < 23 by omega, show ¬ 30 + j = 24 by omega, show ¬ 30 + j < 28 by omega, show 30 + j < 33 by omega, show 30 + j - 30 = j by omega, if_true, if_false] using h1
        · rw [h6 i hi]
          dsimp only at hi ⊢
          rw [List.getD_eq_getElem?_getD, List.getElem?_eq_getElem hi]
          rw [Option.getD_some, List.getElem_map]
          rfl
        · simpa only [show ¬ 30 + j < 23 by omega, show ¬ 30 + j = 24 by omega, show ¬ 30 + j < 28 by omega, show 30 + j < 33 by omega, show 30 + j - 30 = j by omega, if_true, if_false] using h7
    · rcases List.mem_append.mp hq with h | h
      · obtain ⟨i, hi, rfl⟩ := List.mem_map.mp h
        have hi := List.mem_range.mp hi
        have := (hW1 i hi).2.1
        simpa only [hi, if_true] using this
      · obtain ⟨j, hj, rfl⟩ := List.mem_map.mp h
        have hj := List.mem_range.mp hj
        have := (hX1 j hj).2.1
        simpa only [show ¬ 25 + j < 23 by omega, show ¬ 25 + j = 24 by omega, show 25 + j < 28 by omega, show 25 + j - 25 = j by omega, if_true, if_false] using this
    · have := (hX1 j hj).1
      simpa only [show ¬ 25 + j < 23 by omega, show ¬ 25 + j = 24 by omega, show 25 + j < 28 by omega, show 25 + j - 25 = j by omega, if_true, if_false] using this
    · simp only [hi, hj, if_true] at e
      have h1 := (hW1 i hi).2.2
      have h2 := (hW1 j hj).2.2
      rw [e] at h1
      exact qb_let i hi j hj (Value.long.inj (qb_OF_eq h1 h2))
    · exact va_Zqof (hT _ (by decide +kernel)) (hT _ (by decide +kernel)) (hs _ (by decide +kernel)) hA
    · exact vx_Zqof (hT _ (by decide +kernel)) (hT _ (by decide +kernel)) (hs _ (by decide +kernel)) hA
    · exact vx_Zqof (hT _ (by decide +kernel)) (hT _ (by decide +kernel)) (hs _ (by decide +kernel)) hA
    · obtain ⟨a, h1, -⟩ := qb_O hA (hs (.exactly (.string "SistersBoard" 147) "java/lang/String") (by decide +kernel))
      exact ⟨a, vk_R.of (hT (.stringRef "SistersBoard" 147 "no such switch or question") (by decide +kernel)) h1⟩

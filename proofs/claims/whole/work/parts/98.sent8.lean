/-! a sentence: a one that can't be read -/
def wX (n l : Nat) (b : Nat → Nat) (p : Nat) : Prop := tx_k n l b p = 40 ∨ ∃ y, 14 ≤ y ∧ y ≤ 22 ∧ wA n l b p y
theorem wG_of {x j : Nat} (h : x < 192 ∧ (wF 0 x j ∨ x = 65 ∧ (j = 2 ∨ j = 3)) ∨ ¬ x < 192 ∧ (wF 0 x j ∨ x = 192 ∧ (j = 10 ∨ j = 11))) : wG x j := by
  unfold wG
  rcases h with ⟨_, h | h⟩ | ⟨_, h | h⟩
  · exact Or.inl h
  · exact Or.inr (Or.inl h)
  · exact Or.inl h
  · exact Or.inr (Or.inr h)
def oneS (d d' : Nat) (c : Nat × Nat) (n l : Nat) (b : Nat → Nat) (p ns : Nat) (M : qb_M) (a o W : Nat) : Prop := ∃ M' r, (∀ u, qe (d) 143 [.ref 150, .ref 65, .ref 67, .int (nI (W + 1))] (qb_hp (qj M u), 149, c) = some (some (.int (r)), (qb_hp (qj M' u), 149, c))) ∧ (∀ u, qe (d') 281 [.ref 192] (qb_hp (qj u M), 149, c) = some (some (.int (r)), (qb_hp (qj u M'), 149, c))) ∧ rO (wF a) wG n l b p M M' r (fun M' => wO M' a o W ns)
theorem one_no (d d' : Nat) (c : Nat × Nat) {M : qb_M} {n l : Nat} {b : Nat → Nat} {p : Nat} (hC : rC M n l b p) (hM : rM M n l b p) {a o W ns : Nat} (hx : ¬ wX n l b p) : oneS (d + 4) (d' + 4) c n l b p ns M a o W := by
  refine bo_fail (A := M) (B := M) (f := 1) (pl := tx_p n l b p) (P1 := wF 0) (Q1 := wF 0) (fun u => ?_) (fun u => ?_) (tx_p9 hC) qG.rf qG.rf (fun x j h => wG_of h)
  · refine (en_143 (d + 3) 150 65 67 (nI (W + 1)) _).trans ?_
    refine go_ald_5_1 rfl ?_
    refine go_call1 rfl (pc_ahead (d + 1) c hC 0 (fun z => absurd z hx) (fun _ => rfl) u) (Nat.le_of_ble_eq_true rfl) rfl ?_
    refine go_ifne rfl (fun e => ?_) (fun e => ?_)
    · refine go_ald_5_1 rfl ?_
      refine go_c rfl ?_
      refine go_call2 rfl (pc_fail (d + 2) c hC 1 u) (Nat.le_of_ble_eq_true rfl) (qb_qv rfl (by decide) (by decide)) ?_
      exact fin_i rfl rfl rfl
    · exact absurd rfl e
  · have hb := pm_bad (d' + 2) c hM 1 u
    rw [ite_self] at hb
    have hs := pm_isSign (d' + 2) c hM 40 (by decide) u
    rw [qB_f (fun z => hx (Or.inl z))] at hs
    refine (en_281 (d' + 3) 192 _).trans ?_
    refine go_ald_4_0 rfl ?_
    refine go_c rfl ?_
    refine go_call2 rfl (hs) (Nat.le_of_ble_eq_true rfl) (qb_qv rfl (by decide) (by decide)) ?_
    refine go_ist_4_1 rfl rfl ?_
    refine go_c rfl ?_
    refine go_ist_4_2 rfl rfl ?_
    refine pm_seek d' c hM u _ 23 (by decide) (fun i i1 i2 h => hx (Or.inr ⟨i, i1, by omega, h⟩)) (Or.inl rfl) _ ?_
    refine go_ild_4_1 rfl ?_
    refine go_ifne rfl (fun e => ?_) (fun e => ?_)
    · refine go_ild_4_2 rfl ?_
      refine go_c rfl ?_
      refine go_icle rfl (fun e2 => ?_) (fun e2 => ?_)
      · exact absurd e2 (by decide)
      · refine go_ald_4_0 rfl ?_
        refine go_c rfl ?_
        refine go_call2 rfl (hb) (Nat.le_of_ble_eq_true rfl) (qb_qv rfl (by decide) (by decide)) ?_
        exact fin_i rfl rfl rfl
    · exact absurd rfl e
theorem one_many (d d' : Nat) (c : Nat × Nat) {M : qb_M} {n l : Nat} {b : Nat → Nat} {p : Nat} (hC : rC M n l b p) (hM : rM M n l b p) {a o W ns : Nat} (hS : wS M a o W) (hx : wX n l b p) (ho : o ≤ 20) (hW : W ≤ 8) (h : o = 20 ∨ W = 8) : oneS (d + 4) (d' + 4) c n l b p ns M a o W := by
  obtain ⟨⟨s1, s2⟩, ⟨s3, s4⟩, s5⟩ := hS
  have hk1 : tx_k n l b p ≠ 1 := by
    rcases hx with z | ⟨y, _, _, z⟩
    · omega
    · have := z.1; omega
  refine bo_fail (A := M) (B := M) (f := 4) (pl := tx_p n l b p) (P1 := wF 0) (Q1 := wF 0) (fun u => ?_) (fun u => ?_) (tx_p9 hC) qG.rf qG.rf (fun x j h => wG_of h)
  · have out : ∀ l4 : Value, qa_lm (qe (d + 3)) (qa_cd qc_143) (28, [.ref 150, .ref 65, .ref 67, .int (nI (W + 1)), l4], [], (qb_hp (qj M u), 149, c)) = some (some (.int (0)), (qb_hp (qj (fC M 4 (tx_p n l b p)) u), 149, c)) := fun l4 => by
      refine go_ald_5_1 rfl ?_
      refine go_c rfl ?_
      refine go_call2 rfl (pc_fail (d + 2) c hC 4 u) (Nat.le_of_ble_eq_true rfl) (qb_qv rfl (by decide) (by decide)) ?_
      exact fin_i rfl rfl rfl
    refine (en_143 (d + 3) 150 65 67 (nI (W + 1)) _).trans ?_
    refine go_ald_5_1 rfl ?_
    refine go_call1 rfl (pc_ahead (d + 1) c hC 1 (fun _ => rfl) (fun z => absurd hx z) u) (Nat.le_of_ble_eq_true rfl) rfl ?_
    refine go_ifne rfl (fun e => ?_) (fun e => ?_)
    · exact absurd e (by decide)
    · refine go_ald_5_0 rfl ?_
      refine go_geti rfl (qQ_f qQ_150 rfl) ?_
      rw [show (qj M u).1 150 5 = nI o from s3]
      refine go_c rfl ?_
      refine go_icge rfl (fun e2 => ?_) (fun e2 => ?_)
      · exact out _
      · have : o ≠ 20 := fun z => e2 (by rw [z]; decide)
        have hW8 : W = 8 := by omega
        refine go_ild_5_3 rfl ?_
        refine go_c rfl ?_
        refine go_icle rfl (fun e3 => ?_) (fun e3 => ?_)
        · exact absurd e3 (by rw [hW8]; decide)
        · exact out _
  · have hb := pm_bad (d' + 2) c hM 4 u
    rw [if_neg hk1] at hb
    obtain ⟨y, hy, hgo⟩ := pm_said d' c hM u hx
    refine hgo _ ?_
    have out : ∀ (l1 l2 l3 : Value), qa_lm (qe (d' + 3)) (qa_cd qc_281) (64, [.ref 192, l1, l2, l3], [], (qb_hp (qj u M), 149, c)) = some (some (.int (0)), (qb_hp (qj u (fM M 4 (tx_p n l b p))), 149, c)) := fun l1 l2 l3 => by
      refine go_ald_4_0 rfl ?_
      refine go_c rfl ?_
      refine go_call2 rfl (hb) (Nat.le_of_ble_eq_true rfl) (qb_qv rfl (by decide) (by decide)) ?_
      exact fin_i rfl rfl rfl
    refine go_ald_4_0 rfl ?_
    refine go_geti rfl ⟨_, rfl, rfl, by decide, by decide⟩ ?_
    rw [show (qj u M).1 192 42 = nI o from s4]
    refine go_c rfl ?_
    refine go_iceq rfl (fun e => ?_) (fun e => ?_)
    · exact out _ _ _
    · have : o ≠ 20 := fun z => e (by rw [z]; rfl)
      have hW8 : W = 8 := by omega
      refine go_ald_4_0 rfl ?_
      refine go_geti rfl ⟨_, rfl, rfl, by decide, by decide⟩ ?_
      rw [show (qj u M).1 192 43 = nI W from s5, hW8]
      refine go_c rfl ?_
      refine go_icne rfl (fun e2 => ?_) (fun e2 => ?_)
      · exact out _ _ _
      · exact absurd rfl e2

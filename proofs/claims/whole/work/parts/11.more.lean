/-! texts, a switch by a list, chars -/
theorem qs_ldcwS {cc : ByteArray} {nL pc j : Nat} (hj : j < 3) (hd : decode cc pc = .ok (.ldc_w (qw_ix.getD j 0), 3)) : qa_PS "SistersBoard" cc nL pc (qp_c (.ref (25 + j)) (pc + 3)) := by
  intro nm ret st bs p l e R s m args below meth c H locs cells slots Q B hY hS L S z ls hg hl k
  obtain ⟨hx, hb, hml, hown, hts, -⟩ := B
  cases hg
  have hZ := hY.2.2.2.2.1 j hj
  have k9 := k ls hl
  intro T hT X
  obtain ⟨t, a1, b1⟩ := k9 T hT X
  refine ⟨t, Jvm.Stand.ldcStringW X hx hown (text := qw_tx.getD j "") (a := st (25 + j)) hZ.1 hZ.2 (g := F0 m pc ls (S.map (qa_v (qa_ca st bs)))) rfl (by rw [hb]; exact hd) t ?_, b1⟩
  have e1 : qa_v (qa_ca st bs) (.ref (25 + j)) = .ref (st (25 + j)) := by
    show Value.ref (qa_ca st bs (25 + j)) = _
    unfold qa_ca
    rw [if_pos (by omega)]
  rw [List.map_cons, e1] at a1
  exact a1
def qp_i2c (n : Nat) : qa_P := fun L S => match S with
  | .int x :: S => some (n, L, .int (x.toUInt32 % 65536).toInt32 :: S)
  | _ => none
theorem qs_i2c {own : String} {cc : ByteArray} {nL pc : Nat} (hd : decode cc pc = .ok (.i2c, 1)) : qa_PW own cc nL pc (qp_i2c (pc + 1)) := by
  intro nm ret st bs p l e R s m args below meth c H locs cells slots Q B hst L S z ls hg hl k
  obtain ⟨hx, hb, -⟩ := B
  unfold qp_i2c at hg
  split at hg
  · cases hg
    exact lv_i2c hx hb hd rfl (k ls hl)
  · cases hg
theorem qa_lk {pc d : Nat} {dflt : Int} {x : Int32} (ht : (pc : Int) + dflt = (d : Int)) : ∀ (ps : List (Int × Int)) (tb : List (Int32 × Nat)), ps.map (fun q => (q.1, (pc : Int) + q.2)) = tb.map (fun q => (q.1.toInt, (q.2 : Int))) → (pc : Int) + Op.lookupswitch.offset ps dflt x.toInt = (qa_sw tb d x : Int)
  | [], [], _ => ht
  | [], _ :: _, h => by cases h
  | _ :: _, [], h => by cases h
  | (a, o) :: ps, (v, t) :: tb, h => by
    rw [List.map_cons, List.map_cons] at h
    injection h with h1 h2
    injection h1 with h3 h4
    rw [Op.lookupswitch.offset_cons]
    unfold qa_sw
    dsimp only at h3 h4 ⊢
    by_cases hx : x = v
    · subst hx
      rw [if_pos h3, if_pos rfl]
      exact h4
    · rw [if_neg (fun z => hx (Int32.toInt_inj.mp (by rw [← z, h3]))), if_neg hx]
      exact qa_lk ht ps tb h2
theorem qs_lookup {own : String} {cc : ByteArray} {nL pc : Nat} {dflt : Int} {ps : Array (Int × Int)} {len d : Nat} (tb : List (Int32 × Nat)) (hd : decode cc pc = .ok (.lookupswitch dflt ps, len)) (hp : (ps.toList.zip (ps.toList.drop 1)).all (fun (a, next) => a.1 < next.1) = true) (ht : (pc : Int) + dflt = (d : Int)) (hj : ps.toList.map (fun q => (q.1, (pc : Int) + q.2)) = tb.map (fun q => (q.1.toInt, (q.2 : Int)))) : qa_PW own cc nL pc (qp_sw tb d) := by
  intro nm ret st bs p l e R s m args below meth c H locs cells slots Q B hst L S z ls hg hl k
  obtain ⟨hx, hb, -⟩ := B
  unfold qp_sw at hg
  split at hg
  · rename_i x S'
    cases hg
    exact lv_lookup hx hb hd hp rfl (qa_lk ht _ tb hj) (k ls hl)
  · cases hg

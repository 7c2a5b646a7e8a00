def lenO (a : Int32) : Int32 := 1 + bb ((1 : Int32) ≤ a ∧ a ≤ 3) + bb (a = (1 : Int32) ∨ a = 2 ∨ a = 4 ∨ a = 5)
def nar (s : Int32) (v : Int64) : Int64 := if s = 1 then v.toInt32.toInt8.toInt32.toInt64 else if s = 2 then v.toInt32.toInt16.toInt32.toInt64 else if s = 3 then v.toInt32.toInt64 else v
def jbc (a : Int32) : Int32 := (((((((a - (((a.toUInt32 >>> ((1 : Int32).toUInt32 &&& Int32.toUInt32 31)).toInt32) &&& 1431655765)) &&& 858993459) + ((((a - (((a.toUInt32 >>> ((1 : Int32).toUInt32 &&& Int32.toUInt32 31)).toInt32) &&& 1431655765)).toUInt32 >>> ((2 : Int32).toUInt32 &&& Int32.toUInt32 31)).toInt32) &&& 858993459)) + (((((a - (((a.toUInt32 >>> ((1 : Int32).toUInt32 &&& Int32.toUInt32 31)).toInt32) &&& 1431655765)) &&& 858993459) + ((((a - (((a.toUInt32 >>> ((1 : Int32).toUInt32 &&& Int32.toUInt32 31)).toInt32) &&& 1431655765)).toUInt32 >>> ((2 : Int32).toUInt32 &&& Int32.toUInt32 31)).toInt32) &&& 858993459)).toUInt32 >>> ((4 : Int32).toUInt32 &&& Int32.toUInt32 31)).toInt32)) &&& 252645135) + (((((((a - (((a.toUInt32 >>> ((1 : Int32).toUInt32 &&& Int32.toUInt32 31)).toInt32) &&& 1431655765)) &&& 858993459) + ((((a - (((a.toUInt32 >>> ((1 : Int32).toUInt32 &&& Int32.toUInt32 31)).toInt32) &&& 1431655765)).toUInt32 >>> ((2 : Int32).toUInt32 &&& Int32.toUInt32 31)).toInt32) &&& 858993459)) + (((((a - (((a.toUInt32 >>> ((1 : Int32).toUInt32 &&& Int32.toUInt32 31)).toInt32) &&& 1431655765)) &&& 858993459) + ((((a - (((a.toUInt32 >>> ((1 : Int32).toUInt32 &&& Int32.toUInt32 31)).toInt32) &&& 1431655765)).toUInt32 >>> ((2 : Int32).toUInt32 &&& Int32.toUInt32 31)).toInt32) &&& 858993459)).toUInt32 >>> ((4 : Int32).toUInt32 &&& Int32.toUInt32 31)).toInt32)) &&& 252645135).toUInt32 >>> ((8 : Int32).toUInt32 &&& Int32.toUInt32 31)).toInt32)) + ((((((((a - (((a.toUInt32 >>> ((1 : Int32).toUInt32 &&& Int32.toUInt32 31)).toInt32) &&& 1431655765)) &&& 858993459) + ((((a - (((a.toUInt32 >>> ((1 : Int32).toUInt32 &&& Int32.toUInt32 31)).toInt32) &&& 1431655765)).toUInt32 >>> ((2 : Int32).toUInt32 &&& Int32.toUInt32 31)).toInt32) &&& 858993459)) + (((((a - (((a.toUInt32 >>> ((1 : Int32).toUInt32 &&& Int32.toUInt32 31)).toInt32) &&& 1431655765)) &&& 858993459) + ((((a - (((a.toUInt32 >>> ((1 : Int32).toUInt32 &&& Int32.toUInt32 31)).toInt32) &&& 1431655765)).toUInt32 >>> ((2 : Int32).toUInt32 &&& Int32.toUInt32 31)).toInt32) &&& 858993459)).toUInt32 >>> ((4 : Int32).toUInt32 &&& Int32.toUInt32 31)).toInt32)) &&& 252645135) + (((((((a - (((a.toUInt32 >>> ((1 : Int32).toUInt32 &&& Int32.toUInt32 31)).toInt32) &&& 1431655765)) &&& 858993459) + ((((a - (((a.toUInt32 >>> ((1 : Int32).toUInt32 &&& Int32.toUInt32 31)).toInt32) &&& 1431655765)).toUInt32 >>> ((2 : Int32).toUInt32 &&& Int32.toUInt32 31)).toInt32) &&& 858993459)) + (((((a - (((a.toUInt32 >>> ((1 : Int32).toUInt32 &&& Int32.toUInt32 31)).toInt32) &&& 1431655765)) &&& 858993459) + ((((a - (((a.toUInt32 >>> ((1 : Int32).toUInt32 &&& Int32.toUInt32 31)).toInt32) &&& 1431655765)).toUInt32 >>> ((2 : Int32).toUInt32 &&& Int32.toUInt32 31)).toInt32) &&& 858993459)).toUInt32 >>> ((4 : Int32).toUInt32 &&& Int32.toUInt32 31)).toInt32)) &&& 252645135).toUInt32 >>> ((8 : Int32).toUInt32 &&& Int32.toUInt32 31)).toInt32)).toUInt32 >>> ((16 : Int32).toUInt32 &&& Int32.toUInt32 31)).toInt32)) &&& 63
theorem v_X9_isWithin_0 {w : PW} {Q : PQ} (a : Int32) (b : Int32) (c : Int32) (h : (a < b → b01 0 ∧ Q (.inl 0) w) ∧ (b ≤ a → (c < a → b01 0 ∧ Q (.inl 0) w) ∧ (a ≤ c → b01 1 ∧ Q (.inl 1) w))) : Wp 95 0 [some (.inl a), some (.inl b), some (.inl c)] [] w Q := Wp.run sm0_ok [] [] 10 _ _ _ _ _ _ h
theorem v_X10_isIn_0 {w : PW} {Q : PQ} (a : Int32) (b : Int32) (c : Int32) (h : (a < b → b01 0 ∧ Q (.inl 0) w) ∧ (b ≤ a → (c < a → b01 0 ∧ Q (.inl 0) w) ∧ (a ≤ c → b01 1 ∧ Q (.inl 1) w))) : Wp 111 0 [some (.inl a), some (.inl b), some (.inl c)] [] w Q := Wp.run sm0_ok [] [] 10 _ _ _ _ _ _ h
theorem s_X9_isWithin {w : PW} {Q : PQ} (a : Int32) (b : Int32) (c : Int32) (h : Q (.inl (bb (b ≤ a ∧ a ≤ c))) w) : Wp 95 0 [some (.inl a), some (.inl b), some (.inl c)] [] w Q := by
  apply v_X9_isWithin_0
  refine ⟨fun q => ?_, fun q => ⟨fun q2 => ?_, fun q2 => ?_⟩⟩
  · rw [bb_f (fun z => by have := Int32.not_le.mpr q; exact this z.1)] at h; exact ⟨b01_0, h⟩
  · rw [bb_f (fun z => by have := Int32.not_le.mpr q2; exact this z.2)] at h; exact ⟨b01_0, h⟩
  · rw [bb_t ⟨q, q2⟩] at h; exact ⟨b01_1, h⟩
theorem s_X10_isIn {w : PW} {Q : PQ} (a : Int32) (b : Int32) (c : Int32) (h : Q (.inl (bb (b ≤ a ∧ a ≤ c))) w) : Wp 111 0 [some (.inl a), some (.inl b), some (.inl c)] [] w Q := by
  apply v_X10_isIn_0
  refine ⟨fun q => ?_, fun q => ⟨fun q2 => ?_, fun q2 => ?_⟩⟩
  · rw [bb_f (fun z => by have := Int32.not_le.mpr q; exact this z.1)] at h; exact ⟨b01_0, h⟩
  · rw [bb_f (fun z => by have := Int32.not_le.mpr q2; exact this z.2)] at h; exact ⟨b01_0, h⟩
  · rw [bb_t ⟨q, q2⟩] at h; exact ⟨b01_1, h⟩
def sm1 : ST := fun mj => bif Nat.beq mj 95 then some (fun L w Q => match L with | [some (.inl a), some (.inl b), some (.inl c)] => Q (.inl (bb (b ≤ a ∧ a ≤ c))) w | _ => False) else bif Nat.beq mj 111 then some (fun L w Q => match L with | [some (.inl a), some (.inl b), some (.inl c)] => Q (.inl (bb (b ≤ a ∧ a ≤ c))) w | _ => False) else none
theorem sm1_ok : SmOK sm1 := by
  intro mj f hf L w Q h
  unfold sm1 at hf
  cases hb : Nat.beq mj 95 with
  | true =>
    rw [hb, cond_true] at hf
    cases hf
    have hm := Nat.eq_of_beq_eq_true hb
    subst hm
    split at h
    · rename_i a b c
      exact s_X9_isWithin a b c h
    · exact h.elim
  | false =>
  rw [hb, cond_false] at hf
  cases hb : Nat.beq mj 111 with
  | true =>
    rw [hb, cond_true] at hf
    cases hf
    have hm := Nat.eq_of_beq_eq_true hb
    subst hm
    split at h
    · rename_i a b c
      exact s_X10_isIn a b c h
    · exact h.elim
  | false =>
  rw [hb, cond_false] at hf
  cases hf
theorem v_X4_hasCell_0 {w : PW} {Q : PQ} (a : Int32) (h : (a < 1 → b01 0 ∧ Q (.inl 0) w) ∧ (1 ≤ a → (3 < a → b01 0 ∧ Q (.inl 0) w) ∧ (a ≤ 3 → b01 1 ∧ Q (.inl 1) w))) : Wp 17 0 [some (.inl a)] [] w Q := Wp.run sm1_ok [] [] 10 _ _ _ _ _ _ h
theorem v_X4_hasNumber_0 {w : PW} {Q : PQ} (a : Int32) (h : (a = 1 → b01 1 ∧ Q (.inl 1) w) ∧ (¬ a = 1 → (a = 2 → b01 1 ∧ Q (.inl 1) w) ∧ (¬ a = 2 → (a = 4 → b01 1 ∧ Q (.inl 1) w) ∧ (¬ a = 4 → (¬ a = 5 → b01 0 ∧ Q (.inl 0) w) ∧ (a = 5 → b01 1 ∧ Q (.inl 1) w))))) : Wp 18 0 [some (.inl a)] [] w Q := Wp.run sm1_ok [] [] 16 _ _ _ _ _ _ h
theorem s_X4_hasCell {w : PW} {Q : PQ} (a : Int32) (h : Q (.inl (bb ((1 : Int32) ≤ a ∧ a ≤ 3))) w) : Wp 17 0 [some (.inl a)] [] w Q := by
  apply v_X4_hasCell_0
  repeat' first | exact b01_0 | exact b01_1 | (apply And.intro) | (intro _)
  all_goals first
    | (rw [bb_f (by clear h; simp only [ti_lt, ti_le, ti_eq] at *; omega)] at h; exact h)
    | (rw [bb_t (by clear h; simp only [ti_lt, ti_le, ti_eq] at *; omega)] at h; exact h)
    | (simp only [bb_0, Decidable.not_not] at *; simp_all [lenO, bb])
theorem s_X4_hasNumber {w : PW} {Q : PQ} (a : Int32) (h : Q (.inl (bb (a = (1 : Int32) ∨ a = 2 ∨ a = 4 ∨ a = 5))) w) : Wp 18 0 [some (.inl a)] [] w Q := by
  apply v_X4_hasNumber_0
  repeat' first | exact b01_0 | exact b01_1 | (apply And.intro) | (intro _)
  all_goals first
    | (rw [bb_f (by clear h; simp only [ti_lt, ti_le, ti_eq] at *; omega)] at h; exact h)
    | (rw [bb_t (by clear h; simp only [ti_lt, ti_le, ti_eq] at *; omega)] at h; exact h)
    | (simp only [bb_0, Decidable.not_not] at *; simp_all [lenO, bb])
def sm2 : ST := fun mj => bif Nat.beq mj 95 then some (fun L w Q => match L with | [some (.inl a), some (.inl b), some (.inl c)] => Q (.inl (bb (b ≤ a ∧ a ≤ c))) w | _ => False) else bif Nat.beq mj 111 then some (fun L w Q => match L with | [some (.inl a), some (.inl b), some (.inl c)] => Q (.inl (bb (b ≤ a ∧ a ≤ c))) w | _ => False) else bif Nat.beq mj 17 then some (fun L w Q => match L with | [some (.inl a)] => Q (.inl (bb ((1 : Int32) ≤ a ∧ a ≤ 3))) w | _ => False) else bif Nat.beq mj 18 then some (fun L w Q => match L with | [some (.inl a)] => Q (.inl (bb (a = (1 : Int32) ∨ a = 2 ∨ a = 4 ∨ a = 5))) w | _ => False) else none
theorem sm2_ok : SmOK sm2 := by
  intro mj f hf L w Q h
  unfold sm2 at hf
  cases hb : Nat.beq mj 95 with
  | true =>
    rw [hb, cond_true] at hf
    cases hf
    have hm := Nat.eq_of_beq_eq_true hb
    subst hm
    split at h
    · rename_i a b c
      exact s_X9_isWithin a b c h
    · exact h.elim
  | false =>
  rw [hb, cond_false] at hf
  cases hb : Nat.beq mj 111 with
  | true =>
    rw [hb, cond_true] at hf
    cases hf
    have hm := Nat.eq_of_beq_eq_true hb
    subst hm
    split at h
    · rename_i a b c
      exact s_X10_isIn a b c h
    · exact h.elim
  | false =>
  rw [hb, cond_false] at hf
  cases hb : Nat.beq mj 17 with
  | true =>
    rw [hb, cond_true] at hf
    cases hf
    have hm := Nat.eq_of_beq_eq_true hb
    subst hm
    split at h
    · rename_i a
      exact s_X4_hasCell a h
    · exact h.elim
  | false =>
  rw [hb, cond_false] at hf
  cases hb : Nat.beq mj 18 with
  | true =>
    rw [hb, cond_true] at hf
    cases hf
    have hm := Nat.eq_of_beq_eq_true hb
    subst hm
    split at h
    · rename_i a
      exact s_X4_hasNumber a h
    · exact h.elim
  | false =>
  rw [hb, cond_false] at hf
  cases hf
theorem v_X4_lengthOf_0 {w : PW} {Q : PQ} (a : Int32) (h : ((bb ((1 : Int32) ≤ a ∧ a ≤ 3)) = 0 → ((bb (a = (1 : Int32) ∨ a = 2 ∨ a = 4 ∨ a = 5)) = 0 → Q (.inl ((1 + 0) + 0)) w) ∧ (¬ (bb (a = (1 : Int32) ∨ a = 2 ∨ a = 4 ∨ a = 5)) = 0 → Q (.inl ((1 + 0) + 1)) w)) ∧ (¬ (bb ((1 : Int32) ≤ a ∧ a ≤ 3)) = 0 → ((bb (a = (1 : Int32) ∨ a = 2 ∨ a = 4 ∨ a = 5)) = 0 → Q (.inl ((1 + 1) + 0)) w) ∧ (¬ (bb (a = (1 : Int32) ∨ a = 2 ∨ a = 4 ∨ a = 5)) = 0 → Q (.inl ((1 + 1) + 1)) w))) : Wp 19 0 [some (.inl a)] [] w Q := Wp.run sm2_ok [] [] 15 _ _ _ _ _ _ h
theorem v_X7_isRow_0 {w : PW} {Q : PQ} (g : Nat) (h : ((gI w (g, 70) 0) < 1 → b01 0 ∧ Q (.inl 0) w) ∧ (1 ≤ (gI w (g, 70) 0) → (4 < (gI w (g, 70) 0) → b01 0 ∧ Q (.inl 0) w) ∧ ((gI w (g, 70) 0) ≤ 4 → b01 1 ∧ Q (.inl 1) w))) : Wp 49 0 [some (.inr (.inr (g, 70)))] [] w Q := Wp.run sm2_ok [] [] 12 _ _ _ _ _ _ h
theorem v_X7_hasPlace_0 {w : PW} {Q : PQ} (g : Nat) (a : Int32) (h : (a < 0 → b01 0 ∧ Q (.inl 0) w) ∧ (0 ≤ a → ((gI w (g, 70) 1) ≤ a → b01 0 ∧ Q (.inl 0) w) ∧ (a < (gI w (g, 70) 1) → b01 1 ∧ Q (.inl 1) w))) : Wp 50 0 [some (.inr (.inr (g, 70))), some (.inl a)] [] w Q := Wp.run sm2_ok [] [] 10 _ _ _ _ _ _ h
theorem v_X7_hasSpan_0 {w : PW} {Q : PQ} (g : Nat) (a : Int32) (b : Int32) (h : (a < 0 → b01 0 ∧ Q (.inl 0) w) ∧ (0 ≤ a → (b < 0 → b01 0 ∧ Q (.inl 0) w) ∧ (0 ≤ b → (((gI w (g, 70) 1) - b) < a → b01 0 ∧ Q (.inl 0) w) ∧ (a ≤ ((gI w (g, 70) 1) - b) → b01 1 ∧ Q (.inl 1) w)))) : Wp 51 0 [some (.inr (.inr (g, 70))), some (.inl a), some (.inl b)] [] w Q := Wp.run sm2_ok [] [] 14 _ _ _ _ _ _ h
theorem v_X0_isFull_0 {w : PW} {Q : PQ} (g : Nat) (h : ((gI w (g, 54) 3) < (nI (len g 56)) → b01 0 ∧ Q (.inl 0) w) ∧ ((nI (len g 56)) ≤ (gI w (g, 54) 3) → b01 1 ∧ Q (.inl 1) w)) : Wp 0 0 [some (.inr (.inr (g, 54)))] [] w Q := Wp.run sm2_ok [] [] 10 _ _ _ _ _ _ h
theorem v_X7_narrowed_0 {w : PW} {Q : PQ} (g : Nat) (a : Int64) (h : ((gI w (g, 70) 0) = 1 → Q (.inr (.inl a.toInt32.toInt8.toInt32.toInt64)) w) ∧ (¬ (gI w (g, 70) 0) = 1 → ((gI w (g, 70) 0) = 2 → Q (.inr (.inl a.toInt32.toInt16.toInt32.toInt64)) w) ∧ (¬ (gI w (g, 70) 0) = 2 → ((gI w (g, 70) 0) = 3 → Q (.inr (.inl a.toInt32.toInt64)) w) ∧ (¬ (gI w (g, 70) 0) = 3 → Q (.inr (.inl a)) w)))) : Wp 54 0 [some (.inr (.inr (g, 70))), some (.inr (.inl a)), none] [] w Q := Wp.run sm2_ok [] [] 9 _ _ _ _ _ _ h
theorem v_X10_narrow_0 {w : PW} {Q : PQ} (a : Int32) (b : Int64) (h : (¬ a = 1 → (¬ a = 2 → (¬ a = 3 → Q (.inr (.inl b)) w) ∧ (a = 3 → Q (.inr (.inl b.toInt32.toInt64)) w)) ∧ (a = 2 → Q (.inr (.inl b.toInt32.toInt16.toInt32.toInt64)) w)) ∧ (a = 1 → Q (.inr (.inl b.toInt32.toInt8.toInt32.toInt64)) w)) : Wp 181 0 [some (.inl a), some (.inr (.inl b)), none] [] w Q := Wp.run sm2_ok [] [] 15 _ _ _ _ _ _ h
theorem v_J6_bitCount_0f7a4_0 {w : PW} {Q : PQ} (a : Int32) (h : Q (.inl ((((((((a - (((a.toUInt32 >>> ((1 : Int32).toUInt32 &&& Int32.toUInt32 31)).toInt32) &&& 1431655765)) &&& 858993459) + ((((a - (((a.toUInt32 >>> ((1 : Int32).toUInt32 &&& Int32.toUInt32 31)).toInt32) &&& 1431655765)).toUInt32 >>> ((2 : Int32).toUInt32 &&& Int32.toUInt32 31)).toInt32) &&& 858993459)) + (((((a - (((a.toUInt32 >>> ((1 : Int32).toUInt32 &&& Int32.toUInt32 31)).toInt32) &&& 1431655765)) &&& 858993459) + ((((a - (((a.toUInt32 >>> ((1 : Int32).toUInt32 &&& Int32.toUInt32 31)).toInt32) &&& 1431655765)).toUInt32 >>> ((2 : Int32).toUInt32 &&& Int32.toUInt32 31)).toInt32) &&& 858993459)).toUInt32 >>> ((4 : Int32).toUInt32 &&& Int32.toUInt32 31)).toInt32)) &&& 252645135) + (((((((a - (((a.toUInt32 >>> ((1 : Int32).toUInt32 &&& Int32.toUInt32 31)).toInt32) &&& 1431655765)) &&& 858993459) + ((((a - (((a.toUInt32 >>> ((1 : Int32).toUInt32 &&& Int32.toUInt32 31)).toInt32) &&& 1431655765)).toUInt32 >>> ((2 : Int32).toUInt32 &&& Int32.toUInt32 31)).toInt32) &&& 858993459)) + (((((a - (((a.toUInt32 >>> ((1 : Int32).toUInt32 &&& Int32.toUInt32 31)).toInt32) &&& 1431655765)) &&& 858993459) + ((((a - (((a.toUInt32 >>> ((1 : Int32).toUInt32 &&& Int32.toUInt32 31)).toInt32) &&& 1431655765)).toUInt32 >>> ((2 : Int32).toUInt32 &&& Int32.toUInt32 31)).toInt32) &&& 858993459)).toUInt32 >>> ((4 : Int32).toUInt32 &&& Int32.toUInt32 31)).toInt32)) &&& 252645135).toUInt32 >>> ((8 : Int32).toUInt32 &&& Int32.toUInt32 31)).toInt32)) + ((((((((a - (((a.toUInt32 >>> ((1 : Int32).toUInt32 &&& Int32.toUInt32 31)).toInt32) &&& 1431655765)) &&& 858993459) + ((((a - (((a.toUInt32 >>> ((1 : Int32).toUInt32 &&& Int32.toUInt32 31)).toInt32) &&& 1431655765)).toUInt32 >>> ((2 : Int32).toUInt32 &&& Int32.toUInt32 31)).toInt32) &&& 858993459)) + (((((a - (((a.toUInt32 >>> ((1 : Int32).toUInt32 &&& Int32.toUInt32 31)).toInt32) &&& 1431655765)) &&& 858993459) + ((((a - (((a.toUInt32 >>> ((1 : Int32).toUInt32 &&& Int32.toUInt32 31)).toInt32) &&& 1431655765)).toUInt32 >>> ((2 : Int32).toUInt32 &&& Int32.toUInt32 31)).toInt32) &&& 858993459)).toUInt32 >>> ((4 : Int32).toUInt32 &&& Int32.toUInt32 31)).toInt32)) &&& 252645135) + (((((((a - (((a.toUInt32 >>> ((1 : Int32).toUInt32 &&& Int32.toUInt32 31)).toInt32) &&& 1431655765)) &&& 858993459) + ((((a - (((a.toUInt32 >>> ((1 : Int32).toUInt32 &&& Int32.toUInt32 31)).toInt32) &&& 1431655765)).toUInt32 >>> ((2 : Int32).toUInt32 &&& Int32.toUInt32 31)).toInt32) &&& 858993459)) + (((((a - (((a.toUInt32 >>> ((1 : Int32).toUInt32 &&& Int32.toUInt32 31)).toInt32) &&& 1431655765)) &&& 858993459) + ((((a - (((a.toUInt32 >>> ((1 : Int32).toUInt32 &&& Int32.toUInt32 31)).toInt32) &&& 1431655765)).toUInt32 >>> ((2 : Int32).toUInt32 &&& Int32.toUInt32 31)).toInt32) &&& 858993459)).toUInt32 >>> ((4 : Int32).toUInt32 &&& Int32.toUInt32 31)).toInt32)) &&& 252645135).toUInt32 >>> ((8 : Int32).toUInt32 &&& Int32.toUInt32 31)).toInt32)).toUInt32 >>> ((16 : Int32).toUInt32 &&& Int32.toUInt32 31)).toInt32)) &&& 63)) w) : Wp 186 0 [some (.inl a)] [] w Q := Wp.run sm2_ok [] [] 43 _ _ _ _ _ _ h
theorem s_X4_lengthOf {w : PW} {Q : PQ} (a : Int32) (h : Q (.inl (lenO a)) w) : Wp 19 0 [some (.inl a)] [] w Q := by
  apply v_X4_lengthOf_0
  repeat' first | exact b01_0 | exact b01_1 | (apply And.intro) | (intro _)
  all_goals first
    | (rw [bb_f (by clear h; simp only [ti_lt, ti_le, ti_eq] at *; omega)] at h; exact h)
    | (rw [bb_t (by clear h; simp only [ti_lt, ti_le, ti_eq] at *; omega)] at h; exact h)
    | (simp only [bb_0, Decidable.not_not] at *; simp_all [lenO, bb])
theorem s_X7_isRow {w : PW} {Q : PQ} (o : Ob) (ho : o.2 = 70) (h : Q (.inl (bb ((1 : Int32) ≤ gI w o 0 ∧ gI w o 0 ≤ 4))) w) : Wp 49 0 [some (.inr (.inr o))] [] w Q := by
  obtain ⟨g, j⟩ := o
  have ho : j = 70 := ho
  subst ho
  apply v_X7_isRow_0
  repeat' first | exact b01_0 | exact b01_1 | (apply And.intro) | (intro _)
  all_goals first
    | (rw [bb_f (by clear h; simp only [ti_lt, ti_le, ti_eq] at *; omega)] at h; exact h)
    | (rw [bb_t (by clear h; simp only [ti_lt, ti_le, ti_eq] at *; omega)] at h; exact h)
    | (simp only [bb_0, Decidable.not_not] at *; simp_all [lenO, bb])
theorem s_X7_hasPlace {w : PW} {Q : PQ} (o : Ob) (a : Int32) (ho : o.2 = 70) (h : Q (.inl (bb ((0 : Int32) ≤ a ∧ a < gI w o 1))) w) : Wp 50 0 [some (.inr (.inr o)), some (.inl a)] [] w Q := by
  obtain ⟨g, j⟩ := o
  have ho : j = 70 := ho
  subst ho
  apply v_X7_hasPlace_0
  repeat' first | exact b01_0 | exact b01_1 | (apply And.intro) | (intro _)
  all_goals first
    | (rw [bb_f (by clear h; simp only [ti_lt, ti_le, ti_eq] at *; omega)] at h; exact h)
    | (rw [bb_t (by clear h; simp only [ti_lt, ti_le, ti_eq] at *; omega)] at h; exact h)
    | (simp only [bb_0, Decidable.not_not] at *; simp_all [lenO, bb])
theorem s_X7_hasSpan {w : PW} {Q : PQ} (o : Ob) (a : Int32) (b : Int32) (ho : o.2 = 70) (h : Q (.inl (bb ((0 : Int32) ≤ a ∧ (0 : Int32) ≤ b ∧ a ≤ gI w o 1 - b))) w) : Wp 51 0 [some (.inr (.inr o)), some (.inl a), some (.inl b)] [] w Q := by
  obtain ⟨g, j⟩ := o
  have ho : j = 70 := ho
  subst ho
  apply v_X7_hasSpan_0
  repeat' first | exact b01_0 | exact b01_1 | (apply And.intro) | (intro _)
  all_goals first
    | (rw [bb_f (by clear h; simp only [ti_lt, ti_le, ti_eq] at *; omega)] at h; exact h)
    | (rw [bb_t (by clear h; simp only [ti_lt, ti_le, ti_eq] at *; omega)] at h; exact h)
    | (simp only [bb_0, Decidable.not_not] at *; simp_all [lenO, bb])
theorem s_X0_isFull {w : PW} {Q : PQ} (o : Ob) (ho : o.2 = 54) (h : Q (.inl (bb (nI (len o.1 56) ≤ gI w o 3))) w) : Wp 0 0 [some (.inr (.inr o))] [] w Q := by
  obtain ⟨g, j⟩ := o
  have ho : j = 54 := ho
  subst ho
  apply v_X0_isFull_0
  repeat' first | exact b01_0 | exact b01_1 | (apply And.intro) | (intro _)
  all_goals first
    | (rw [bb_f (by clear h; simp only [ti_lt, ti_le, ti_eq] at *; omega)] at h; exact h)
    | (rw [bb_t (by clear h; simp only [ti_lt, ti_le, ti_eq] at *; omega)] at h; exact h)
    | (simp only [bb_0, Decidable.not_not] at *; simp_all [lenO, bb])
theorem s_X7_narrowed {w : PW} {Q : PQ} (o : Ob) (b : Int64) (ho : o.2 = 70) (h : Q (.inr (.inl (nar (gI w o 0) b))) w) : Wp 54 0 [some (.inr (.inr o)), some (.inr (.inl b)), none] [] w Q := by
  obtain ⟨g, j⟩ := o
  have ho : j = 70 := ho
  subst ho
  apply v_X7_narrowed_0
  unfold nar at h
  by_cases q1 : (gI w (g, 70) 0) = 1
  · simp only [q1] at h ⊢; simpa using h
  · by_cases q2 : (gI w (g, 70) 0) = 2
    · simp only [q2] at h ⊢; simpa using h
    · by_cases q3 : (gI w (g, 70) 0) = 3
      · simp only [q3] at h ⊢; simpa using h
      · simp only [q1, q2, q3, if_false] at h ⊢; simpa [q1, q2, q3] using h
theorem s_X10_narrow {w : PW} {Q : PQ} (a : Int32) (b : Int64) (h : Q (.inr (.inl (nar a b))) w) : Wp 181 0 [some (.inl a), some (.inr (.inl b)), none] [] w Q := by
  apply v_X10_narrow_0
  unfold nar at h
  by_cases q1 : a = 1
  · simp only [q1] at h ⊢; simpa using h
  · by_cases q2 : a = 2
    · simp only [q2] at h ⊢; simpa using h
    · by_cases q3 : a = 3
      · simp only [q3] at h ⊢; simpa using h
      · simp only [q1, q2, q3, if_false] at h ⊢; simpa [q1, q2, q3] using h
theorem s_J6_bitCount_0f7a4 {w : PW} {Q : PQ} (a : Int32) (h : Q (.inl (jbc a)) w) : Wp 186 0 [some (.inl a)] [] w Q := by
  exact v_J6_bitCount_0f7a4_0 a h
def sm3 : ST := fun mj => bif Nat.beq mj 95 then some (fun L w Q => match L with | [some (.inl a), some (.inl b), some (.inl c)] => Q (.inl (bb (b ≤ a ∧ a ≤ c))) w | _ => False) else bif Nat.beq mj 111 then some (fun L w Q => match L with | [some (.inl a), some (.inl b), some (.inl c)] => Q (.inl (bb (b ≤ a ∧ a ≤ c))) w | _ => False) else bif Nat.beq mj 17 then some (fun L w Q => match L with | [some (.inl a)] => Q (.inl (bb ((1 : Int32) ≤ a ∧ a ≤ 3))) w | _ => False) else bif Nat.beq mj 18 then some (fun L w Q => match L with | [some (.inl a)] => Q (.inl (bb (a = (1 : Int32) ∨ a = 2 ∨ a = 4 ∨ a = 5))) w | _ => False) else bif Nat.beq mj 19 then some (fun L w Q => match L with | [some (.inl a)] => Q (.inl (lenO a)) w | _ => False) else bif Nat.beq mj 49 then some (fun L w Q => match L with | [some (.inr (.inr o))] => bif Nat.beq o.2 70 then Q (.inl (bb ((1 : Int32) ≤ gI w o 0 ∧ gI w o 0 ≤ 4))) w else False | _ => False) else bif Nat.beq mj 50 then some (fun L w Q => match L with | [some (.inr (.inr o)), some (.inl a)] => bif Nat.beq o.2 70 then Q (.inl (bb ((0 : Int32) ≤ a ∧ a < gI w o 1))) w else False | _ => False) else bif Nat.beq mj 51 then some (fun L w Q => match L with | [some (.inr (.inr o)), some (.inl a), some (.inl b)] => bif Nat.beq o.2 70 then Q (.inl (bb ((0 : Int32) ≤ a ∧ (0 : Int32) ≤ b ∧ a ≤ gI w o 1 - b))) w else False | _ => False) else bif Nat.beq mj 0 then some (fun L w Q => match L with | [some (.inr (.inr o))] => bif Nat.beq o.2 54 then Q (.inl (bb (nI (len o.1 56) ≤ gI w o 3))) w else False | _ => False) else bif Nat.beq mj 54 then some (fun L w Q => match L with | [some (.inr (.inr o)), some (.inr (.inl b)), none] => bif Nat.beq o.2 70 then Q (.inr (.inl (nar (gI w o 0) b))) w else False | _ => False) else bif Nat.beq mj 181 then some (fun L w Q => match L with | [some (.inl a), some (.inr (.inl b)), none] => Q (.inr (.inl (nar a b))) w | _ => False) else bif Nat.beq mj 186 then some (fun L w Q => match L with | [some (.inl a)] => Q (.inl (jbc a)) w | _ => False) else none
theorem sm3_ok : SmOK sm3 := by
  intro mj f hf L w Q h
  unfold sm3 at hf
  cases hb : Nat.beq mj 95 with
  | true =>
    rw [hb, cond_true] at hf
    cases hf
    have hm := Nat.eq_of_beq_eq_true hb
    subst hm
    split at h
    · rename_i a b c
      exact s_X9_isWithin a b c h
    · exact h.elim
  | false =>
  rw [hb, cond_false] at hf
  cases hb : Nat.beq mj 111 with
  | true =>
    rw [hb, cond_true] at hf
    cases hf
    have hm := Nat.eq_of_beq_eq_true hb
    subst hm
    split at h
    · rename_i a b c
      exact s_X10_isIn a b c h
    · exact h.elim
  | false =>
  rw [hb, cond_false] at hf
  cases hb : Nat.beq mj 17 with
  | true =>
    rw [hb, cond_true] at hf
    cases hf
    have hm := Nat.eq_of_beq_eq_true hb
    subst hm
    split at h
    · rename_i a
      exact s_X4_hasCell a h
    · exact h.elim
  | false =>
  rw [hb, cond_false] at hf
  cases hb : Nat.beq mj 18 with
  | true =>
    rw [hb, cond_true] at hf
    cases hf
    have hm := Nat.eq_of_beq_eq_true hb
    subst hm
    split at h
    · rename_i a
      exact s_X4_hasNumber a h
    · exact h.elim
  | false =>
  rw [hb, cond_false] at hf
  cases hb : Nat.beq mj 19 with
  | true =>
    rw [hb, cond_true] at hf
    cases hf
    have hm := Nat.eq_of_beq_eq_true hb
    subst hm
    split at h
    · rename_i a
      exact s_X4_lengthOf a h
    · exact h.elim
  | false =>
  rw [hb, cond_false] at hf
  cases hb : Nat.beq mj 49 with
  | true =>
    rw [hb, cond_true] at hf
    cases hf
    have hm := Nat.eq_of_beq_eq_true hb
    subst hm
    split at h
    · rename_i o
      cases ho : Nat.beq o.2 70 with
      | true => rw [ho, cond_true] at h; exact s_X7_isRow o (Nat.eq_of_beq_eq_true ho) h
      | false => rw [ho, cond_false] at h; exact h.elim
    · exact h.elim
  | false =>
  rw [hb, cond_false] at hf
  cases hb : Nat.beq mj 50 with
  | true =>
    rw [hb, cond_true] at hf
    cases hf
    have hm := Nat.eq_of_beq_eq_true hb
    subst hm
    split at h
    · rename_i o a
      cases ho : Nat.beq o.2 70 with
      | true => rw [ho, cond_true] at h; exact s_X7_hasPlace o a (Nat.eq_of_beq_eq_true ho) h
      | false => rw [ho, cond_false] at h; exact h.elim
    · exact h.elim
  | false =>
  rw [hb, cond_false] at hf
  cases hb : Nat.beq mj 51 with
  | true =>
    rw [hb, cond_true] at hf
    cases hf
    have hm := Nat.eq_of_beq_eq_true hb
    subst hm
    split at h
    · rename_i o a b
      cases ho : Nat.beq o.2 70 with
      | true => rw [ho, cond_true] at h; exact s_X7_hasSpan o a b (Nat.eq_of_beq_eq_true ho) h
      | false => rw [ho, cond_false] at h; exact h.elim
    · exact h.elim
  | false =>
  rw [hb, cond_false] at hf
  cases hb : Nat.beq mj 0 with
  | true =>
    rw [hb, cond_true] at hf
    cases hf
    have hm := Nat.eq_of_beq_eq_true hb
    subst hm
    split at h
    · rename_i o
      cases ho : Nat.beq o.2 54 with
      | true => rw [ho, cond_true] at h; exact s_X0_isFull o (Nat.eq_of_beq_eq_true ho) h
      | false => rw [ho, cond_false] at h; exact h.elim
    · exact h.elim
  | false =>
  rw [hb, cond_false] at hf
  cases hb : Nat.beq mj 54 with
  | true =>
    rw [hb, cond_true] at hf
    cases hf
    have hm := Nat.eq_of_beq_eq_true hb
    subst hm
    split at h
    · rename_i o b
      cases ho : Nat.beq o.2 70 with
      | true => rw [ho, cond_true] at h; exact s_X7_narrowed o b (Nat.eq_of_beq_eq_true ho) h
      | false => rw [ho, cond_false] at h; exact h.elim
    · exact h.elim
  | false =>
  rw [hb, cond_false] at hf
  cases hb : Nat.beq mj 181 with
  | true =>
    rw [hb, cond_true] at hf
    cases hf
    have hm := Nat.eq_of_beq_eq_true hb
    subst hm
    split at h
    · rename_i a b
      exact s_X10_narrow a b h
    · exact h.elim
  | false =>
  rw [hb, cond_false] at hf
  cases hb : Nat.beq mj 186 with
  | true =>
    rw [hb, cond_true] at hf
    cases hf
    have hm := Nat.eq_of_beq_eq_true hb
    subst hm
    split at h
    · rename_i a
      exact s_J6_bitCount_0f7a4 a h
    · exact h.elim
  | false =>
  rw [hb, cond_false] at hf
  cases hf
abbrev smF : ST := sm3
theorem smF_ok : SmOK smF := sm3_ok

/-! a START in the model -/
def sv (c : Nat → Nat → Int32) (i q : Nat) : Int32 := match q with | 0 => c 4 i | 1 => c 5 i | 2 => if c 5 i = 0 then -2 else lv c (c 4) i | 6 => c 6 i | 7 => c 8 i | _ => 0
def SM (c : Nat → Nat → Int32) (R : Nat) (f : Nat → Int32) : Prop := (∀ b q, b < R → q < 12 → f (12 * b + q) = sv c b q) ∧ (∀ q, 288 ≤ q → q < 446 → f q = 0) ∧ (∀ r, r < 12 → f (446 + r) = -2) ∧ (∀ q, q < 9528 → f (10146 + q) = -1) ∧ f 19674 = 0
theorem ix_k2 {n : Nat} : (10146 : Int32) + nI n = nI (10146 + n) := by rw [show (10146 : Int32) = nI 10146 from rfl, nI_ad]
theorem ub_n {α : Type} {f : Nat → α} {k j : Nat} {v : α} (h : ¬ j = k) : ub f k v j = f j := ub_ne (beq_f h)
def up5 (f : Nat → Int32) (i : Nat) (a b d e g : Int32) : Nat → Int32 := ub (ub (ub (ub (ub f (12 * i + 0) a) (12 * i + 1) b) (12 * i + 2) d) (12 * i + 6) e) (12 * i + 7) g
theorem up5_ne {f i a b d e g q} (h : q < 12 * i ∨ 12 * i + 12 ≤ q) : up5 f i a b d e g q = f q := by
  unfold up5
  rw [ub_n (by omega), ub_n (by omega), ub_n (by omega), ub_n (by omega), ub_n (by omega)]
theorem up5_at {c : Nat → Nat → Int32} {f : Nat → Int32} {i : Nat} {d : Int32} (hd : d = if c 5 i = 0 then -2 else lv c (c 4) i) (h0 : ∀ q, 12 * i ≤ q → q < 12 * i + 12 → f q = 0) : ∀ q, q < 12 → up5 f i (c 4 i) (c 5 i) d (c 6 i) (c 8 i) (12 * i + q) = sv c i q := by
  intro q hq
  unfold up5
  rcases (show q = 0 ∨ q = 1 ∨ q = 2 ∨ q = 6 ∨ q = 7 ∨ (¬ q = 0 ∧ ¬ q = 1 ∧ ¬ q = 2 ∧ ¬ q = 6 ∧ ¬ q = 7) by omega) with rfl | rfl | rfl | rfl | rfl | hn
  · rw [ub_n (by omega), ub_n (by omega), ub_n (by omega), ub_n (by omega), ub_same]; rfl
  · rw [ub_n (by omega), ub_n (by omega), ub_n (by omega), ub_same]; rfl
  · rw [ub_n (by omega), ub_n (by omega), ub_same, hd]; rfl
  · rw [ub_n (by omega), ub_same]; rfl
  · rw [ub_same]; rfl
  · rw [ub_n (by omega), ub_n (by omega), ub_n (by omega), ub_n (by omega), ub_n (by omega), h0 _ (by omega) (by omega)]
    unfold sv
    split <;> first | omega | rfl
theorem m_starts {w : PW} {a R : Nat} {c : Nat → Nat → Int32} {se : Int32} {k : PW → Prop} (hR : gI w (0, 90) 30 = nI R) (hck : CK c se R) (hce : CE R c (cm w)) (hk : ∀ f, SM c R f → k (aI w (a, 114) f)) : Cl 116 [vO 0 90, vO a 114] w (kV k) := by
  have h24 := hck.2.1
  apply v_X10_starts_0
  have o : ∀ (f : Nat → Int32) g j, ¬ j = 114 → gI (aI w (a, 114) f) (g, j) = gI w (g, j) := fun f g j hj => gI_ao (beq_f hj)
  refine cntI (L := fun x => [some (.inr (.inr (0, 90))), some (.inr (.inr (a, 114))), some (.inl x)]) 19675 (fun i w' => ∃ f : Nat → Int32, w' = aI w (a, 114) f ∧ ∀ q, q < i → f q = 0) rfl ⟨gI w (a, 114), aI_self.symm, fun r hr => absurd hr (Nat.not_lt_zero _)⟩ ?_ ?_
  · rintro w1 ⟨f1, rfl, hf1⟩
    apply v_X10_starts_2
    refine ⟨fun _ => ?_, fun e => absurd e (by decide)⟩
    refine cntI (L := fun x => [some (.inr (.inr (0, 90))), some (.inr (.inr (a, 114))), some (.inl x)]) R (fun i w' => ∃ f : Nat → Int32, w' = aI w (a, 114) f ∧ (∀ b q, b < i → q < 12 → f (12 * b + q) = sv c b q) ∧ ∀ q, 12 * i ≤ q → q < 19675 → f q = 0) rfl ⟨f1, rfl, fun b q hb => absurd hb (Nat.not_lt_zero _), fun q _ h => hf1 q h⟩ ?_ ?_
    · rintro w2 ⟨f2, rfl, p2, q2⟩
      apply v_X10_starts_21
      rw [o f2 0 90 (by omega), hR]
      refine ⟨fun _ => ?_, fun e => absurd e (by rw [lt_nI (by omega) (by omega)]; omega)⟩
      refine cntI (L := fun x => [none, some (.inr (.inr (a, 114))), some (.inl x)]) 12 (fun i w' => ∃ f : Nat → Int32, w' = aI w (a, 114) f ∧ (∀ b q, b < R → q < 12 → f (12 * b + q) = sv c b q) ∧ (∀ q, 288 ≤ q → q < 446 → f q = 0) ∧ (∀ r, r < i → f (446 + r) = -2) ∧ f 19674 = 0) rfl ⟨f2, rfl, p2, fun q a1 a2 => q2 q (by omega) (by omega), fun r hr => absurd hr (Nat.not_lt_zero _), q2 _ (by omega) (by omega)⟩ ?_ ?_
      · rintro w3 ⟨f3, rfl, a3, b3, c3, d3⟩
        apply v_X10_starts_118
        refine ⟨fun _ => ?_, fun e => absurd e (by decide)⟩
        refine cntI (L := fun x => [none, some (.inr (.inr (a, 114))), some (.inl x)]) 9528 (fun i w' => ∃ f : Nat → Int32, w' = aI w (a, 114) f ∧ (∀ b q, b < R → q < 12 → f (12 * b + q) = sv c b q) ∧ (∀ q, 288 ≤ q → q < 446 → f q = 0) ∧ (∀ r, r < 12 → f (446 + r) = -2) ∧ (∀ q, q < i → f (10146 + q) = -1) ∧ f 19674 = 0) rfl ⟨f3, rfl, a3, b3, c3, fun r hr => absurd hr (Nat.not_lt_zero _), d3⟩ ?_ ?_
        · rintro w4 ⟨f4, rfl, h4⟩
          apply v_X10_starts_141
          exact ⟨fun _ => hk f4 h4, fun e => absurd e (by decide)⟩
        · rintro i w4 hi ⟨f4, rfl, a4, b4, c4, e4, d4⟩ hx
          apply v_X10_starts_141
          rw [ix_k2, cl_nI (by omega), nI_s1, sI_aI]
          refine ⟨fun e => absurd e (by rw [show (9528 : Int32) = nI 9528 from rfl, le_nI (by omega) (by omega)]; omega), fun _ => ⟨in_nI (by omega) (by omega), hx _ ⟨_, rfl, fun b q hb hq => ?_, fun q h1 h2 => ?_, fun r hr => ?_, fun q hq => ?_, ?_⟩⟩⟩
          · rw [ub_n (by omega)]; exact a4 b q hb hq
          · rw [ub_n (by omega)]; exact b4 q h1 h2
          · rw [ub_n (by omega)]; exact c4 r hr
          · by_cases e : q = i
            · subst e; rw [ub_same]
            · rw [ub_n (by omega)]; exact e4 q (by omega)
          · rw [ub_n (by omega)]; exact d4
      · rintro i w3 hi ⟨f3, rfl, a3, b3, c3, d3⟩ hx
        apply v_X10_starts_118
        rw [ix_c, cl_nI (by omega), nI_s1, sI_aI]
        refine ⟨fun e => absurd e (by rw [show (12 : Int32) = nI 12 from rfl, le_nI (by omega) (by omega)]; omega), fun _ => ⟨in_nI (by omega) (by omega), hx _ ⟨_, rfl, fun b q hb hq => ?_, fun q h1 h2 => ?_, fun r hr => ?_, ?_⟩⟩⟩
        · rw [ub_n (by omega)]; exact a3 b q hb hq
        · rw [ub_n (by omega)]; exact b3 q h1 h2
        · by_cases e : r = i
          · subst e; rw [ub_same]
          · rw [ub_n (by omega)]; exact c3 r (by omega)
        · rw [ub_n (by omega)]; exact d3
    · rintro i w2 hi ⟨f2, rfl, p2, q2⟩ hx
      have k4 : gI w (0, 95) i = c 4 i := hce 4 i (by omega) hi
      have k5 : gI w (0, 96) i = c 5 i := hce 5 i (by omega) hi
      have k6 : gI w (0, 97) i = c 6 i := hce 6 i (by omega) hi
      have k8 : gI w (0, 99) i = c 8 i := hce 8 i (by omega) hi
      have k1 : gI w (0, 92) i = c 1 i := hce 1 i (by omega) hi
      have k2 : gI w (0, 93) i = c 2 i := hce 2 i (by omega) hi
      have kk := hck.2.2.2 i hi
      have n2 : ¬ c 2 i = 0 := fun e => by have := kk.2.2.1; rw [e, tl0] at this; omega
      have fin : ∀ d, (d = if c 5 i = 0 then -2 else lv c (c 4) i) → Wp 116 21 [some (.inr (.inr (0, 90))), some (.inr (.inr (a, 114))), some (.inl (nI (i + 1)))] [] (aI w (a, 114) (up5 f2 i (c 4 i) (c 5 i) d (c 6 i) (c 8 i))) (kV k) := by
        intro d hd
        refine hx _ ⟨_, rfl, fun b q hb hq => ?_, fun q h1 h2 => ?_⟩
        · by_cases e : b = i
          · subst e
            exact up5_at hd (fun q h1 h2 => q2 q h1 (by omega)) q hq
          · rw [up5_ne (by omega)]; exact p2 b q (by omega) hq
        · rw [up5_ne (by omega)]; exact q2 q (by omega) h2
      have i24 : vp_in (nI i) 24 := in_nI (by omega) (by omega)
      have j0 : vp_in (nI (12 * i + 0)) 19675 := in_nI (by omega) (by omega)
      have j1 : vp_in (nI (12 * i + 1)) 19675 := in_nI (by omega) (by omega)
      have j2 : vp_in (nI (12 * i + 2)) 19675 := in_nI (by omega) (by omega)
      have j6 : vp_in (nI (12 * i + 6)) 19675 := in_nI (by omega) (by omega)
      have j7 : vp_in (nI (12 * i + 7)) 19675 := in_nI (by omega) (by omega)
      apply v_X10_starts_21
      simp only [ix_0, ix_1, ix_2, ix_6, ix_7]
      rw [cl_nI (by omega), cl_nI (by omega), cl_nI (by omega), cl_nI (by omega), cl_nI (by omega), cl_nI (by omega), nI_s1, o f2 0 90 (by omega), o f2 0 92 (by omega), o f2 0 93 (by omega), o f2 0 95 (by omega), o f2 0 96 (by omega), o f2 0 97 (by omega), o f2 0 99 (by omega), hR, k1, k2, k4, k5, k6, k8]
      simp only [sI_aI]
      refine ⟨fun e => absurd e (by rw [le_nI (by omega) (by omega)]; omega), fun _ => ⟨i24, j0, i24, j1, i24, fun g => ⟨j2, i24, j6, i24, j7, fin _ ?_⟩, fun g => ⟨i24, j0, i24, n2, j2, i24, j6, i24, j7, fin _ ?_⟩⟩⟩
      · rw [if_pos (by have := kk.2.2.2.2.2.1; rw [ti_eq, tl0]; rw [ti_le, tl0] at g; omega)]
      · rw [if_neg (fun e => by rw [e] at g; exact absurd g (by decide)), gI_aI, ub_n (by omega), ub_same]; rfl
  · rintro i w1 hi ⟨f1, rfl, hf1⟩ hx
    apply v_X10_starts_2
    rw [cl_nI (by omega), nI_s1, sI_aI]
    refine ⟨fun e => absurd e (by rw [show (19675 : Int32) = nI 19675 from rfl, le_nI (by omega) (by omega)]; omega), fun _ => ⟨in_nI (by omega) (by omega), hx _ ⟨_, rfl, fun q hq => ?_⟩⟩⟩
    by_cases e : q = i
    · subst e; rw [ub_same]
    · rw [ub_n e]; exact hf1 q (by omega)

/-! begin, in the model, and on both sides */ -/
def mo11 (w : PW) (i : Nat) (b : Int32) : PW := sI (sI (sI (sI (sI (sI (sI (sI (sI (sI (sI w (0, 91) i 0) (0, 92) i b) (0, 93) i 10) (0, 94) i 20) (0, 95) i 0) (0, 96) i 0) (0, 97) i 0) (0, 98) i 4000) (0, 99) i 0) (0, 100) i (-1)) (0, 101) i 0
theorem mo11_at {w : PW} {i : Nat} {b : Int32} : ∀ f, f ≤ 10 → ¬ f = 1 → ∀ N, gI (mo11 w i b) (0, 91 + f) = ub (gI w (0, 91 + f)) i (lo N f i) := by
  intro f hf h1 N
  unfold mo11
  rcases (show f = 0 ∨ f = 2 ∨ f = 3 ∨ f = 4 ∨ f = 5 ∨ f = 6 ∨ f = 7 ∨ f = 8 ∨ f = 9 ∨ f = 10 by omega) with rfl | rfl | rfl | rfl | rfl | rfl | rfl | rfl | rfl | rfl
  all_goals
    simp (disch := decide) only [gI_s, gI_so, Nat.reduceAdd]
    rfl
theorem mo11_1 {w : PW} {i : Nat} {b : Int32} : gI (mo11 w i b) (0, 92) = ub (gI w (0, 92)) i b := by
  unfold mo11
  simp (disch := decide) only [gI_s, gI_so]
theorem mo11_fr {w : PW} {i : Nat} {b : Int32} : ∀ a j, ¬ (a = 0 ∧ 91 ≤ j ∧ j ≤ 101) → gI (mo11 w i b) (a, j) = gI w (a, j) := by
  intro a j hh
  unfold mo11
  rw [sI_ne (by omega), sI_ne (by omega), sI_ne (by omega), sI_ne (by omega), sI_ne (by omega), sI_ne (by omega), sI_ne (by omega), sI_ne (by omega), sI_ne (by omega), sI_ne (by omega), sI_ne (by omega)]
theorem ix_64 {a : Nat} : (64 : Int32) * nI a = nI (64 * a) := by rw [show (64 : Int32) = nI 64 from rfl, nI_ml]
def clm' (w : PW) (b : Nat) : Prop := gI w (0, 104) b = 1 ∧ gI w (0, 102) (64 * b) = 0 ∧ gI w (0, 103) (64 * b) = 0
theorem clm_WTm {w b} (h : clm' w b) : WTm w b 1 (fun _ => 0) (fun _ => 0) := ⟨h.1, fun q hq => by obtain rfl : q = 0 := (by omega); exact h.2⟩
theorem m_begin {w : PW} {N : Nat} {k : Int32 → PW → Prop} (h2 : 2 ≤ N) (h24 : N ≤ 24)
    (hk : ∀ w' f, w'.2 = w.2 → (∀ a j, ¬ ((a = 0 ∧ ((90 ≤ j ∧ j ≤ 104))) ∨ (a = 1 ∧ j = 114)) → gI w' (a, j) = gI w (a, j)) →
      gI w' (0, 90) 30 = nI N → gI w' (0, 90) 31 = 0 → gI w' (0, 90) 32 = 2 → gI w' (0, 90) 33 = 0 → gI w' (0, 90) 34 = 0 → gI w' (0, 90) 35 = 0 → gI w' (0, 90) 36 = 0 → gI w' (0, 90) 37 = gI w (0, 90) 37 + 1 →
      (∀ f i, f ≤ 10 → i < N → cm w' f i = lo N f i) → (∀ b, b < 4 → clm' w' b) → gI w' (1, 114) = f → SM (lo N) N f → k (nI N) w') : Cl 115 [vO 0 90, vI (nI N)] w (kI k) := by
  apply v_X10_begin_0
  refine bbj (fun _ => ?_) (fun e => absurd ⟨by rw [show (2 : Int32) = nI 2 from rfl, le_nI (by omega) (by omega)]; exact h2, by rw [show (24 : Int32) = nI 24 from rfl, le_nI (by omega) (by omega)]; exact h24⟩ e)
  have e30 : gI (sI w (0, 90) 30 (nI N)) (0, 90) 30 = nI N := gI_sat
  have e37 : gI (sI w (0, 90) 30 (nI N)) (0, 90) 37 = gI w (0, 90) 37 := gI_sN rfl
  have f0 : (sI w (0, 90) 30 (nI N)).2 = w.2 ∧ ∀ a j, ¬ (a = 0 ∧ j = 90) → gI (sI w (0, 90) 30 (nI N)) (a, j) = gI w (a, j) := ⟨rfl, fun a j hh => sI_ne hh⟩
  generalize sI w (0, 90) 30 (nI N) = w0 at e30 e37 f0 ⊢
  refine cntI (L := fun x => [some (.inr (.inr (0, 90))), some (.inl (nI N)), some (.inl x)]) 24 (fun i w' => (w'.2 = w0.2 ∧ ∀ a j, ¬ (a = 0 ∧ 91 ≤ j ∧ j ≤ 101) → gI w' (a, j) = gI w0 (a, j)) ∧ ∀ f b, f ≤ 10 → b < i → b < N → cm w' f b = lo N f b) rfl ⟨⟨rfl, fun _ _ _ => rfl⟩, fun f b _ hb => absurd hb (Nat.not_lt_zero _)⟩ ?_ ?_
  · rintro w1 ⟨f1, q1⟩
    apply v_X10_begin_19
    refine ⟨fun _ => ?_, fun e => absurd e (by decide)⟩
    refine cntI (L := fun x => [some (.inr (.inr (0, 90))), some (.inl (nI N)), some (.inl x)]) 4 (fun i w' => (w'.2 = w1.2 ∧ ∀ a j, ¬ (a = 0 ∧ 102 ≤ j ∧ j ≤ 104) → gI w' (a, j) = gI w1 (a, j)) ∧ ∀ b, b < i → clm' w' b) rfl ⟨⟨rfl, fun _ _ _ => rfl⟩, fun b hb => absurd hb (Nat.not_lt_zero _)⟩ ?_ ?_
    · rintro w2 ⟨f2, q2⟩
      apply v_X10_begin_121
      refine ⟨fun _ => ?_, fun e => absurd e (by decide)⟩
      have e2 : gI w2 (0, 90) = gI w0 (0, 90) := by rw [f2.2 0 90 (by omega), f1.2 0 90 (by omega)]
      generalize hw3 : sI (sI (sI (sI (sI (sI (sI w2 (0, 90) 31 0) (0, 90) 32 2) (0, 90) 33 0) (0, 90) 34 0) (0, 90) 35 0) (0, 90) 36 0) (0, 90) 37 ((gI w2 (0, 90) 37) + 1) = w3
      have f3 : w3.2 = w2.2 ∧ ∀ a j, ¬ (a = 0 ∧ j = 90) → gI w3 (a, j) = gI w2 (a, j) := by
        subst hw3
        exact ⟨rfl, fun a j hh => by rw [sI_ne hh, sI_ne hh, sI_ne hh, sI_ne hh, sI_ne hh, sI_ne hh, sI_ne hh]⟩
      have g30 : gI w3 (0, 90) 30 = nI N := by subst hw3; rw [gI_sN rfl, gI_sN rfl, gI_sN rfl, gI_sN rfl, gI_sN rfl, gI_sN rfl, gI_sN rfl, e2]; exact e30
      have g31 : gI w3 (0, 90) 31 = 0 := by subst hw3; rw [gI_sN rfl, gI_sN rfl, gI_sN rfl, gI_sN rfl, gI_sN rfl, gI_sN rfl, gI_sat]
      have g32 : gI w3 (0, 90) 32 = 2 := by subst hw3; rw [gI_sN rfl, gI_sN rfl, gI_sN rfl, gI_sN rfl, gI_sN rfl, gI_sat]
      have g33 : gI w3 (0, 90) 33 = 0 := by subst hw3; rw [gI_sN rfl, gI_sN rfl, gI_sN rfl, gI_sN rfl, gI_sat]
      have g34 : gI w3 (0, 90) 34 = 0 := by subst hw3; rw [gI_sN rfl, gI_sN rfl, gI_sN rfl, gI_sat]
      have g35 : gI w3 (0, 90) 35 = 0 := by subst hw3; rw [gI_sN rfl, gI_sN rfl, gI_sat]
      have g36 : gI w3 (0, 90) 36 = 0 := by subst hw3; rw [gI_sN rfl, gI_sat]
      have g37 : gI w3 (0, 90) 37 = gI w (0, 90) 37 + 1 := by subst hw3; rw [gI_sat, e2, e37]
      clear hw3
      have s3 : ∀ f i, f ≤ 10 → i < N → cm w3 f i = lo N f i := fun f i hf hi => by
        show gI w3 (0, 91 + f) i = _
        rw [f3.2 0 (91 + f) (by omega), f2.2 0 (91 + f) (by omega)]; exact q1 f i hf (by omega) hi
      have s4 : ∀ b, b < 4 → clm' w3 b := fun b hb => by
        unfold clm'; rw [f3.2 0 102 (by omega), f3.2 0 103 (by omega), f3.2 0 104 (by omega)]; exact q2 b hb
      refine m_starts (c := lo N) (se := 0) (R := N) g30 (lo_CK h2 h24 (fun _ _ _ _ => rfl)) (fun f i hf hi => s3 f i hf hi) ?_
      intro f sm
      have o : ∀ a j, ¬ j = 114 → gI (aI w3 (1, 114) f) (a, j) = gI w3 (a, j) := fun a j hj => gI_ao (beq_f hj)
      refine hk _ f ?_ ?_ (by rw [o _ _ (by omega)]; exact g30) (by rw [o _ _ (by omega)]; exact g31) (by rw [o _ _ (by omega)]; exact g32) (by rw [o _ _ (by omega)]; exact g33) (by rw [o _ _ (by omega)]; exact g34) (by rw [o _ _ (by omega)]; exact g35) (by rw [o _ _ (by omega)]; exact g36) (by rw [o _ _ (by omega)]; exact g37) ?_ ?_ gI_aI sm
      · show w3.2 = w.2
        rw [f3.1, f2.1, f1.1, f0.1]
      · intro a j hh
        rw [aI_ne (by omega), f3.2 a j (by omega), f2.2 a j (by omega), f1.2 a j (by omega), f0.2 a j (by omega)]
      · intro q i hq hi
        show gI (aI w3 (1, 114) f) (0, 91 + q) i = _
        rw [o _ _ (by omega)]; exact s3 q i hq hi
      · intro b hb
        unfold clm'; rw [o _ _ (by omega), o _ _ (by omega), o _ _ (by omega)]; exact s4 b hb
    · rintro i w2 hi ⟨f2, q2⟩ hx
      apply v_X10_begin_121
      rw [ix_64, cl_nI (by omega), cl_nI (by omega), nI_s1]
      have i256 : vp_in (nI (64 * i)) 256 := in_nI (by omega) (by omega)
      refine ⟨fun e => absurd e (by rw [show (4 : Int32) = nI 4 from rfl, le_nI (by omega) (by omega)]; omega), fun _ => ⟨in_nI (by omega) (by omega), i256, i256, hx _ ⟨⟨f2.1, fun a j hh => by rw [sI_ne (by omega), sI_ne (by omega), sI_ne (by omega)]; exact f2.2 a j hh⟩, fun b hb => ?_⟩⟩⟩
      unfold clm'
      rw [sI_ne (j := 104) (by omega), sI_ne (j := 104) (by omega), gI_s, sI_ne (j := 102) (by omega), gI_s, sI_ne (j := 102) (by omega), gI_s, sI_ne (j := 103) (by omega), sI_ne (j := 103) (by omega), ub_eq, ub_eq, ub_eq]
      by_cases e : b = i
      · subst e; rw [if_pos rfl, if_pos rfl, if_pos rfl]; exact ⟨rfl, rfl, rfl⟩
      · rw [if_neg e, if_neg (by omega), if_neg (by omega)]; exact q2 b (by omega)
  · rintro i w1 hi ⟨f1, q1⟩ hx
    apply v_X10_begin_19
    rw [cl_nI (by omega), nI_s1]
    have i24 : vp_in (nI i) 24 := in_nI (by omega) (by omega)
    refine ⟨fun e => absurd e (by rw [show (24 : Int32) = nI 24 from rfl, le_nI (by omega) (by omega)]; omega), fun _ => ⟨i24, i24, i24, i24, i24, i24, i24, i24, i24, i24, b01_0, i24, hx (mo11 w1 i (100 * ((nI N - 1) - nI i))) ⟨⟨f1.1, fun a j hh => by rw [mo11_fr a j hh]; exact f1.2 a j hh⟩, fun f b hf hb hN => ?_⟩⟩⟩
    show gI (mo11 w1 i (100 * ((nI N - 1) - nI i))) (0, 91 + f) b = _
    by_cases e1 : f = 1
    · subst e1
      rw [show 91 + 1 = 92 from rfl, mo11_1, ub_eq]
      by_cases e : b = i
      · rw [if_pos e, ← e, lo_1 hN]; rfl
      · rw [if_neg e]; exact q1 1 b hf (by omega) hN
    · rw [mo11_at f hf e1 N, ub_eq]
      by_cases e : b = i
      · rw [if_pos e, e]
      · rw [if_neg e]; exact q1 f b hf (by omega) hN

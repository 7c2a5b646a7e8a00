/-! begin, on the class's side */ -/
def lo (N f i : Nat) : Int32 := match f with | 1 => nI (100 * (N - 1 - i)) | 2 => 10 | 3 => 20 | 7 => 4000 | 9 => -1 | _ => 0
theorem lo_1 {N i : Nat} (h : i < N) : (100 : Int32) * ((nI N - 1) - nI i) = nI (100 * (N - 1 - i)) := by
  obtain ⟨m, rfl⟩ : ∃ m, N = m + 1 := ⟨N - 1, by omega⟩
  rw [nI_m1, nI_sb (by omega), show (100 : Int32) = nI 100 from rfl, nI_ml]; rfl
theorem lo_CK {N : Nat} {c : Nat → Nat → Int32} (h2 : 2 ≤ N) (h24 : N ≤ 24) (h : ∀ f i, f ≤ 10 → i < N → c f i = lo N f i) : CK c 0 N := by
  refine ⟨h2, h24, by rw [tl0]; omega, fun i hi => ?_⟩
  have e1 : (lo N 1 i).toInt = ((100 * (N - 1 - i) : Nat) : Int) := ti_nI (by omega)
  rw [h 0 i (by omega) hi, h 1 i (by omega) hi, h 2 i (by omega) hi, h 3 i (by omega) hi, h 4 i (by omega) hi, h 5 i (by omega) hi, h 6 i (by omega) hi, h 7 i (by omega) hi, h 8 i (by omega) hi, h 9 i (by omega) hi, e1,
    show lo N 0 i = 0 from rfl, show lo N 2 i = 10 from rfl, show lo N 3 i = 20 from rfl, show lo N 4 i = 0 from rfl, show lo N 5 i = 0 from rfl, show lo N 6 i = 0 from rfl, show lo N 7 i = 4000 from rfl, show lo N 8 i = 0 from rfl, show lo N 9 i = -1 from rfl,
    tl0, tl10, tl20, tlm1, show (4000 : Int32).toInt = 4000 from rfl]
  omega
def lo11 (w : PW) (i : Nat) (b : Int32) : PW := sI (sI (sI (sI (sI (sI (sI (sI (sI (sI (sI w (0, 2) i 0) (0, 3) i b) (0, 4) i 10) (0, 5) i 20) (0, 6) i 0) (0, 7) i 0) (0, 8) i 0) (0, 9) i 4000) (0, 10) i 0) (0, 11) i (-1)) (0, 12) i 0
theorem lo11_at {w : PW} {i N : Nat} : ∀ f, f ≤ 10 → gI (lo11 w i (nI (100 * (N - 1 - i)))) (0, 2 + f) = ub (gI w (0, 2 + f)) i (lo N f i) := by
  intro f hf
  unfold lo11
  rcases (show f = 0 ∨ f = 1 ∨ f = 2 ∨ f = 3 ∨ f = 4 ∨ f = 5 ∨ f = 6 ∨ f = 7 ∨ f = 8 ∨ f = 9 ∨ f = 10 by omega) with rfl | rfl | rfl | rfl | rfl | rfl | rfl | rfl | rfl | rfl | rfl
  all_goals
    simp (disch := decide) only [gI_s, gI_so, Nat.reduceAdd]
    rfl
theorem lo11_fr {w : PW} {i : Nat} {b : Int32} : ∀ a j, ¬ (a = 0 ∧ 2 ≤ j ∧ j ≤ 12) → gI (lo11 w i b) (a, j) = gI w (a, j) := by
  intro a j hh
  unfold lo11
  rw [sI_ne (by omega), sI_ne (by omega), sI_ne (by omega), sI_ne (by omega), sI_ne (by omega), sI_ne (by omega), sI_ne (by omega), sI_ne (by omega), sI_ne (by omega), sI_ne (by omega), sI_ne (by omega)]
/-- the frame of a river laid out -/
def FR (w w' : PW) : Prop := w'.2 = w.2 ∧ ∀ a j, ¬ (a = 0 ∧ 1 ≤ j ∧ j ≤ 12) → gI w' (a, j) = gI w (a, j)
theorem c_river {w : PW} {N : Nat} {k : PW → Prop} (h2 : 2 ≤ N) (h24 : N ≤ 24) (hk : ∀ w', FR w w' → gI w' (0, 1) 0 = nI N → gI w' (0, 1) 1 = 0 → gI w' (0, 1) 2 = 2 → (∀ f i, f ≤ 10 → i < N → cf w' f i = lo N f i) → k w') : Cl 15 [vO 0 1, vI (nI N)] w (kV k) := by
  apply v_X3_layOut_0
  generalize hw1 : sI (sI (sI w (0, 1) 0 (nI N)) (0, 1) 1 0) (0, 1) 2 2 = w1
  have fr1 : FR w w1 := by
    subst hw1
    exact ⟨rfl, fun a j hh => by rw [sI_ne (by omega), sI_ne (by omega), sI_ne (by omega)]⟩
  have e0 : gI w1 (0, 1) 0 = nI N := by subst hw1; rw [gI_sN rfl, gI_sN rfl, gI_sat]
  have e1 : gI w1 (0, 1) 1 = 0 := by subst hw1; rw [gI_sN rfl, gI_sat]
  have e2 : gI w1 (0, 1) 2 = 2 := by subst hw1; rw [gI_sat]
  clear hw1
  refine cntI (L := fun x => [some (.inr (.inr (0, 1))), some (.inl (nI N)), some (.inl x)]) N (fun i w' => FR w w' ∧ gI w' (0, 1) = gI w1 (0, 1) ∧ ∀ f b, f ≤ 10 → b < i → cf w' f b = lo N f b) rfl ⟨fr1, rfl, fun f b _ hb => absurd hb (Nat.not_lt_zero _)⟩ ?_ ?_
  · rintro w' ⟨q1, q2, q3⟩
    apply v_X3_layOut_17
    refine ⟨fun _ => hk w' q1 (by rw [q2]; exact e0) (by rw [q2]; exact e1) (by rw [q2]; exact e2) q3, fun e => absurd e (by rw [lt_nI (by omega) (by omega)]; omega)⟩
  · rintro i w' hi ⟨q1, q2, q3⟩ hx
    apply v_X3_layOut_17
    rw [lo_1 hi, cl_nI (by omega), nI_s1]
    have i24 : vp_in (nI i) 24 := in_nI (by omega) (by omega)
    refine ⟨fun e => absurd e (by rw [le_nI (by omega) (by omega)]; omega), fun _ => ⟨i24, i24, i24, i24, i24, i24, i24, i24, i24, i24, b01_0, i24, hx (lo11 w' i (nI (100 * (N - 1 - i)))) ⟨⟨q1.1, fun a j hh => by rw [lo11_fr a j (by omega)]; exact q1.2 a j hh⟩, by rw [lo11_fr 0 1 (by omega)]; exact q2, fun f b hf hb => ?_⟩⟩⟩
    show gI (lo11 w' i (nI (100 * (N - 1 - i)))) (0, 2 + f) b = _
    rw [lo11_at f hf, ub_eq]
    by_cases e : b = i
    · rw [if_pos e, e]
    · rw [if_neg e]; exact q3 f b hf (by omega)
/-- the WEATHERS are calm -/
def FWt (w w' : PW) : Prop := w'.2 = w.2 ∧ ∀ a j, ¬ (a < 4 ∧ 80 ≤ j ∧ j ≤ 82) → gI w' (a, j) = gI w (a, j)
def clm (w : PW) (b : Nat) : Prop := gI w (b, 80) 2 = 1 ∧ gI w (b, 81) 0 = 0 ∧ gI w (b, 82) 0 = 0
theorem clm_WTc {w b} (h : clm w b) : WTc w b 1 (fun _ => 0) (fun _ => 0) := ⟨h.1, fun q hq => by obtain rfl : q = 0 := (by omega); exact h.2⟩
theorem c_calm {w : PW} {b : Nat} {k : PW → Prop} (hk : ∀ w', w'.2 = w.2 → (∀ a j, ¬ (a = b ∧ 80 ≤ j ∧ j ≤ 82) → gI w' (a, j) = gI w (a, j)) → clm w' b → k w') : Cl 55 [vO b 80] w (kV k) := by
  apply v_X8_calm_0
  have i64 : vp_in 0 64 := in_nI (j := 0) (by omega) (by omega)
  refine ⟨i64, i64, hk _ rfl (fun a j hh => by rw [sI_ne (by omega), sI_ne (by omega), sI_ne (by omega)]) ⟨?_, ?_, ?_⟩⟩
  · rw [sI_ne (j := 80) (by omega), sI_ne (j := 80) (by omega), gI_sat]
  · rw [sI_ne (j := 81) (by omega), gI_sat]
  · rw [gI_sat]
theorem c_layOut {w : PW} {N : Nat} {k : PW → Prop} (h2 : 2 ≤ N) (h24 : N ≤ 24)
    (hk : ∀ w' σ ca, w'.2 = w.2 → (∀ a j, ¬ ((a = 0 ∧ j ≤ 31) ∨ (a < 4 ∧ 80 ≤ j ∧ j ≤ 82) ∨ (a = 99 ∧ j = 54) ∨ (a = 1 ∧ 40 ≤ j ∧ j ≤ 53) ∨ ((a = 102 ∨ a = 103) ∧ 54 ≤ j ∧ j ≤ 57) ∨ (a = 1 ∧ j = 62)) → gI w' (a, j) = gI w (a, j)) →
      gI w' (0, 1) 0 = nI N → gI w' (0, 1) 1 = 0 → gI w' (0, 1) 2 = 2 → (∀ f i, f ≤ 10 → i < N → cf w' f i = lo N f i) → (∀ b, b < 4 → clm w' b) → gI w' (0, 14) 6 = 0 → gI w' (99, 54) 3 = 0 → gI w' (0, 25) 3 = 0 → gI w' (0, 0) 10 = 0 → gI w' (0, 0) 9 = gI w (0, 0) 9 + 1 →
      CSt w' 1 σ (nI 0) 0 0 0 [] [] ca → (∀ i, i < N → stc (cf w') i σ) → (∀ r, r < 12 → ca r = -2) → gI w' (1, 62) 6 = 0 → k w') : Cl 104 [vO 0 0, vI (nI N)] w (kV k) := by
  apply v_X9_layOut_0
  refine c_river h2 h24 ?_
  intro w1 f1 r0 r1 r2 r3
  refine cntI (L := fun x => [some (.inr (.inr (0, 0))), none, some (.inl x)]) 4 (fun i w' => FWt w1 w' ∧ ∀ b, b < i → clm w' b) rfl ⟨⟨rfl, fun _ _ _ => rfl⟩, fun b hb => absurd hb (Nat.not_lt_zero _)⟩ ?_ ?_
  · rintro w2 ⟨f2, q2⟩
    apply v_X9_layOut_10
    refine ⟨fun _ => ?_, fun e => absurd e (by decide)⟩
    generalize hw3 : sI (sI (sI (sI (sI w2 (0, 14) 6 0) (99, 54) 3 0) (0, 25) 3 0) (0, 0) 10 0) (0, 0) 9 ((gI w2 (0, 0) 9) + 1) = w3
    have f3 : w3.2 = w2.2 ∧ ∀ a j, ¬ ((a = 0 ∧ (j = 0 ∨ j = 14 ∨ j = 25)) ∨ (a = 99 ∧ j = 54)) → gI w3 (a, j) = gI w2 (a, j) := by
      subst hw3
      exact ⟨rfl, fun a j hh => by rw [sI_ne (by omega), sI_ne (by omega), sI_ne (by omega), sI_ne (by omega), sI_ne (by omega)]⟩
    have g14 : gI w3 (0, 14) 6 = 0 := by subst hw3; rw [sI_ne (by omega), sI_ne (by omega), sI_ne (by omega), sI_ne (by omega), gI_sat]
    have g54 : gI w3 (99, 54) 3 = 0 := by subst hw3; rw [sI_ne (by omega), sI_ne (by omega), sI_ne (by omega), gI_sat]
    have g25 : gI w3 (0, 25) 3 = 0 := by subst hw3; rw [sI_ne (by omega), sI_ne (by omega), gI_sat]
    have g10 : gI w3 (0, 0) 10 = 0 := by subst hw3; rw [gI_sN rfl, gI_sat]
    have g9 : gI w3 (0, 0) 9 = gI w2 (0, 0) 9 + 1 := by subst hw3; rw [gI_sat]
    clear hw3
    have s0 : gI w3 (0, 1) 0 = nI N := by rw [f3.2 0 1 (by omega), f2.2 0 1 (by omega)]; exact r0
    have s1 : gI w3 (0, 1) 1 = 0 := by rw [f3.2 0 1 (by omega), f2.2 0 1 (by omega)]; exact r1
    have s2 : gI w3 (0, 1) 2 = 2 := by rw [f3.2 0 1 (by omega), f2.2 0 1 (by omega)]; exact r2
    have s3 : ∀ f i, f ≤ 10 → i < N → cf w3 f i = lo N f i := fun f i hf hi => by
      show gI w3 (0, 2 + f) i = _
      rw [f3.2 0 (2 + f) (by omega), f2.2 0 (2 + f) (by omega)]; exact r3 f i hf hi
    have s4 : ∀ b, b < 4 → clm w3 b := fun b hb => by
      unfold clm; rw [f3.2 b 80 (by omega), f3.2 b 81 (by omega), f3.2 b 82 (by omega)]; exact q2 b hb
    apply v_X9_startAnew_0
    refine c_startFrom s0 h24 (fun i hi e => by rw [s3 2 i (by omega) hi] at e; exact absurd (show (10 : Int32) = 0 from e) (by decide)) ?_
    intro w4 σ ca p1 p2 p3 p4
    have cq : ceq (cf w3) (cf w4) := p4.ceq
    have z : ∀ a j, ¬ (a = 1 ∧ j = 62) → gI (sI w4 (1, 62) 6 0) (a, j) = gI w4 (a, j) := fun a j hh => sI_ne hh
    have y : ∀ a j, ¬ ((a = 1 ∧ (40 ≤ j ∧ j ≤ 53 ∨ j = 62)) ∨ ((a = 102 ∨ a = 103) ∧ 54 ≤ j ∧ j ≤ 57) ∨ (a = 0 ∧ (j = 30 ∨ j = 31))) → gI (sI w4 (1, 62) 6 0) (a, j) = gI w3 (a, j) := fun a j hh => by
      rw [z a j (by omega)]; exact p4.2 a j (by unfold wg tg; omega)
    have cq5 : ceq (cf w3) (cf (sI w4 (1, 62) 6 0)) := fun f hf => y 0 (2 + f) (by omega)
    refine hk _ σ ca ?_ ?_ ?_ ?_ ?_ ?_ ?_ ?_ ?_ ?_ ?_ ?_ (CSt_fr (fun j _ _ => z _ _ (by omega)) (fun j _ _ => z _ _ (by omega)) (fun j _ _ => z _ _ (by omega)) p1) ?_ p3 gI_sat
    · show w4.2 = w.2
      rw [p4.1, f3.1, f2.1, f1.1]
    · intro a j hh
      rw [y a j (by omega), f3.2 a j (by omega), f2.2 a j (by omega), f1.2 a j (by omega)]
    · rw [y _ _ (by omega)]; exact s0
    · rw [y _ _ (by omega)]; exact s1
    · rw [y _ _ (by omega)]; exact s2
    · intro f i hf hi; rw [cq5 f hf]; exact s3 f i hf hi
    · intro b hb; unfold clm; rw [y b 80 (by omega), y b 81 (by omega), y b 82 (by omega)]; exact s4 b hb
    · rw [y _ _ (by omega)]; exact g14
    · rw [y _ _ (by omega)]; exact g54
    · rw [y _ _ (by omega)]; exact g25
    · rw [y _ _ (by omega)]; exact g10
    · rw [y _ _ (by omega), g9, f2.2 0 0 (by omega), f1.2 0 0 (by omega)]
    · intro i hi
      exact stc_c cq5.symm (p2 i hi)
  · rintro i w2 hi ⟨f2, q2⟩ hx
    apply v_X9_layOut_10
    rw [cl_nI (by omega), nI_s1]
    refine ⟨fun e => absurd e (by rw [show (4 : Int32) = nI 4 from rfl, le_nI (by omega) (by omega)]; omega), fun _ => ⟨in_nI (by omega) (by omega), ?_⟩⟩
    refine c_calm ?_
    intro w3 p1 p2 p3
    refine hx w3 ⟨⟨p1.trans f2.1, fun a j hh => by rw [p2 a j (by omega)]; exact f2.2 a j hh⟩, fun b hb => ?_⟩
    by_cases e : b = i
    · subst e; exact p3
    · unfold clm; rw [p2 b 80 (by omega), p2 b 81 (by omega), p2 b 82 (by omega)]; exact q2 b (by omega)

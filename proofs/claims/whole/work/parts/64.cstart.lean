/-! a START on the class's side -/
def stv (c : Nat → Nat → Int32) (i q : Nat) : Int32 := match q with | 0 => c 4 i | 1 => c 5 i | 2 => lv c (c 4) i | 7 => c 6 i | 8 => c 8 i | 10 => -1 | _ => 0
theorem stc_v {c σ σ' : Nat → Nat → Int32} {i : Nat} (h : ∀ q, q < 12 → σ' q = ub (σ q) i (stv c i q)) : stc c i σ' := by
  have e : ∀ q, q < 12 → σ' q i = stv c i q := fun q hq => by rw [h q hq, ub_same]
  exact ⟨e 0 (by omega), e 1 (by omega), e 2 (by omega), e 3 (by omega), e 4 (by omega), e 5 (by omega), e 6 (by omega), e 7 (by omega), e 8 (by omega), e 9 (by omega), e 10 (by omega), e 11 (by omega)⟩
theorem stc_k {c σ σ' : Nat → Nat → Int32} {i a : Nat} (h : ∀ q, q < 12 → σ' q = ub (σ q) i (stv c i q)) (ha : ¬ a = i) (hs : stc c a σ) : stc c a σ' := by
  have e : ∀ q, q < 12 → σ' q a = σ q a := fun q hq => by rw [h q hq, ub_ne (beq_f ha)]
  unfold stc
  rw [e 0 (by omega), e 1 (by omega), e 2 (by omega), e 3 (by omega), e 4 (by omega), e 5 (by omega), e 6 (by omega), e 7 (by omega), e 8 (by omega), e 9 (by omega), e 10 (by omega), e 11 (by omega)]
  exact hs
theorem c_startCell {w : PW} {g i : Nat} {σ : Nat → Nat → Int32} {L : Nat → Int32} {k : PW → Prop} (hi : i < 24) (h2 : ¬ cf w 2 i = 0) (hk : ∀ σ', (∀ q, q < 12 → σ' q = ub (σ q) i (stv (cf w) i q)) → k (kW w g σ' L)) :
    Cl 25 [vO g 40, vO 0 1, vI (nI i)] (kW w g σ L) (kV k) := by
  apply v_X5_startCell_0
  rw [cl_nI (by omega)]
  simp (disch := first | decide | omega) only [cl_nI, in_T, le_nI, lt_nI, nI_s1, true_and, and_true, true_implies, false_implies, implies_true, Nat.le_refl, Nat.lt_irrefl, not_false_eq_true, not_true_eq_false, eq_self, i10, i_ten, i_fv, i_fr, cf_kW, cf_s, gk_0, gk_1, gk_2, gk_3, gk_4, gk_5, gk_6, gk_7, gk_8, gk_9, gk_10, gk_11, gk_30, gk_off, gkL, sk_0, sk_1, sk_2, sk_3, sk_4, sk_5, sk_6, sk_7, sk_8, sk_9, sk_10, sk_11, sk_30, sk_off, ub_same, ub_ne, ub_ub, ub_comm]
  refine ⟨h2, hk _ ?_⟩
  intro q hq
  rcases (show q = 0 ∨ q = 1 ∨ q = 2 ∨ q = 3 ∨ q = 4 ∨ q = 5 ∨ q = 6 ∨ q = 7 ∨ q = 8 ∨ q = 9 ∨ q = 10 ∨ q = 11 by omega) with rfl | rfl | rfl | rfl | rfl | rfl | rfl | rfl | rfl | rfl | rfl | rfl
  all_goals
    simp (disch := decide) only [ub_same, ub_ne]
    rfl
theorem SN_w {w : PW} {g ga j i : Nat} {v : Int32} (hg : ga = wg g ∨ ga = tg g) (h : 54 ≤ j ∧ j ≤ 57) : SN g w (sI w (ga, j) i v) := ⟨rfl, fun g' j' hh => sI_ne (fun e => hh (Or.inr (Or.inl ⟨by rw [e.1]; exact hg, by omega, by omega⟩)))⟩
theorem c_startFrom {w : PW} {g R : Nat} {k : PW → Prop} (hR : gI w (0, 1) 0 = nI R) (h24 : R ≤ 24) (h2 : ∀ i, i < R → ¬ cf w 2 i = 0)
    (hk : ∀ w' σ ca, CSt w' g σ (nI 0) 0 0 0 [] [] ca → (∀ i, i < R → stc (cf w) i σ) → (∀ r, r < 12 → ca r = -2) → SN g w w' → k w') : Cl 24 [vO g 40, vO 0 1] w (kV k) := by
  apply v_X5_startFrom_0
  have t1 : ¬ tg g = wg g := by unfold tg wg; omega
  generalize hw1 : sI (sI (sI (sI (sI (sI w (g, 40) 0 0) (g, 40) 1 0) (g, 40) 2 0) (g, 40) 3 0) (wg g, 54) 3 0) (tg g, 54) 3 0 = w1
  have sn1 : SN g w w1 := by
    subst hw1
    exact (((((SN_s (by omega)).tr (SN_s (by omega))).tr (SN_s (by omega))).tr (SN_s (by omega))).tr (SN_w (Or.inl rfl) (by omega))).tr (SN_w (Or.inr rfl) (by omega))
  have g0 : ∀ q, q < 4 → gI w1 (g, 40) q = 0 := by
    intro q hq
    subst hw1
    rw [sI_ne (by omega), sI_ne (by omega)]
    simp only [gI_s, ub_eq]
    rcases (show q = 0 ∨ q = 1 ∨ q = 2 ∨ q = 3 by omega) with rfl | rfl | rfl | rfl <;> simp
  have gw : gI w1 (wg g, 54) 3 = 0 := by
    subst hw1
    rw [sI_ne (fun e => t1 e.1.symm), gI_sat]
  have gt : gI w1 (tg g, 54) 3 = 0 := by
    subst hw1
    rw [gI_sat]
  clear hw1
  refine cntI (L := fun x => [some (.inr (.inr (g, 40))), some (.inr (.inr (0, 1))), some (.inl x)]) 12 (fun i w' => ∃ f : Nat → Int32, w' = aI w1 (g, 53) f ∧ ∀ r, r < i → f r = -2) rfl ⟨gI w1 (g, 53), aI_self.symm, fun r hr => absurd hr (Nat.not_lt_zero _)⟩ ?_ ?_
  · rintro w' ⟨f, rfl, hf⟩
    apply v_X5_startFrom_38
    refine ⟨fun _ => ?_, fun e => absurd e (by decide)⟩
    have snf : SN g w (aI w1 (g, 53) f) := sn1.tr ⟨rfl, fun g' j hh => aI_ne (fun e => hh (Or.inl ⟨e.1, by omega, by omega⟩))⟩
    have gf : ∀ a j, ¬ (a = g ∧ j = 53) → gI (aI w1 (g, 53) f) (a, j) = gI w1 (a, j) := fun a j hh => aI_ne hh
    have f53 : gI (aI w1 (g, 53) f) (g, 53) = f := gI_aI
    rw [← gf (wg g) 54 (by omega)] at gw
    rw [← gf (tg g) 54 (by omega)] at gt
    rw [← gf g 40 (by omega)] at g0
    generalize aI w1 (g, 53) f = w2 at snf gw gt g0 f53 ⊢
    have cq : ceq (cf w) (cf w2) := snf.ceq
    have hR2 : gI w2 (0, 1) 0 = nI R := by rw [snf.2 0 1 (by omega)]; exact hR
    have ec : ∀ i σ, stc (cf w2) i σ → stc (cf w) i σ := fun i σ h => by
      unfold stc at h ⊢; rw [lv_c cq, cq 4 (by omega), cq 5 (by omega), cq 6 (by omega), cq 8 (by omega)] at h; exact h
    refine cntI (L := fun x => [some (.inr (.inr (g, 40))), some (.inr (.inr (0, 1))), some (.inl x)]) R (fun i w' => ∃ σ, w' = kW w2 g σ (gI w2 (0, 30)) ∧ ∀ a, a < i → stc (cf w2) a σ) rfl ⟨fun f => gI w2 (g, 41 + f), kW_self.symm, fun r hr => absurd hr (Nat.not_lt_zero _)⟩ ?_ ?_
    · rintro w' ⟨σ, rfl, hσ⟩
      apply v_X5_startFrom_60
      rw [gk_off rfl, hR2]
      refine ⟨fun _ => ?_, fun e => absurd e (by rw [lt_nI (by omega) (by omega)]; omega)⟩
      refine hk _ σ f ⟨CS_kW, by rw [gk_off rfl]; exact g0 0 (by omega), by rw [gk_off rfl]; exact g0 1 (by omega), by rw [gk_off rfl]; exact g0 2 (by omega), by rw [gk_off rfl]; exact g0 3 (by omega), ⟨by rw [gk_off rfl]; exact gw, fun q x hx => by cases hx⟩, ⟨by rw [gk_off rfl]; exact gt, fun q x hx => by cases hx⟩, by rw [gk_off rfl]; exact f53⟩ (fun i hi => ec i σ (hσ i hi)) hf (snf.tr SN_kW)
    · rintro i w' hi ⟨σ, rfl, hσ⟩ hx
      apply v_X5_startFrom_60
      rw [gk_off rfl, hR2, nI_s1]
      refine ⟨fun e => absurd e (by rw [le_nI (by omega) (by omega)]; omega), fun _ => ?_⟩
      refine c_startCell (by omega) (by rw [cq 2 (by omega)]; exact h2 i hi) (fun σ' h' => hx _ ⟨σ', rfl, fun a ha => ?_⟩)
      by_cases e : a = i
      · subst e; exact stc_v h'
      · exact stc_k h' e (hσ a (by omega))
  · rintro i w' hi ⟨f, rfl, hf⟩ hx
    apply v_X5_startFrom_38
    rw [cl_nI (by omega), nI_s1]
    refine ⟨fun e => absurd e (by rw [show (12 : Int32) = nI 12 from rfl, le_nI (by omega) (by omega)]; omega), fun _ => ⟨in_nI (by omega) (by omega), hx _ ⟨ub f i (-2), by rw [sI_aI], fun r hr => ?_⟩⟩⟩
    rw [ub_eq]
    by_cases e : r = i
    · rw [if_pos e]
    · rw [if_neg e]; exact hf r (by omega)

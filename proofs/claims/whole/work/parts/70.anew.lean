/-! a CELL is told anew */ -/
theorem cntF {mi pc : Nat} {L : Int32 → LV} {L0 : LV} {Q : PQ} {w0 : PW} (s R : Nat) (I : Nat → PW → Prop) (hsR : s ≤ R) (hL : L (nI s) = L0) (h0 : I s w0) (hx : ∀ w, I R w → Wp mi pc (L (nI R)) [] w Q)
    (hs : ∀ i w, i < R → I i w → (∀ w', I (i + 1) w' → Wp mi pc (L (nI (i + 1))) [] w' Q) → Wp mi pc (L (nI i)) [] w Q) : Wp mi pc L0 [] w0 Q := by
  subst hL
  exact up_loopI R I hx hs s w0 hsR h0
theorem c_anew {w : PW} {i : Nat} {k : Int32 → PW → Prop} (hi : i < 24) (h2 : ¬ cf w 2 i = 0) (hk : ∀ σ', (∀ q, q < 12 → σ' q = ub (gI w (1, 41 + q)) i (stv (cf w) i q)) → k (lv (cf w) (σ' 0) i) (kW (sI w (0, 0) 9 (gI w (0, 0) 9 + 1)) 1 σ' (gI w (0, 30)))) : Cl 106 [vO 0 0, vI (nI i)] w (kI k) := by
  apply v_X9_startCellAnew_0
  have o : ∀ a j, ¬ j = 0 → gI (sI w (0, 0) 9 (gI w (0, 0) 9 + 1)) (a, j) = gI w (a, j) := fun a j hj => sI_ne (by omega)
  generalize sI w (0, 0) 9 (gI w (0, 0) 9 + 1) = w1 at o hk ⊢
  have cq : ceq (cf w) (cf w1) := fun f hf => o 0 (2 + f) (by omega)
  have main : ∀ k : PW → Prop, (∀ σ', (∀ q, q < 12 → σ' q = ub (gI w (1, 41 + q)) i (stv (cf w) i q)) → k (kW w1 1 σ' (gI w (0, 30)))) → Cl 25 [vO 1 40, vO 0 1, vI (nI i)] w1 (kV k) := by
    intro k h
    have := c_startCell (w := w1) (g := 1) (i := i) (σ := fun f => gI w1 (1, 41 + f)) (L := gI w1 (0, 30)) (k := k) hi (by rw [cq 2 (by omega)]; exact h2) (fun σ' h' => by
      rw [o 0 30 (by omega)]
      refine h σ' (fun q hq => ?_)
      rw [h' q hq, o 1 (41 + q) (by omega)]
      have : stv (cf w1) i q = stv (cf w) i q := by unfold stv; rw [lv_c cq, cq 4 (by omega), cq 5 (by omega), cq 6 (by omega), cq 8 (by omega)]
      rw [this])
    rw [kW_self] at this
    exact this
  refine main _ (fun σ' h' => ?_)
  have i24 : vp_in (nI i) 24 := in_nI hi (by omega)
  refine ⟨i24, i24, i24, ?_, ?_⟩
  · rw [gk_off rfl, o 0 4 (by omega), cl_nI (by omega)]; exact h2
  · rw [gk_0, gk_off (j := 4) rfl, gk_off (j := 3) rfl, o 0 4 (by omega), o 0 3 (by omega), cl_nI (by omega)]
    exact hk σ' h'
/-- the model keeps what waits -/
theorem m_told {w : PW} {i R : Nat} {c : Nat → Nat → Int32} {se : Int32} {k : Int32 → PW → Prop} (hR : gI w (0, 90) 30 = nI R) (hck : CK c se R) (hce : CE R c (cm w)) (hi : i < R)
    (hk : ∀ f, SM c R f → k (lv c (c 4) i) (aI (sI w (0, 90) 37 (gI w (0, 90) 37 + 1)) (1, 114) f)) : Cl 120 [vO 0 90, vI (nI i)] w (kI k) := by
  have h24 := hck.2.1
  apply v_X10_told_0
  have o : ∀ a j, ¬ j = 90 → gI (sI w (0, 90) 37 (gI w (0, 90) 37 + 1)) (a, j) = gI w (a, j) := fun a j hj => sI_ne (by omega)
  have o30 : gI (sI w (0, 90) 37 (gI w (0, 90) 37 + 1)) (0, 90) 30 = gI w (0, 90) 30 := gI_sN rfl
  generalize sI w (0, 90) 37 (gI w (0, 90) 37 + 1) = w1 at o o30 hk ⊢
  have hce1 : CE R c (cm w1) := CE_fr (fun j hj => o 0 j (by omega)) hce
  refine m_starts (a := 1) (by rw [o30]; exact hR) hck hce1 ?_
  intro f sm
  have i24 : vp_in (nI i) 24 := in_nI (by omega) (by omega)
  have n2 : ¬ c 2 i = 0 := fun e => by have := (hck.2.2.2 i hi).2.2.1; rw [e, tl0] at this; omega
  have e1 : gI w1 (0, 92) i = c 1 i := hce1 1 i (by omega) hi
  have e2 : gI w1 (0, 93) i = c 2 i := hce1 2 i (by omega) hi
  have e0 : f (12 * i + 0) = c 4 i := sm.1 i 0 hi (by omega)
  rw [ix_0, cl_nI (by omega), cl_nI (by omega), gI_ao (j := 93) rfl, gI_ao (j := 92) rfl, gI_aI, e1, e2, e0]
  exact ⟨i24, in_nI (by omega) (by omega), i24, n2, hk f sm⟩
theorem m_keeps {w : PW} {i R : Nat} {c : Nat → Nat → Int32} {se : Int32} {k : Int32 → PW → Prop} (hR : gI w (0, 90) 30 = nI R) (hck : CK c se R) (hce : CE R c (cm w)) (hi : i < R)
    (hk : ∀ w' f f', SM c R f → (∀ q, ¬ (290 ≤ q ∧ q < 446) → f' q = f q) → (∀ q, 290 ≤ q → q < 446 → f' q = gI w (1, 114) q) → gI w' (1, 114) = f' → w'.2 = w.2 → (∀ a j, ¬ ((a = 0 ∧ (j = 90 ∨ j = 121)) ∨ (a = 1 ∧ j = 114)) → gI w' (a, j) = gI w (a, j)) → gI w' (0, 90) 37 = gI w (0, 90) 37 + 1 → (∀ q, ¬ q = 37 → gI w' (0, 90) q = gI w (0, 90) q) → k (lv c (c 4) i) w') :
    Cl 122 [vO 0 90, vI (nI i)] w (kI k) := by
  have h24 := hck.2.1
  apply v_X10_keepsWaiting_0
  refine cntF (L := fun x => [some (.inr (.inr (0, 90))), some (.inl (nI i)), some (.inl x), none]) 290 446 (fun z w' => 290 ≤ z ∧ ∃ f : Nat → Int32, w' = aI w (0, 121) f ∧ ∀ q, 290 ≤ q → q < z → f (q - 290) = gI w (1, 114) q) (by omega) rfl ⟨Nat.le_refl _, gI w (0, 121), aI_self.symm, fun q h1 h2 => by omega⟩ ?_ ?_
  · rintro w1 ⟨_, g, rfl, hg⟩
    apply v_X10_keepsWaiting_4
    refine ⟨fun _ => ?_, fun e => absurd e (by decide)⟩
    have o : ∀ a j, ¬ (a = 0 ∧ j = 121) → gI (aI w (0, 121) g) (a, j) = gI w (a, j) := fun a j hj => aI_ne hj
    have o2 : gI (aI w (0, 121) g) (0, 121) = g := gI_aI
    have o3 : (aI w (0, 121) g).2 = w.2 := rfl
    generalize aI w (0, 121) g = w1 at o o2 o3 ⊢
    refine m_told (by rw [o _ _ (by omega)]; exact hR) hck (CE_fr (fun j hj => o 0 j (by omega)) hce) hi ?_
    intro f sm
    have p : ∀ a j, ¬ (j = 90 ∨ j = 114) → gI (aI (sI w1 (0, 90) 37 (gI w1 (0, 90) 37 + 1)) (1, 114) f) (a, j) = gI w1 (a, j) := fun a j hj => by rw [aI_ne (by omega), sI_ne (by omega)]
    have p37 : gI (aI (sI w1 (0, 90) 37 (gI w1 (0, 90) 37 + 1)) (1, 114) f) (0, 90) 37 = gI w (0, 90) 37 + 1 := by rw [aI_ne (by omega), gI_sat, o 0 90 (by omega)]
    have p90 : ∀ q, ¬ q = 37 → gI (aI (sI w1 (0, 90) 37 (gI w1 (0, 90) 37 + 1)) (1, 114) f) (0, 90) q = gI w (0, 90) q := fun q hq => by rw [aI_ne (by omega), gI_sN (beq_f hq), o 0 90 (by omega)]
    have p114 : gI (aI (sI w1 (0, 90) 37 (gI w1 (0, 90) 37 + 1)) (1, 114) f) (1, 114) = f := gI_aI
    have p2 : (aI (sI w1 (0, 90) 37 (gI w1 (0, 90) 37 + 1)) (1, 114) f).2 = w.2 := o3
    have p' : ∀ a j, ¬ ((a = 0 ∧ (j = 90 ∨ j = 121)) ∨ (a = 1 ∧ j = 114)) → gI (aI (sI w1 (0, 90) 37 (gI w1 (0, 90) 37 + 1)) (1, 114) f) (a, j) = gI w (a, j) := fun a j hj => by
      rw [aI_ne (by omega), sI_ne (by omega)]; exact o a j (by omega)
    generalize aI (sI w1 (0, 90) 37 (gI w1 (0, 90) 37 + 1)) (1, 114) f = w2 at p p37 p90 p114 p2 p' ⊢
    have g121 : gI w2 (0, 121) = g := by rw [p 0 121 (by omega)]; exact o2
    refine cntF (L := fun x => [some (.inr (.inr (0, 90))), none, some (.inl (lv c (c 4) i)), some (.inl x)]) 290 446 (fun z w' => 290 ≤ z ∧ ∃ f' : Nat → Int32, w' = aI w2 (1, 114) f' ∧ (∀ q, ¬ (290 ≤ q ∧ q < 446) → f' q = f q) ∧ ∀ q, 290 ≤ q → q < z → f' q = gI w (1, 114) q) (by omega) rfl ⟨Nat.le_refl _, f, by rw [← p114]; exact aI_self.symm, fun _ _ => rfl, fun q h1 h2 => by omega⟩ ?_ ?_
    · rintro w3 ⟨_, f', rfl, h1, h2⟩
      apply v_X10_keepsWaiting_43
      refine ⟨fun _ => hk _ f f' sm h1 h2 gI_aI p2 (fun a j hj => by rw [aI_ne (by omega)]; exact p' a j hj) (by rw [aI_ne (by omega)]; exact p37) (fun q hq => by rw [aI_ne (by omega)]; exact p90 q hq), fun e => absurd e (by decide)⟩
    · rintro z w3 hz ⟨hz2, f', rfl, h1, h2⟩ hx
      apply v_X10_keepsWaiting_43
      rw [show (290 : Int32) = nI 290 from rfl, nI_sb (by omega), cl_nI (by omega), cl_nI (by omega), nI_s1, sI_aI, aI_ne (by omega), g121, hg z hz2 hz]
      refine ⟨fun e => absurd e (by rw [show (446 : Int32) = nI 446 from rfl, le_nI (by omega) (by omega)]; omega), fun _ => ⟨in_nI (by omega) (by omega), in_nI (by omega) (by omega), hx _ ⟨by omega, _, rfl, fun q hq => ?_, fun q hq1 hq2 => ?_⟩⟩⟩
      · rw [ub_n (by omega)]; exact h1 q hq
      · rw [ub_eq]
        by_cases e : q = z
        · rw [if_pos e, e]
        · rw [if_neg e]; exact h2 q hq1 (by omega)
  · rintro z w1 hz ⟨hz2, g, rfl, hg⟩ hx
    apply v_X10_keepsWaiting_4
    rw [show (290 : Int32) = nI 290 from rfl, nI_sb (by omega), cl_nI (by omega), cl_nI (by omega), nI_s1, sI_aI, aI_ne (by omega)]
    refine ⟨fun e => absurd e (by rw [show (446 : Int32) = nI 446 from rfl, le_nI (by omega) (by omega)]; omega), fun _ => ⟨in_nI (by omega) (by omega), in_nI (by omega) (by omega), hx _ ⟨by omega, _, rfl, fun q hq1 hq2 => ?_⟩⟩⟩
    rw [ub_eq]
    by_cases e : q = z
    · rw [if_pos (by omega), e]
    · rw [if_neg (by omega)]; exact hg q hq1 (by omega)

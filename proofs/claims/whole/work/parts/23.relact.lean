/-! ACTS agree -/
def actOK (R : Nat) (x : A2) : Prop := vp_in x.2 R ∧ 0 ≤ x.1.toInt ∧ x.1.toInt ≤ 6
theorem ub_at {α : Type} {f : Nat → α} {k j : Nat} {v : α} : ub f k v j = if j = k then v else f j := ub_eq
theorem tl50 : (50 : Int32).toInt = 50 := rfl
theorem tl90 : (90 : Int32).toInt = 90 := rfl
theorem tl100 : (100 : Int32).toInt = 100 := rfl
theorem tl15 : (15 : Int32).toInt = 15 := rfl
theorem Rel.one {R σ μ σ' μ'} {i : Nat} (h : Rel R σ μ) (hs : ∀ f j, ¬ j = i → σ' f j = σ f j) (hm : ∀ f j, ¬ j = i → μ' f j = μ f j)
    (hi : μ' 0 i = σ' 0 i ∧ μ' 1 i = σ' 1 i ∧ μ' 2 i = (if σ' 1 i = 0 then -2 else σ' 2 i) ∧ μ' 3 i = σ' 3 i ∧ μ' 4 i = σ' 4 i ∧ μ' 5 i = σ' 6 i ∧ μ' 6 i = σ' 7 i ∧ μ' 7 i = σ' 8 i ∧ μ' 8 i = σ' 9 i ∧ μ' 9 i = σ' 5 i ∧
  (σ' 11 i = 0 → σ' 10 i = -1) ∧ (¬ σ' 11 i = 0 → μ' 10 i = σ' 10 i) ∧ μ' 11 i = σ' 11 i) : Rel R σ' μ' := by
  intro j hj
  by_cases e : j = i
  · subst e; exact hi
  · simp only [hs _ j e, hm _ j e]; exact h j hj
theorem ub2_ne {σ : Nat → Nat → Int32} {f' i : Nat} {v : Int32} (f j : Nat) (h : ¬ j = i) : ub σ f' (ub (σ f') i v) f j = σ f j := by
  rw [ub_eq]
  by_cases e : f = f'
  · subst e; rw [if_pos rfl, ub_ne (beq_f h)]
  · rw [if_neg e]
theorem acS_ne {c x σ} (f j : Nat) (h : ¬ j = x.2.toNatClampNeg) : acS c x σ f j = σ f j := by
  unfold acS
  split
  · split
    · rw [ub_eq]; split
      · rename_i e; subst e; rw [ub_ne (beq_f h)]
      · exact ub2_ne f j h
    · rfl
  · split
    · rw [ub_eq]; split
      · rename_i e; subst e; rw [ub_ne (beq_f h)]
      · exact ub2_ne f j h
    · split
      · exact ub2_ne f j h
      · split
        · split <;> exact ub2_ne f j h
        · split
          · exact ub2_ne f j h
          · split
            · exact ub2_ne f j h
            · rw [ub_eq]; split
              · rename_i e; subst e; rw [ub_ne (beq_f h)]
              · exact ub2_ne f j h
theorem acM_ne {c x μ} (f j : Nat) (h : ¬ j = x.2.toNatClampNeg) : acM c x μ f j = μ f j := by
  unfold acM
  split
  · split
    · rw [ub_eq]; split
      · rename_i e; subst e; rw [ub_ne (beq_f h)]
      · rw [ub_eq]; split
        · rename_i e; subst e; rw [ub_ne (beq_f h)]
        · exact ub2_ne f j h
    · rfl
  · split
    · rw [ub_eq]; split
      · rename_i e; subst e; rw [ub_ne (beq_f h)]
      · exact ub2_ne f j h
    · split
      · split <;> exact ub2_ne f j h
      · split
        · split
          · exact ub2_ne f j h
          · rfl
        · split
          · split <;> exact ub2_ne f j h
          · split <;> (rw [ub_eq]; split <;> first | exact ub2_ne f j h | (rename_i e; subst e; rw [ub_ne (beq_f h)]))
theorem rel_act {R c d W I σ μ} {x : A2} (hR : R ≤ 24) (hc : CE R c d) (h : Rel R σ μ) (ho : Ok c R W I σ) (hx : actOK R x) : Rel R (acS c x σ) (acM d x μ) := by
  obtain ⟨hx1, hx2⟩ := hx
  obtain ⟨i, hi, e⟩ := of_in hx1
  have e2 : x.2.toNatClampNeg = i := by rw [e, cl_nI (by omega)]
  refine Rel.one h (fun f j hj => acS_ne f j hj) (fun f j hj => acM_ne f j hj) ?_
  obtain ⟨h0, h1, h2, h3, h4, h5, h6, h7, h8, h9, h10, h11, h12⟩ := h i hi
  obtain ⟨o0, ⟨s0, s1⟩, o3, o4, o5, o6, o7, o8⟩ := ho.1 i hi
  unfold acS acM
  rw [e2, hc 0 i (by omega) hi, h1, h3, h4, h5, h6, h0, h7]
  by_cases k0 : x.1 = 0
  · rw [if_pos k0, if_pos k0]
    by_cases g : 15 ≤ σ 1 i
    · rw [if_pos g, if_pos g]
      simp (disch := decide) only [ub_same, ub_ne]
      exact ⟨h0, trivial, by rw [if_pos trivial], trivial, h4, h5, h6, h7, h8, h9, h10, h11, h12⟩
    · rw [if_neg g, if_neg g]; exact h i hi
  · rw [if_neg k0, if_neg k0]
    by_cases k1 : x.1 = 1
    · rw [if_pos k1, if_pos k1]
      simp (disch := decide) only [ub_same, ub_ne]
      exact ⟨h0, h1, h2, trivial, trivial, h5, h6, h7, h8, h9, h10, h11, h12⟩
    · rw [if_neg k1, if_neg k1]
      by_cases k2 : x.1 = 2
      · rw [if_pos k2, if_pos k2]
        have ea : (σ 6 i + 10).toInt = (σ 6 i).toInt + 10 := ti_add (by rw [tl10]; omega) (by rw [tl10]; omega)
        by_cases g : σ 6 i ≤ 90
        · rw [if_pos g]
          simp (disch := decide) only [ub_same, ub_ne]
          refine ⟨h0, h1, h2, h3, h4, ?_, h6, h7, h8, h9, h10, h11, h12⟩
          unfold jmin
          rw [ti_le, tl90] at g
          by_cases g1 : σ 6 i + 10 < 100
          · rw [if_pos g1]
          · rw [if_neg g1]
            rw [ti_lt, ea, tl100] at g1; rw [ti_eq, ea, tl100]; omega
        · rw [if_neg g]
          simp (disch := decide) only [ub_same, ub_ne]
          refine ⟨h0, h1, h2, h3, h4, ?_, h6, h7, h8, h9, h10, h11, h12⟩
          unfold jmin
          rw [ti_le, tl90] at g
          rw [if_neg (by rw [ti_lt, ea, tl100]; omega)]
      · rw [if_neg k2, if_neg k2]
        by_cases k3 : x.1 = 3
        · rw [if_pos k3, if_pos (Or.inl k3)]
          by_cases g : c 0 i = 3
          · rw [if_pos g, if_pos g, k3]
            simp (disch := decide) only [ub_same, ub_ne]
            exact ⟨h0, h1, h2, h3, h4, h5, h6, h7, by decide, h9, h10, h11, h12⟩
          · rw [if_neg g, if_neg g]
            simp (disch := decide) only [ub_same, ub_ne]
            refine ⟨h0, h1, h2, h3, h4, h5, h6, h7, ?_, h9, h10, h11, h12⟩
            rcases ho.2.1 i hi with g3 | ⟨_, g4⟩
            · rw [h8, g3]
            · exact absurd g4 g
        · rw [if_neg k3]
          by_cases k4 : x.1 = 4
          · rw [if_pos k4, if_pos (Or.inr k4)]
            by_cases g : c 0 i = 3
            · rw [if_pos g, k4]
              simp (disch := decide) only [ub_same, ub_ne]
              exact ⟨h0, h1, h2, h3, h4, h5, h6, h7, by decide, h9, h10, h11, h12⟩
            · rw [if_neg g]
              simp (disch := decide) only [ub_same, ub_ne]
              refine ⟨h0, h1, h2, h3, h4, h5, h6, h7, ?_, h9, h10, h11, h12⟩
              rcases ho.2.1 i hi with g3 | ⟨_, g4⟩
              · rw [h8, g3]
              · exact absurd g4 g
          · rw [if_neg k4, if_neg (not_or.mpr ⟨k3, k4⟩)]
            by_cases k5 : x.1 = 5
            · rw [if_pos k5, if_pos k5]
              have ea : (σ 7 i - 50).toInt = (σ 7 i).toInt - 50 := ti_sub (by rw [tl50]; omega) (by rw [tl50]; omega)
              by_cases g : 50 ≤ σ 7 i
              · rw [if_pos g]
                simp (disch := decide) only [ub_same, ub_ne]
                refine ⟨h0, h1, h2, h3, h4, h5, ?_, h7, h8, h9, h10, h11, h12⟩
                unfold jmax
                rw [ti_le, tl50] at g
                by_cases g1 : 0 < σ 7 i - 50
                · rw [if_pos g1]
                · rw [if_neg g1]
                  rw [ti_lt, ea, tl0] at g1; rw [ti_eq, ea, tl0]; omega
              · rw [if_neg g]
                simp (disch := decide) only [ub_same, ub_ne]
                refine ⟨h0, h1, h2, h3, h4, h5, ?_, h7, h8, h9, h10, h11, h12⟩
                unfold jmax
                rw [ti_le, tl50] at g
                rw [if_neg (by rw [ti_lt, ea, tl0]; omega)]
            · rw [if_neg k5, if_neg k5]
              have em : σ 0 i ≤ σ 8 i → jmin (σ 8 i) (σ 0 i) = σ 0 i := by
                intro g; unfold jmin
                by_cases g1 : σ 0 i < σ 8 i
                · rw [if_pos g1]
                · rw [if_neg g1, ti_eq]; rw [ti_le] at g; rw [ti_lt] at g1; omega
              by_cases g : σ 0 i ≤ σ 8 i
              · rw [if_pos g, em g]
                simp (disch := decide) only [ub_same, ub_ne]
                exact ⟨trivial, h1, h2, h3, h4, h5, h6, trivial, h8, h9, h10, h11, h12⟩
              · rw [if_neg g]
                have em2 : jmin (σ 8 i) (σ 0 i) = σ 8 i := by
                  unfold jmin; rw [if_neg]; intro x; rw [ti_lt] at x; rw [ti_le] at g; omega
                rw [em2]
                simp (disch := decide) only [ub_same, ub_ne]
                exact ⟨trivial, h1, h2, h3, h4, h5, h6, trivial, h8, h9, h10, h11, h12⟩
theorem Sm_le2 {f f' : Nat → Int32} {n : Nat} (h : ∀ i, i < n → (f' i).toInt ≤ (f i).toInt) : Sm f' n ≤ Sm f n := by
  induction n with
  | zero => exact Int.le_refl _
  | succ n ih => have := ih (fun i hi => h i (by omega)); have := h n (by omega); unfold Sm; omega
theorem ok_act {R c W I σ} {x : A2} (hR : R ≤ 24) (ho : Ok c R W I σ) (hI : I ≤ 2100000) (hW : W ≤ 8900000) (hx : actOK R x) : Ok c R W I (acS c x σ) := by
  obtain ⟨hx1, hx2⟩ := hx
  obtain ⟨i, hi, e⟩ := of_in hx1
  have e2 : x.2.toNatClampNeg = i := by rw [e, cl_nI (by omega)]
  have hne : ∀ f j, ¬ j = i → acS c x σ f j = σ f j := fun f j hj => acS_ne f j (by rw [e2]; exact hj)
  have ic := ho.ice hi
  have wa := ho.wa hi
  have key : OkP (acS c x σ) i ∧ (acS c x σ 9 i = 0 ∨ (acS c x σ 9 i = 1 ∧ c 0 i = 3)) ∧ (acS c x σ 0 i).toInt ≤ (σ 0 i).toInt ∧
      (acS c x σ 1 i).toInt + (acS c x σ 3 i).toInt + (acS c x σ 4 i).toInt ≤ (σ 1 i).toInt + (σ 3 i).toInt + (σ 4 i).toInt + 0 := by
    have sh := ho.2.1 i hi
    obtain ⟨o0, ⟨s0, s1⟩, o3, o4, o5, o6, o7, o8⟩ := ho.1 i hi
    unfold acS OkP nn at *
    rw [e2]
    by_cases k0 : x.1 = 0
    · rw [if_pos k0]
      by_cases g : 15 ≤ σ 1 i
      · rw [if_pos g]
        simp (disch := decide) only [ub_same, ub_ne]
        rw [ti_add (by omega) (by omega), tl0]
        refine ⟨⟨o0, by omega, by omega, o4, o5, o6, o7, o8⟩, sh, by omega, by omega⟩
      · rw [if_neg g]; exact ⟨⟨o0, ⟨s0, s1⟩, o3, o4, o5, o6, o7, o8⟩, sh, by omega, by omega⟩
    · rw [if_neg k0]
      by_cases k1 : x.1 = 1
      · rw [if_pos k1]
        simp (disch := decide) only [ub_same, ub_ne]
        rw [ti_add (by omega) (by omega), tl0]
        refine ⟨⟨o0, ⟨s0, s1⟩, by omega, by omega, o5, o6, o7, o8⟩, sh, by omega, by omega⟩
      · rw [if_neg k1]
        by_cases k2 : x.1 = 2
        · rw [if_pos k2]
          have ea : (σ 6 i + 10).toInt = (σ 6 i).toInt + 10 := ti_add (by rw [tl10]; omega) (by rw [tl10]; omega)
          simp (disch := decide) only [ub_same, ub_ne]
          refine ⟨⟨o0, ⟨s0, s1⟩, o3, o4, o5, ?_, o7, o8⟩, sh, by omega, by omega⟩
          unfold jmin
          by_cases g : σ 6 i + 10 < 100
          · rw [if_pos g]; rw [ti_lt, ea, tl100] at g; omega
          · rw [if_neg g, tl100]; omega
        · rw [if_neg k2]
          by_cases k3 : x.1 = 3
          · rw [if_pos k3]
            by_cases g : c 0 i = 3
            · rw [if_pos g]
              simp (disch := decide) only [ub_same, ub_ne]
              exact ⟨⟨o0, ⟨s0, s1⟩, o3, o4, o5, o6, o7, o8⟩, Or.inr ⟨trivial, g⟩, by omega, by omega⟩
            · rw [if_neg g]
              simp (disch := decide) only [ub_same, ub_ne]
              exact ⟨⟨o0, ⟨s0, s1⟩, o3, o4, o5, o6, o7, o8⟩, Or.inl trivial, by omega, by omega⟩
          · rw [if_neg k3]
            by_cases k4 : x.1 = 4
            · rw [if_pos k4]
              simp (disch := decide) only [ub_same, ub_ne]
              exact ⟨⟨o0, ⟨s0, s1⟩, o3, o4, o5, o6, o7, o8⟩, Or.inl trivial, by omega, by omega⟩
            · rw [if_neg k4]
              by_cases k5 : x.1 = 5
              · rw [if_pos k5]
                have ea : (σ 7 i - 50).toInt = (σ 7 i).toInt - 50 := ti_sub (by rw [tl50]; omega) (by rw [tl50]; omega)
                simp (disch := decide) only [ub_same, ub_ne]
                refine ⟨⟨o0, ⟨s0, s1⟩, o3, o4, o5, o6, ?_, o8⟩, sh, by omega, by omega⟩
                unfold jmax
                by_cases g : 0 < σ 7 i - 50
                · rw [if_pos g, ea]; rw [ti_lt, ea, tl0] at g; omega
                · rw [if_neg g, tl0]; omega
              · rw [if_neg k5]
                simp (disch := decide) only [ub_same, ub_ne]
                have j1 : 0 ≤ (jmin (σ 8 i) (σ 0 i)).toInt ∧ (jmin (σ 8 i) (σ 0 i)).toInt ≤ (σ 0 i).toInt ∧ (jmin (σ 8 i) (σ 0 i)).toInt ≤ (σ 8 i).toInt := by
                  unfold jmin
                  by_cases g : σ 0 i < σ 8 i
                  · rw [if_pos g]; rw [ti_lt] at g; omega
                  · rw [if_neg g]; rw [ti_lt] at g; omega
                have b8 := ti_b (σ 8 i)
                rw [ti_sub (a := σ 0 i) (by omega) (by omega), ti_sub (a := σ 8 i) (by omega) (by omega)]
                refine ⟨⟨by omega, ⟨s0, s1⟩, o3, o4, o5, o6, o7, by omega⟩, sh, by omega, by omega⟩
  refine ⟨fun j hj => ?_, fun j hj => ?_, ?_, ?_⟩
  · by_cases g : j = i
    · subst g; exact key.1
    · have := ho.1 j hj
      unfold OkP at this ⊢
      simp only [hne _ j g]; exact this
  · by_cases g : j = i
    · subst g; exact key.2.1
    · rw [hne 9 j g]; exact ho.2.1 j hj
  · refine Int.le_trans (Sm_le2 fun j hj => ?_) ho.2.2.1
    by_cases g : j = i
    · subst g; exact key.2.2.1
    · rw [hne 0 j g]; exact Int.le_refl _
  · have h1 := Sm3 (σ := σ) (σ' := acS c x σ) (d := 0) (n := R) (fun j hj => by
      by_cases g : j = i
      · subst g; exact key.2.2.2
      · rw [hne 1 j g, hne 3 j g, hne 4 j g]; omega)
    have := ho.2.2.2
    omega
theorem rel_acts {R c d W I} (hR : R ≤ 24) (hc : CE R c d) (hI : I ≤ 2100000) (hW : W ≤ 8900000) : ∀ (l : List A2) (σ μ : Nat → Nat → Int32), Rel R σ μ → Ok c R W I σ → (∀ x, x ∈ l → actOK R x) →
    Rel R (l.foldl (fun σ x => acS c x σ) σ) (l.foldl (fun μ x => acM d x μ) μ) ∧ Ok c R W I (l.foldl (fun σ x => acS c x σ) σ) := by
  intro l
  induction l with
  | nil => intro σ μ h ho _; exact ⟨h, ho⟩
  | cons x l ih =>
    intro σ μ h ho hx
    have h1 := hx x (List.mem_cons_self ..)
    exact ih _ _ (rel_act hR hc h ho h1) (ok_act hR ho hI hW h1) (fun y hy => hx y (List.mem_cons_of_mem _ hy))

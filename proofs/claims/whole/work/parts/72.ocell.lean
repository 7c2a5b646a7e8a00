/-! cell, fill, town: the calls -/
def cS (c : Nat → Nat → Int32) (q i : Nat) (v : Int32) : Nat → Nat → Int32 := ub c q (ub (c q) i v)
theorem cS_ne {c : Nat → Nat → Int32} {q i f j : Nat} {v : Int32} (h : ¬ j = i) : cS c q i v f j = c f j := by
  unfold cS
  rw [ub_eq]
  by_cases e : f = q
  · rw [if_pos e, ub_n h, e]
  · rw [if_neg e]
def ckq (q : Nat) (v : Int32) : Prop := match q with
  | 0 => 0 ≤ v.toInt ∧ v.toInt ≤ 4 | 1 => 0 ≤ v.toInt ∧ v.toInt ≤ 2300 | 2 => 1 ≤ v.toInt ∧ v.toInt ≤ 100 | 3 => 1 ≤ v.toInt ∧ v.toInt ≤ 100 | 4 => 0 ≤ v.toInt ∧ v.toInt ≤ 200000 | 5 => 0 ≤ v.toInt ∧ v.toInt ≤ 200
  | 6 => 0 ≤ v.toInt ∧ v.toInt ≤ 9999 | 7 => 0 ≤ v.toInt ∧ v.toInt ≤ 4000 | 8 => 0 ≤ v.toInt ∧ v.toInt ≤ 100000 | _ => False
theorem CK_s {c se R q i v} (h : CK c se R) (hv : ckq q v) : CK (cS c q i v) se R := by
  refine ⟨h.1, h.2.1, h.2.2.1, fun j hj => ?_⟩
  obtain ⟨k0, k1, k2, k3, k4, k5, k6, k7, k8, k9⟩ := h.2.2.2 j hj
  by_cases g : j = i
  · subst g
    have hq : q ≤ 8 := by
      rcases Nat.lt_or_ge 8 q with x | x
      · obtain ⟨p, rfl⟩ : ∃ p, q = p + 9 := ⟨q - 9, by omega⟩
        exact hv.elim
      · exact x
    unfold cS
    rcases (show q = 0 ∨ q = 1 ∨ q = 2 ∨ q = 3 ∨ q = 4 ∨ q = 5 ∨ q = 6 ∨ q = 7 ∨ q = 8 by omega) with rfl | rfl | rfl | rfl | rfl | rfl | rfl | rfl | rfl
    all_goals
      simp only [ckq] at hv
      simp (disch := decide) only [ub_same, ub_ne]
      refine ⟨?_, ?_, ?_, ?_, ?_, ?_, ?_, ?_, ?_, ?_⟩ <;> assumption
  · rw [cS_ne g, cS_ne g, cS_ne g, cS_ne g, cS_ne g, cS_ne g, cS_ne g, cS_ne g, cS_ne g, cS_ne g]
    exact ⟨k0, k1, k2, k3, k4, k5, k6, k7, k8, k9⟩
theorem ck_of {v lo hi : Int32} {x y : Int} (h : lo ≤ v ∧ v ≤ hi) (hl : lo.toInt = x) (hh : hi.toInt = y) : x ≤ v.toInt ∧ v.toInt ≤ y := by
  have h1 := h.1; have h2 := h.2
  rw [ti_le, hl] at h1; rw [ti_le, hh] at h2
  exact ⟨h1, h2⟩
theorem tl9999 : (9999 : Int32).toInt = 9999 := rfl
theorem tl4000 : (4000 : Int32).toInt = 4000 := rfl
theorem tl2000 : (2000 : Int32).toInt = 2000 := rfl
theorem tl100k : (100000 : Int32).toInt = 100000 := rfl
theorem tl200k : (200000 : Int32).toInt = 200000 := rfl
theorem o_cell {n w} {a b d e g : Int32} (hi : Inv n w) : OP n w 60 121 [vI a, vI b, vI d, vI e, vI g] := by
  have hi0 := hi
  obtain ⟨R, cr, se, c, RL, PL, MK, A, M, WT, TP, v, rf, hv', ic, im, io⟩ := hi
  have ic0 := ic
  have im0 := im
  obtain ⟨c1, c2, c3, c4, c5, c6, c7, c8, c9⟩ := ic
  have hck : CK c se R := CK.c c2.symm c1.2.2.2.2.1
  have h24 := hck.2.1
  have hmh : gI w (1, 40) 0 = nI (aH A) := c5.1.2.1
  have h300 := io.2.2.1.2.2.1
  have fin : ∀ z, kI (fun y w2 => y = z ∧ Inv (n + 1) w2) (.inl z) w := fun z => ⟨rfl, hi0.up (by omega)⟩
  have mhr : gI w (0, 90) 30 = nI R := im0.1.1
  have mhh : gI w (1, 114) 288 = nI (aH A) := im0.2.2.2.1.2.1
  have no : ¬ ((0 ≤ a ∧ a ≤ nI R - 1) ∧ (0 ≤ b ∧ b ≤ 4) ∧ (0 ≤ d ∧ d ≤ 2000) ∧ (1 ≤ e ∧ e ≤ 100) ∧ (1 ≤ g ∧ g ≤ 100)) → kI (fun x w1 => Cl 121 (vO 0 90 :: [vI a, vI b, vI d, vI e, vI g]) w1 (kI fun y w2 => y = x ∧ Inv (n + 1) w2)) (.inl (-1)) w := by
    intro hn
    show Cl 121 [vO 0 90, vI a, vI b, vI d, vI e, vI g] w _
    apply v_X10_cell_0
    rw [mhr]
    exact ⟨bb_01, bbi (fun g1 => bbi (fun g2 => bbi (fun g3 => bbi (fun g4 => bbj (fun g5 => absurd ⟨g1, g2, g3, g4, g5⟩ hn) (fun _ => fin _)) (fun _ => fin _)) (fun _ => fin _)) (fun _ => fin _)) (fun _ => fin _)⟩
  show Cl 60 [vO 0 0, vI a, vI b, vI d, vI e, vI g] w _
  apply v_X9_cell_0
  rw [c1.1, hmh, i_le0 (by omega), i_0lt (by omega)]
  refine ⟨bb_01, bbi (fun g1 => bbi (fun g2 => bbi (fun g3 => bbi (fun g4 => bbj (fun g5 => ⟨fun h0 => ?_, fun h0 => ?_⟩) (fun y => no (fun x => y x.2.2.2.2))) (fun y => no (fun x => y x.2.2.2.1))) (fun y => no (fun x => y x.2.2.1))) (fun y => no (fun x => y x.2.1))) (fun y => no (fun x => y x.1))⟩
  · replace h0 : aH A = 0 := by omega
    obtain ⟨i, hiR, rfl⟩ := i_cell g1 hck.1 h24
    have i24 : vp_in (nI i) 24 := in_nI (by omega) (by omega)
    rw [cl_nI (by omega)]
    have hck' : CK (cS (cS (cS (cS c 0 i b) 1 i d) 2 i e) 3 i g) se R :=
      CK_s (CK_s (CK_s (CK_s hck (q := 0) (ck_of g2 tl0 tl4)) (q := 1) (by have := ck_of g3 tl0 tl2000; exact ⟨this.1, by omega⟩)) (q := 2) (ck_of g4 tl1 tl100)) (q := 3) (ck_of g5 tl1 tl100)
    refine ⟨i24, i24, i24, i24, c_cell2 ic0 io h0 hiR ((((FQ.refl.s (by omega)).s (by omega)).s (by omega)).s (by omega)) (ceq_s (q := 3) (by omega) (ceq_s (q := 2) (by omega) (ceq_s (q := 1) (by omega) (ceq_s (q := 0) (by omega) c2)))) hck' (fun f j _ hj => by rw [← cS, ← cS, ← cS, ← cS, cS_ne hj, cS_ne hj, cS_ne hj, cS_ne hj]) ?_⟩
    intro w2 σ' ic2 st fc
    have im2 := IM_FC fc im0
    have mhr2 : gI w2 (0, 90) 30 = nI R := im2.1.1
    have mhh2 : gI w2 (1, 114) 288 = nI (aH A) := im2.2.2.2.1.2.1
    show Cl 121 [vO 0 90, vI (nI i), vI b, vI d, vI e, vI g] w2 _
    apply v_X10_cell_0
    rw [mhr2, mhh2, i_le0 (by omega), i_0lt (by omega), cl_nI (by omega)]
    refine ⟨bb_01, bbi (fun _ => bbi (fun _ => bbi (fun _ => bbi (fun _ => bbj (fun _ => ⟨in_nI (j := 288) (by omega) (by omega), fun _ => ⟨b01_0, fun _ => ⟨i24, i24, i24, i24, m_cell2 im2 io h0 hiR ((((FP.refl.s (by omega)).s (by omega)).s (by omega)).s (by omega)) (CE_s (q := 3) (by omega) (CE_s (q := 2) (by omega) (CE_s (q := 1) (by omega) (CE_s (q := 0) (by omega) im2.2.1)))) hck' st ?_⟩, fun x => absurd rfl x⟩, fun x => absurd x (by omega)⟩) (fun x => absurd g5 x)) (fun x => absurd g4 x)) (fun x => absurd g3 x)) (fun x => absurd g2 x)) (fun x => absurd g1 x)⟩
    intro w3 im3 io3 fn
    exact ⟨rfl, Inv.mk (by omega) (IC_FN fn ic2) im3 io3⟩
  · show Cl 121 [vO 0 90, vI a, vI b, vI d, vI e, vI g] w _
    apply v_X10_cell_0
    rw [mhr, mhh, i_le0 (by omega), i_0lt (by omega)]
    refine ⟨bb_01, bbi (fun _ => bbi (fun _ => bbi (fun _ => bbi (fun _ => bbj (fun _ => ⟨in_nI (j := 288) (by omega) (by omega), fun x => absurd h0 (by omega), fun _ => ⟨b01_1, fun x => absurd x (by decide), fun _ => fin _⟩⟩) (fun x => absurd g5 x)) (fun x => absurd g4 x)) (fun x => absurd g3 x)) (fun x => absurd g2 x)) (fun x => absurd g1 x)⟩

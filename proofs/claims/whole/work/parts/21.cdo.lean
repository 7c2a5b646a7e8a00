/-! ACTS are done, on the class's side -/
def acS (c : Nat → Nat → Int32) (x : A2) (σ : Nat → Nat → Int32) : Nat → Nat → Int32 :=
  if x.1 = 0 then (if 15 ≤ σ 1 x.2.toNatClampNeg then ub (ub σ 1 (ub (σ 1) x.2.toNatClampNeg 0)) 3 (ub (σ 3) x.2.toNatClampNeg (σ 3 x.2.toNatClampNeg + σ 1 x.2.toNatClampNeg)) else σ)
  else if x.1 = 1 then ub (ub σ 3 (ub (σ 3) x.2.toNatClampNeg (σ 3 x.2.toNatClampNeg + σ 4 x.2.toNatClampNeg))) 4 (ub (σ 4) x.2.toNatClampNeg 0)
  else if x.1 = 2 then ub σ 6 (ub (σ 6) x.2.toNatClampNeg (jmin 100 (σ 6 x.2.toNatClampNeg + 10)))
  else if x.1 = 3 then (if c 0 x.2.toNatClampNeg = 3 then ub σ 9 (ub (σ 9) x.2.toNatClampNeg 1) else ub σ 9 (ub (σ 9) x.2.toNatClampNeg 0))
  else if x.1 = 4 then ub σ 9 (ub (σ 9) x.2.toNatClampNeg 0)
  else if x.1 = 5 then ub σ 7 (ub (σ 7) x.2.toNatClampNeg (jmax 0 (σ 7 x.2.toNatClampNeg - 50)))
  else ub (ub σ 0 (ub (σ 0) x.2.toNatClampNeg (σ 0 x.2.toNatClampNeg - jmin (σ 8 x.2.toNatClampNeg) (σ 0 x.2.toNatClampNeg)))) 8 (ub (σ 8) x.2.toNatClampNeg (σ 8 x.2.toNatClampNeg - jmin (σ 8 x.2.toNatClampNeg) (σ 0 x.2.toNatClampNeg)))
theorem c_doAct {w g σ L k} {x : A2} (hx : vp_in x.2 24) (h : k (kW w g (acS (cf w) x σ) L)) : Cl 34 [vO 0 29, vO g 40, vI x.1, vI x.2] (kW w g σ L) (kV k) := by
  apply v_X6_doAct_0
  unfold acS at h
  simp (disch := first | decide | omega) only [cl_nI, in_T, le_nI, lt_nI, nI_s1, true_and, and_true, true_implies, false_implies, implies_true, Nat.le_refl, Nat.lt_irrefl, not_false_eq_true, not_true_eq_false, eq_self, i10, i_ten, i_fv, i_fr, cf_kW, cf_s, gk_0, gk_1, gk_2, gk_3, gk_4, gk_5, gk_6, gk_7, gk_8, gk_9, gk_10, gk_11, gk_30, gk_off, gkL, sk_0, sk_1, sk_2, sk_3, sk_4, sk_5, sk_6, sk_7, sk_8, sk_9, sk_10, sk_11, sk_30, sk_off, ub_same, ub_ne, ub_ub, ub_comm, hx, cf_0]
  refine ⟨fun h0 => ?_, fun h0 => ⟨fun h1 => ?_, fun h1 => ⟨fun h2 => ?_, fun h2 => ⟨fun h3 => ?_, fun h3 => ⟨fun h4 => ?_, fun h4 => ⟨fun h5 => ?_, fun h5 => ?_⟩⟩⟩⟩⟩⟩
  · rw [if_pos h0] at h
    refine ⟨fun g1 => ?_, fun g1 => ?_⟩
    · rw [if_neg (Int32.not_le.mpr g1)] at h; exact h
    · rw [if_pos g1] at h; exact h
  · rw [if_neg h0, if_pos h1] at h; exact h
  · rw [if_neg h0, if_neg h1, if_pos h2] at h; exact h
  · rw [if_neg h0, if_neg h1, if_neg h2, if_pos h3] at h
    refine ⟨fun g1 => absurd h3 g1, fun _ => ⟨fun g1 => ?_, fun g1 => ?_⟩⟩
    · rw [if_neg g1] at h; exact h
    · rw [if_pos g1] at h; exact h
  · rw [if_neg h0, if_neg h1, if_neg h2, if_neg h3, if_pos h4] at h
    exact ⟨fun _ => h, fun g1 => absurd g1 h3⟩
  · rw [if_neg h0, if_neg h1, if_neg h2, if_neg h3, if_neg h4, if_pos h5] at h; exact h
  · rw [if_neg h0, if_neg h1, if_neg h2, if_neg h3, if_neg h4, if_neg h5] at h; exact h
theorem c_dropFirst {w ga k} {l : List A2} {n : Nat} (h6 : len ga 56 = 40) (h7 : len ga 57 = 40) (hl : WL w ga l) (h40 : l.length ≤ 40) (hn : n ≤ l.length)
    (h : ∀ w', WL w' ga (l.drop n) → AF ga w w' → k w') : Cl 2 [vO ga 54, vI (nI n)] w (kV k) := by
  apply v_X0_dropFirst_0
  have e : gI w (ga, 54) 3 - nI n = nI (l.length - n) := by rw [hl.1, nI_sb hn]
  rw [e, h6, h7]
  have cp : cpOK (nI n) 0 (nI (l.length - n)) 40 40 := cp_nI (b := 0) (by omega) (by omega) (by omega) (by omega)
  refine ⟨cp, cp, ?_⟩
  rw [cl_nI (by omega), cl_nI (by omega)]
  refine h _ ?_ (((AF_a (by omega)).tr (AF_a (by omega))).tr (AF_s (by omega)))
  refine ⟨by rw [gI_sat, List.length_drop], fun q x hx => ?_⟩
  rw [List.getElem?_drop] at hx
  have hq : n + q < l.length := (List.getElem?_eq_some_iff.mp hx).1
  have := hl.2 _ _ hx
  rw [sI_ne (by omega), sI_ne (by omega), gI_aI, aI_ne (by omega), gI_aI, va_cpy_in (by omega) (by omega), va_cpy_in (by omega) (by omega), Nat.sub_zero]
  exact this

def CS (w : PW) (g : Nat) (σ : Nat → Nat → Int32) : Prop := ∀ f, f < 12 → gI w (g, 41 + f) = σ f
theorem kW_of {w g σ} (h : CS w g σ) : kW w g σ (gI w (0, 30)) = w := by
  refine Prod.ext ?_ rfl
  funext j g'
  show (bif Nat.beq j 30 && Nat.beq g' 0 then gI w (0, 30) else bif Nat.ble 41 j && Nat.ble j 52 && Nat.beq g' g then σ (j - 41) else w.1 j g') = w.1 j g'
  cases h1 : (Nat.beq j 30 && Nat.beq g' 0) with
  | true =>
    simp only [Bool.and_eq_true] at h1
    rw [Nat.eq_of_beq_eq_true h1.1, Nat.eq_of_beq_eq_true h1.2]; rfl
  | false =>
    cases h2 : (Nat.ble 41 j && Nat.ble j 52 && Nat.beq g' g) with
    | false => rfl
    | true =>
      simp only [Bool.and_eq_true, Nat.ble_eq] at h2
      rw [Nat.eq_of_beq_eq_true h2.2, ← h (j - 41) (by omega), show 41 + (j - 41) = j by omega]; rfl
theorem CS_kW {w g σ L} : CS (kW w g σ L) g σ := by
  intro f hf
  rw [gk_row (by simp only [Bool.and_eq_true, Nat.ble_eq]; omega), show 41 + f - 41 = f by omega]
/-- all but a State, its Acts, levels and stack stays -/
def SN (g : Nat) (w w' : PW) : Prop := w'.2 = w.2 ∧ ∀ g' j, ¬ ((g' = g ∧ 40 ≤ j ∧ j ≤ 53) ∨ ((g' = wg g ∨ g' = tg g) ∧ 54 ≤ j ∧ j ≤ 57) ∨ (g' = 0 ∧ (j = 30 ∨ j = 31))) → gI w' (g', j) = gI w (g', j)
theorem SN.refl {g w} : SN g w w := ⟨rfl, fun _ _ _ => rfl⟩
theorem SN.tr {g w w' w''} (h : SN g w w') (h' : SN g w' w'') : SN g w w'' := ⟨h'.1.trans h.1, fun g' j hh => (h'.2 g' j hh).trans (h.2 g' j hh)⟩
theorem AF2.sn {g w w'} (h : AF2 g w w') : SN g w w' := ⟨h.1, fun g' j hh => h.2 g' j (fun e => hh (Or.inr (Or.inl e)))⟩
theorem SN_kW {w g σ L} : SN g w (kW w g σ L) := by
  refine ⟨rfl, fun g' j hh => ?_⟩
  show (bif Nat.beq j 30 && Nat.beq g' 0 then L else bif Nat.ble 41 j && Nat.ble j 52 && Nat.beq g' g then σ (j - 41) else w.1 j g') = w.1 j g'
  cases h1 : (Nat.beq j 30 && Nat.beq g' 0) with
  | true =>
    simp only [Bool.and_eq_true] at h1
    exact absurd (Or.inr (Or.inr ⟨Nat.eq_of_beq_eq_true h1.2, Or.inl (Nat.eq_of_beq_eq_true h1.1)⟩)) hh
  | false =>
    cases h2 : (Nat.ble 41 j && Nat.ble j 52 && Nat.beq g' g) with
    | false => rfl
    | true =>
      simp only [Bool.and_eq_true, Nat.ble_eq] at h2
      exact absurd (Or.inl ⟨Nat.eq_of_beq_eq_true h2.2, by omega, by omega⟩) hh
theorem SN_s {w g j i} {v : Int32} (h : 40 ≤ j ∧ j ≤ 53) : SN g w (sI w (g, j) i v) := ⟨rfl, fun g' j' hh => sI_ne (fun e => hh (Or.inl ⟨e.1, by omega, by omega⟩))⟩
/-- what a State is -/
def CSt (w : PW) (g : Nat) (σ : Nat → Nat → Int32) (hr hm dn wm : Int32) (W : List A2) (T : List A3) (ca : Nat → Int32) : Prop :=
  CS w g σ ∧ gI w (g, 40) 0 = hr ∧ gI w (g, 40) 1 = hm ∧ gI w (g, 40) 2 = dn ∧ gI w (g, 40) 3 = wm ∧ WL w (wg g) W ∧ TL w (tg g) T ∧ gI w (g, 53) = ca
theorem WL_fr {w w' ga W} (h : ∀ j, 54 ≤ j → j ≤ 57 → gI w' (ga, j) = gI w (ga, j)) (hW : WL w ga W) : WL w' ga W := by
  unfold WL; rw [h 54 (by omega) (by omega), h 56 (by omega) (by omega), h 57 (by omega) (by omega)]; exact hW
theorem TL_fr {w w' ga W} (h : ∀ j, 54 ≤ j → j ≤ 57 → gI w' (ga, j) = gI w (ga, j)) (hW : TL w ga W) : TL w' ga W := by
  unfold TL; rw [h 54 (by omega) (by omega), h 55 (by omega) (by omega), h 56 (by omega) (by omega), h 57 (by omega) (by omega)]; exact hW
theorem st_mtf {g w k σ hr hm dn wm W T ca} {h1 : Int32} (hg : g ≤ 8) (hs : CSt w g σ hr hm dn wm W T ca) (hT : T.length ≤ 32) (hW : W.length ≤ 40)
    (h : ∀ w', CSt w' g σ hr hm dn wm ((T.filter (isH h1)).foldl pushH W) (T.filter (fun x => !isH h1 x)) ca → SN g w w' → k w') :
    Cl 3 [vO (tg g) 54, vI h1, vO (wg g) 54] w (kV k) := by
  obtain ⟨s0, s1, s2, s3, s4, s5, s6, s7⟩ := hs
  refine c_mtf hg s6 hT s5 hW ?_
  intro w' a1 a2 a3
  have f : ∀ j, j < 54 → gI w' (g, j) = gI w (g, j) := fun j hj => a3.2 g j (fun e => by omega)
  refine h w' ⟨fun q hq => by rw [f _ (by omega)]; exact s0 q hq, by rw [f _ (by omega)]; exact s1, by rw [f _ (by omega)]; exact s2, by rw [f _ (by omega)]; exact s3, by rw [f _ (by omega)]; exact s4, a2, a1, by rw [f _ (by omega)]; exact s7⟩ a3.sn
theorem st_add {g w k σ hr hm dn wm W T ca} {h1 a b : Int32} (hg : g ≤ 8) (hs : CSt w g σ hr hm dn wm W T ca) (hW : W.length ≤ 40)
    (h : ∀ w', CSt w' g σ hr hm dn wm (push 40 W (a, b)) T ca → SN g w w' → k w') : Cl 1 [vO (wg g) 54, vI h1, vI a, vI b] w (kV k) := by
  obtain ⟨s0, s1, s2, s3, s4, s5, s6, s7⟩ := hs
  obtain ⟨w5, w6, w7⟩ := len_w5 hg
  refine c_addW 40 w5 w6 w7 (by omega) s5 hW ?_
  intro w' a1 a2
  have f : ∀ j, j < 54 → gI w' (g, j) = gI w (g, j) := fun j hj => a2.2 g j (fun e => by omega)
  refine h w' ⟨fun q hq => by rw [f _ (by omega)]; exact s0 q hq, by rw [f _ (by omega)]; exact s1, by rw [f _ (by omega)]; exact s2, by rw [f _ (by omega)]; exact s3, by rw [f _ (by omega)]; exact s4, a1, TL_fr (fun j _ _ => a2.2 _ _ (fun e => tw_ne e.1)) s6, by rw [f _ (by omega)]; exact s7⟩ (AF.w2 a2).sn
def mny (cr : Nat) (W : List A2) : Nat := if W.length < cr then W.length else cr
def cellsOK (W : List A2) : Prop := ∀ x, x ∈ W → vp_in x.2 24
theorem c_doActs {g w k σ hr hm dn wm W T ca} {cr : Nat} (hg : g ≤ 8) (hs : CSt w g σ hr hm dn wm W T ca) (hW : W.length ≤ 40) (hc : gI w (0, 1) 2 = nI cr) (hcr : cr ≤ 6) (hok : cellsOK W)
    (h : ∀ w', CSt w' g ((W.take (mny cr W)).foldl (fun σ x => acS (cf w) x σ) σ) hr hm (dn + nI (mny cr W)) wm (W.drop (mny cr W)) T ca → SN g w w' → k w') :
    Cl 33 [vO 0 29, vO g 40] w (kV k) := by
  obtain ⟨s0, s1, s2, s3, s4, s5, s6, s7⟩ := hs
  obtain ⟨w5, w6, w7⟩ := len_w5 hg
  apply v_X6_doActs_0
  have e : jmin (gI w (0, 1) 2) (gI w (wg g, 54) 3) = nI (mny cr W) := by
    rw [hc, s5.1]; unfold jmin mny
    by_cases q : W.length < cr
    · rw [if_pos q, if_pos ((lt_nI (by omega) (by omega)).mpr q)]
    · rw [if_neg q, if_neg (fun x => q ((lt_nI (by omega) (by omega)).mp x))]
  have hm1 : mny cr W ≤ W.length := by unfold mny; split <;> omega
  rw [e]
  refine cnt (L := fun x => [some (.inr (.inr (0, 29))), some (.inr (.inr (g, 40))), some (.inl (nI (mny cr W))), some (.inl x)]) (mny cr W) (fun i => kW w g ((W.take i).foldl (fun σ x => acS (cf w) x σ) σ) (gI w (0, 30))) rfl (kW_of s0) ?_ ?_
  · apply v_X6_doActs_20
    generalize hσ' : (W.take (mny cr W)).foldl (fun σ x => acS (cf w) x σ) σ = σ' at h ⊢
    simp (disch := first | decide | omega) only [cl_nI, in_T, le_nI, lt_nI, nI_s1, true_and, and_true, true_implies, false_implies, implies_true, Nat.le_refl, Nat.lt_irrefl, not_false_eq_true, not_true_eq_false, eq_self, i10, i_ten, i_fv, i_fr, cf_kW, cf_s, gk_0, gk_1, gk_2, gk_3, gk_4, gk_5, gk_6, gk_7, gk_8, gk_9, gk_10, gk_11, gk_30, gk_off, gkL, sk_0, sk_1, sk_2, sk_3, sk_4, sk_5, sk_6, sk_7, sk_8, sk_9, sk_10, sk_11, sk_30, sk_off, ub_same, ub_ne, ub_ub, ub_comm]
    refine c_dropFirst (l := W) w6 w7 (WL_fr (fun j _ _ => gk_off (by unfold kOff; rw [beq_f (by omega)]; rcases (show j = 54 ∨ j = 55 ∨ j = 56 ∨ j = 57 by omega) with rfl | rfl | rfl | rfl <;> rfl)) s5) hW hm1 ?_
    intro w' a1 a2
    have f : ∀ j, j < 54 → gI w' (g, j) = gI (kW w g σ' (gI w (0, 30))) (g, j) := fun j hj => a2.2 g j (fun e => by omega)
    have f40 : gI w' (g, 40) = gI w (g, 40) := by rw [f 40 (by omega), gk_off rfl]
    refine h _ ⟨fun q hq => ?_, ?_, ?_, ?_, ?_, ?_, ?_, ?_⟩ ?_
    · rw [sI_ne (by omega), f _ (by omega)]; exact CS_kW q hq
    · rw [gI_sN rfl, f40]; exact s1
    · rw [gI_sN rfl, f40]; exact s2
    · rw [gI_sat, f40, s3]
    · rw [gI_sN rfl, f40]; exact s4
    · exact WL_fr (fun j _ _ => sI_ne (by omega)) a1
    · exact TL_fr (fun j _ _ => by rw [sI_ne (by omega), a2.2 _ _ (fun e => tw_ne e.1)]; exact gk_off (by unfold kOff; rw [beq_f (by omega)]; rcases (show j = 54 ∨ j = 55 ∨ j = 56 ∨ j = 57 by omega) with rfl | rfl | rfl | rfl <;> rfl)) s6
    · rw [sI_ne (by omega), f 53 (by omega), gk_off rfl]; exact s7
    · exact (SN_kW.tr (AF.w2 a2).sn).tr (SN_s (by omega))
  · intro i hi hn
    apply v_X6_doActs_20
    obtain ⟨x, hx⟩ : ∃ x, W[i]? = some x := ⟨W[i]'(by omega), List.getElem?_eq_getElem (by omega)⟩
    have hx2 := s5.2 i x hx
    rw [w6, w7]
    simp (disch := first | decide | omega) only [cl_nI, in_T, le_nI, lt_nI, nI_s1, true_and, and_true, true_implies, false_implies, implies_true, Nat.le_refl, Nat.lt_irrefl, not_false_eq_true, not_true_eq_false, eq_self, i10, i_ten, i_fv, i_fr, cf_kW, cf_s, gk_0, gk_1, gk_2, gk_3, gk_4, gk_5, gk_6, gk_7, gk_8, gk_9, gk_10, gk_11, gk_30, gk_off, gkL, sk_0, sk_1, sk_2, sk_3, sk_4, sk_5, sk_6, sk_7, sk_8, sk_9, sk_10, sk_11, sk_30, sk_off, ub_same, ub_ne, ub_ub, ub_comm, hi, Nat.not_le.mpr hi, show i < 40 by omega, hx2.1, hx2.2]
    have hmem : x ∈ W := List.mem_of_getElem? hx
    refine c_doAct (hok x hmem) ?_
    have e1 : (W.take (i + 1)).foldl (fun σ x => acS (cf w) x σ) σ = acS (cf w) x ((W.take i).foldl (fun σ x => acS (cf w) x σ) σ) := by
      rw [List.take_add_one, hx, List.foldl_append]; rfl
    rw [e1] at hn
    exact hn

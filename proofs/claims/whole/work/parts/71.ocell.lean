/-! cell, fill, town -/
def FQ (w w' : PW) : Prop := w'.2 = w.2 ∧ ∀ a j, ¬ (a = 0 ∧ 2 ≤ j ∧ j ≤ 12) → gI w' (a, j) = gI w (a, j)
def FP (w w' : PW) : Prop := w'.2 = w.2 ∧ ∀ a j, ¬ (a = 0 ∧ 91 ≤ j ∧ j ≤ 101) → gI w' (a, j) = gI w (a, j)
theorem FQ.refl {w} : FQ w w := ⟨rfl, fun _ _ _ => rfl⟩
theorem FP.refl {w} : FP w w := ⟨rfl, fun _ _ _ => rfl⟩
theorem FQ.s {w w' : PW} {j i : Nat} {v : Int32} (h : FQ w w') (hj : 2 ≤ j ∧ j ≤ 12) : FQ w (sI w' (0, j) i v) := ⟨h.1, fun a j' hh => by rw [sI_ne (by omega)]; exact h.2 a j' hh⟩
theorem FP.s {w w' : PW} {j i : Nat} {v : Int32} (h : FP w w') (hj : 91 ≤ j ∧ j ≤ 101) : FP w (sI w' (0, j) i v) := ⟨h.1, fun a j' hh => by rw [sI_ne (by omega)]; exact h.2 a j' hh⟩
theorem LV1_nil {w R A M} (h : LV1 w 1 R A M) : CSt w 1 (aS A) (nI (aH A)) (aM A) (aD A) (aT A) (aW A) (aK A) (aC A) := by
  have : CSt w 1 (aS A) (nI (aH A)) (aM A) (aD A) (aT A) (aW A) (aK A ++ ([] : List A3).filter (lat (aH A))) (aC A) := h.1
  rw [List.filter_nil, List.append_nil] at this; exact this
theorem BO_0 {R rl rf M} (h : BO R 0 rl rf M) : M = [] := by
  cases M with
  | nil => rfl
  | cons x l => have := h.2.1 x (List.mem_cons_self ..); omega
theorem stc_e {c c' : Nat → Nat → Int32} {j : Nat} {σ : Nat → Nat → Int32} (h : ∀ f, f ≤ 10 → c' f j = c f j) (hs : stc c j σ) : stc c' j σ := by
  unfold stc lv at hs ⊢
  rw [h 1 (by omega), h 2 (by omega), h 4 (by omega), h 5 (by omega), h 6 (by omega), h 8 (by omega)]; exact hs
/-- what an anew-told CELL leaves, on the class's side -/
theorem c_cell2 {w wA : PW} {R cr : Nat} {se : Int32} {c c' : Nat → Nat → Int32} {RL : List R3} {PL : List A3} {MK : List MM} {A : AS} {M : List M4} {WT : Nat → WW} {TP : Nat → TT} {v : Nat} {rf : Int32} {i : Nat} {k : Int32 → PW → Prop} (ic : IC w R cr se c RL PL MK A M WT TP v rf) (io : IO R c PL MK A M WT TP v) (h0 : aH A = 0) (hi : i < R) (fq : FQ w wA) (hcA : ceq c' (cf wA)) (hck : CK c' se R) (hc : ∀ f j, f ≤ 10 → ¬ j = i → c' f j = c f j)
    (hk : ∀ w2 σ', IC w2 R cr se c' RL PL MK (asS σ' (aD A) (aW A) (aK A) (aC A)) [] WT TP (v + 1) rf → (∀ j, j < R → stc c' j σ') → FC w w2 → k (lv c' (c' 4) i) w2) : Cl 106 [vO 0 0, vI (nI i)] wA (kI k) := by
  have h24 := hck.2.1
  obtain ⟨c1, c2, c3, c4, c5, c6, c7, c8, c9⟩ := ic
  have ro := io.2.2.1
  obtain ⟨z1, z2, z3, z4⟩ := ro.2.2.2 h0
  have hM : M = [] := BO_0 (by rw [← h0]; exact ro.2.1)
  have kc := LV1_nil c5
  obtain ⟨s0, s1, s2, s3, s4, s5, s6, s7⟩ := kc
  refine c_anew (by omega) ?_ ?_
  · rw [hcA 2 (by omega)]
    intro e; have := (hck.2.2.2 i hi).2.2.1; rw [e, tl0] at this; omega
  intro σ' hσ
  have eA : ∀ q, stv (cf wA) i q = stv c' i q := fun q => by unfold stv; rw [lv_c hcA, hcA 4 (by omega), hcA 5 (by omega), hcA 6 (by omega), hcA 8 (by omega)]
  have hσ' : ∀ q, q < 12 → σ' q = ub (aS A q) i (stv c' i q) := fun q hq => by
    rw [hσ q hq, eA, fq.2 1 (41 + q) (by omega), s0 q hq]
  have st : ∀ j, j < R → stc c' j σ' := fun j hj => by
    by_cases e : j = i
    · subst e; exact stc_v hσ'
    · exact stc_k hσ' e (stc_e (fun f hf => hc f j hf e) (z1 j hj))
  have e9 : gI wA (0, 0) 9 = nI v := by rw [fq.2 0 0 (by omega)]; exact c8
  have e10 : gI wA (0, 0) 10 = rf := by rw [fq.2 0 0 (by omega)]; exact c9
  rw [lv_c hcA, e9, nI_s1]
  have o : ∀ a j, ¬ (a = 0 ∧ j = 0) → gI (sI wA (0, 0) 9 (nI (v + 1))) (a, j) = gI wA (a, j) := fun a j hj => sI_ne hj
  have o9 : gI (sI wA (0, 0) 9 (nI (v + 1))) (0, 0) 9 = nI (v + 1) := gI_sat
  have o10 : gI (sI wA (0, 0) 9 (nI (v + 1))) (0, 0) 10 = rf := by rw [gI_sN rfl]; exact e10
  have o2 : (sI wA (0, 0) 9 (nI (v + 1))).2 = wA.2 := rfl
  generalize sI wA (0, 0) 9 (nI (v + 1)) = wB at o o9 o10 o2 ⊢
  have sn : SN 1 wB (kW wB 1 σ' (gI wA (0, 30))) := SN_kW
  have cs : CS (kW wB 1 σ' (gI wA (0, 30))) 1 σ' := CS_kW
  have kk : ∀ a j, kOff j = true → gI (kW wB 1 σ' (gI wA (0, 30))) (a, j) = gI wB (a, j) := fun a j h => gk_off h
  generalize kW wB 1 σ' (gI wA (0, 30)) = w2 at sn cs kk ⊢
  have l2 : w2.2 = w.2 := by rw [sn.1, o2, fq.1]
  have fr : ∀ a j, ¬ ((a = 1 ∧ 40 ≤ j ∧ j ≤ 53) ∨ ((a = 102 ∨ a = 103) ∧ 54 ≤ j ∧ j ≤ 57) ∨ (a = 0 ∧ (j = 30 ∨ j = 31 ∨ j = 0 ∨ (2 ≤ j ∧ j ≤ 12)))) → gI w2 (a, j) = gI w (a, j) := fun a j hh => by
    rw [sn.2 a j (by unfold wg tg; omega), o a j (by omega), fq.2 a j (by omega)]
  have fk : ∀ a j, kOff j = true → ¬ (a = 0 ∧ (j = 0 ∨ (2 ≤ j ∧ j ≤ 12))) → gI w2 (a, j) = gI w (a, j) := fun a j h hh => by
    rw [kk a j h, o a j (by omega), fq.2 a j (by omega)]
  have hc2 : ceq c' (cf w2) := fun f hf => by
    show gI w2 (0, 2 + f) = _
    rw [sn.2 0 (2 + f) (by unfold wg tg; omega), o _ _ (by omega)]; exact hcA f hf
  have f54 : ∀ a j, 54 ≤ j → j ≤ 57 → gI w2 (a, j) = gI w (a, j) := fun a j h1 h2 => fk a j (by rcases (show j = 54 ∨ j = 55 ∨ j = 56 ∨ j = 57 by omega) with rfl | rfl | rfl | rfl <;> rfl) (by omega)
  have sigv : lv c' (σ' 0) i = lv c' (c' 4) i := by unfold lv; rw [(st i hi).1]
  rw [sigv]
  refine hk w2 σ' ⟨⟨by rw [fr 0 1 (by omega)]; exact c1.1, by rw [fr 0 1 (by omega)]; exact c1.2.1, by rw [fr 0 1 (by omega)]; exact c1.2.2.1, c1.2.2.2.1, CK.c hc2 hck, ?_, c1.2.2.2.2.2.2⟩, hc2, PLc_fr (fun j _ _ => fr _ _ (by omega)) c3, MKc_fr (fun j _ _ => fr _ _ (by omega)) c4, ⟨?_, start_BK ?_ (fun q hq => ?_) h24⟩, fun b hb => WTc_fr (fun j _ _ => fr _ _ (by omega)) (c6 b hb), fun d hd => ?_, ?_, ?_⟩ st (fun a j hj => ⟨fr _ _ (by omega), by unfold gL; rw [l2]⟩)
  · unfold RUc
    rw [fr 0 14 (by omega), fr 0 15 (by omega), fr 0 16 (by omega), fr 0 17 (by omega), fr 0 18 (by omega), fr 0 19 (by omega), fr 0 20 (by omega)]
    exact c1.2.2.2.2.2.1
  · show CSt w2 1 σ' (nI 0) 0 (aD A) 0 (aW A) (aK A ++ ([] : List A3).filter (lat 0)) (aC A)
    rw [List.filter_nil, List.append_nil]
    have k40 : gI w2 (1, 40) = gI w (1, 40) := fk _ _ rfl (by omega)
    rw [h0] at s1; rw [z2] at s2; rw [z3] at s4
    refine ⟨cs, by rw [k40]; exact s1, by rw [k40]; exact s2, by rw [k40]; exact s3, by rw [k40]; exact s4, WL_fr (fun j a b => f54 _ j a b) s5, TL_fr (fun j a b => f54 _ j a b) s6, by rw [fk 1 53 rfl (by omega)]; exact s7⟩
  · have := c5.2.1
    rw [fr 1 62 (by omega)]; rw [bg1, hM] at this; exact this
  · rw [fr 1 65 (by omega)]; exact BK_65 c5.2 q hq
  · exact TPc_up (io.2.2.2.2 d hd) (TPc_fr (fr _ _ (by omega)) (by unfold gL; rw [l2]) (fun j _ _ => fr _ _ (by omega)) (fun j _ _ => fr _ _ (by omega)) (fun j _ _ => fr _ _ (by omega)) (fun j _ _ => fr _ _ (by omega)) (c7 d hd))
  · rw [kk 0 0 rfl]; exact o9
  · rw [kk 0 0 rfl]; exact o10
/-- what it leaves in the model -/
theorem m_cell2 {w wB : PW} {R cr : Nat} {se : Int32} {c c' : Nat → Nat → Int32} {RL : List R3} {PL : List A3} {MK : List MM} {A : AS} {M : List M4} {WT : Nat → WW} {TP : Nat → TT} {v : Nat} {rf : Int32} {i : Nat} {σ' : Nat → Nat → Int32} {k : Int32 → PW → Prop} (im : IM w R cr se c RL PL MK A M WT TP v rf) (io : IO R c PL MK A M WT TP v) (h0 : aH A = 0) (hi : i < R) (fp : FP w wB) (hcB : CE R c' (cm wB)) (hck : CK c' se R) (st : ∀ j, j < R → stc c' j σ')
    (hk : ∀ w3, IM w3 R cr se c' RL PL MK (asS σ' (aD A) (aW A) (aK A) (aC A)) [] WT TP (v + 1) rf → IO R c' PL MK (asS σ' (aD A) (aW A) (aK A) (aC A)) [] WT TP (v + 1) → FN w w3 → k (lv c' (c' 4) i) w3) : Cl 122 [vO 0 90, vI (nI i)] wB (kI k) := by
  have h24 := hck.2.1
  obtain ⟨m1, m2, m3, m4, m5, m6, m7, m8⟩ := im
  have ro := io.2.2.1
  obtain ⟨z1, z2, z3, z4⟩ := ro.2.2.2 h0
  have hM : M = [] := BO_0 (by rw [← h0]; exact ro.2.1)
  obtain ⟨⟨a1, a2, a3, a4, a5, a6, a7⟩, b1, b2, b3⟩ := ro
  obtain ⟨k1, k2, k3, k4, k5, k6, k7, k8, k9, k10⟩ := m4
  refine m_keeps (by rw [fp.2 0 90 (by omega)]; exact m1.1) hck hcB hi ?_
  intro w3 f f' sm q1 q2 q3 q4 q5 q6 q7
  rw [fp.2 1 114 (by omega)] at q2
  rw [fp.2 0 90 (by omega)] at q6 q7
  have fr : ∀ a j, ¬ ((a = 0 ∧ (j = 90 ∨ j = 121 ∨ (91 ≤ j ∧ j ≤ 101))) ∨ (a = 1 ∧ j = 114)) → gI w3 (a, j) = gI w (a, j) := fun a j hh => by rw [q5 a j (by omega), fp.2 a j (by omega)]
  have l3 : w3.2 = w.2 := by rw [q4, fp.1]
  have km : KM f' R [] (asS σ' (aD A) (aW A) (aK A) (aC A)) := by
    refine start_KM hck st z4 sm q1 (by rw [q2 _ (by omega) (by omega)]; exact k4) (by rw [q2 _ (by omega) (by omega), k9.1, hM]; rfl) ⟨by rw [q2 _ (by omega) (by omega)]; exact k6.1, fun q x hx => ?_⟩ ⟨by rw [q2 _ (by omega) (by omega)]; exact k7.1, fun q x hx => ?_⟩
    · have hq : q < (aW A).length := (List.getElem?_eq_some_iff.mp hx).1
      rw [q2 _ (by omega) (by omega), q2 _ (by omega) (by omega)]; exact k6.2 q x hx
    · have hq : q < (aK A).length := (List.getElem?_eq_some_iff.mp hx).1
      rw [q2 _ (by omega) (by omega), q2 _ (by omega) (by omega), q2 _ (by omega) (by omega)]; exact k7.2 q x hx
  refine hk w3 ⟨?_, CE_fr (fun j hj => q5 0 j (by omega)) hcB, MKm_fr (q7 35 (by omega)) (fun j _ _ => fr _ _ (by omega)) m3, by rw [q3]; exact km, fun b hb => WTm_fr (fun j hj => fr _ _ (by omega)) (m5 b hb), fun d hd => ?_, by rw [q6, m7, nI_s1], by rw [q7 36 (by omega)]; exact m8⟩ ⟨io.1, io.2.1, start_RO hck st z4 a4 a5 a6 a7, io.2.2.2.1, fun d hd => TPo_up (io.2.2.2.2 d hd)⟩ (fun a j hj => ⟨fr _ _ (by omega), by unfold gL; rw [l3]⟩)
  · obtain ⟨x1, x2, x3, x4, x5, x6, x7, x8⟩ := m1
    unfold EM RUm PLm
    rw [q7 30 (by omega), q7 31 (by omega), q7 32 (by omega), q7 33 (by omega), q7 34 (by omega), fr 0 105 (by omega), fr 0 106 (by omega), fr 0 107 (by omega), fr 0 108 (by omega), fr 0 109 (by omega), fr 0 110 (by omega)]
    exact ⟨x1, x2, x3, x4, x5, x6, x7, x8⟩
  · exact TPm_up (io.2.2.2.2 d hd) (TPm_fr (fun j _ _ => fr _ _ (by omega)) (by unfold gL; rw [l3]) (m6 d hd))

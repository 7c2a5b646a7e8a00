/-! States are copied */ -/
def cpW (w : PW) (g a : Nat) : PW := (fun j g' => bif Nat.ble 41 j && Nat.ble j 53 && Nat.beq g' g then w.1 j a else w.1 j g', w.2)
theorem cp_in {w : PW} {g a j : Nat} (h : 41 ≤ j ∧ j ≤ 53) : gI (cpW w g a) (g, j) = gI w (a, j) := by
  show (bif Nat.ble 41 j && Nat.ble j 53 && Nat.beq g g then w.1 j a else w.1 j g) = _
  rw [show Nat.ble 41 j = true from Nat.ble_eq.mpr h.1, show Nat.ble j 53 = true from Nat.ble_eq.mpr h.2, Nat.beq_refl]; rfl
theorem cp_out {w : PW} {g a g' j : Nat} (h : ¬ (g' = g ∧ 41 ≤ j ∧ j ≤ 53)) : gI (cpW w g a) (g', j) = gI w (g', j) := by
  show (bif Nat.ble 41 j && Nat.ble j 53 && Nat.beq g' g then w.1 j a else w.1 j g') = w.1 j g'
  cases hb : (Nat.ble 41 j && Nat.ble j 53 && Nat.beq g' g) with
  | false => rfl
  | true =>
    simp only [Bool.and_eq_true, Nat.ble_eq] at hb
    exact absurd ⟨Nat.eq_of_beq_eq_true hb.2, hb.1.1, hb.1.2⟩ h
theorem shk_row {j : Nat} (h : 41 ≤ j ∧ j ≤ 53) : shk j = 2 := by
  rcases (show j = 41 ∨ j = 42 ∨ j = 43 ∨ j = 44 ∨ j = 45 ∨ j = 46 ∨ j = 47 ∨ j = 48 ∨ j = 49 ∨ j = 50 ∨ j = 51 ∨ j = 52 ∨ j = 53 by omega) with rfl | rfl | rfl | rfl | rfl | rfl | rfl | rfl | rfl | rfl | rfl | rfl | rfl <;> rfl
theorem len_row {g j : Nat} (h : 41 ≤ j ∧ j ≤ 52) : len g j = 24 := by
  rcases (show j = 41 ∨ j = 42 ∨ j = 43 ∨ j = 44 ∨ j = 45 ∨ j = 46 ∨ j = 47 ∨ j = 48 ∨ j = 49 ∨ j = 50 ∨ j = 51 ∨ j = 52 by omega) with rfl | rfl | rfl | rfl | rfl | rfl | rfl | rfl | rfl | rfl | rfl | rfl <;> rfl
theorem Weq_cp {w : PW} {g a : Nat} (h1 : ∀ j k, 41 ≤ j → j ≤ 52 → k < 24 → gI w (g, j) k = gI w (a, j) k) (h2 : ∀ k, k < 12 → gI w (g, 53) k = gI w (a, 53) k) : Weq w (cpW w g a) := by
  rintro ⟨g', j⟩ k hk
  refine ⟨?_, rfl⟩
  by_cases h : g' = g ∧ 41 ≤ j ∧ j ≤ 53
  · obtain ⟨rfl, h3⟩ := h
    rw [cp_in h3]
    have hs := shk_row h3
    rcases hk with hk | hk
    · exact absurd (hs.symm.trans hk) (by decide)
    · by_cases e : j = 53
      · subst e; exact (h2 k hk).symm
      · have hk' : k < len g' j := hk
        rw [len_row ⟨h3.1, by omega⟩] at hk'
        exact (h1 j k h3.1 (by omega) hk').symm
  · rw [cp_out h]
def CPr (g a n : Nat) (w w' : PW) : Prop := w'.2 = w.2 ∧ (∀ g' j, ¬ (g' = g ∧ 40 ≤ j ∧ j ≤ n) → gI w' (g', j) = gI w (g', j)) ∧ (∀ j k, 41 ≤ j → j ≤ n → k < 24 → gI w' (g, j) k = gI w (a, j) k) ∧ ∀ k, k < 4 → gI w' (g, 40) k = gI w (a, 40) k
theorem cpr_step {g a n : Nat} {w w' : PW} {f : Nat → Int32} (h : CPr g a n w w') (hn : 40 ≤ n) (hf : ∀ k, k < 24 → f k = gI w (a, n + 1) k) : CPr g a (n + 1) w (aI w' (g, n + 1) f) := by
  obtain ⟨h1, h2, h3, h4⟩ := h
  refine ⟨h1, fun g' j hh => ?_, fun j k a1 a2 a3 => ?_, fun k hk => ?_⟩
  · rw [aI_ne (fun e => hh ⟨e.1, by omega, by omega⟩)]; exact h2 g' j (fun e => hh ⟨e.1, e.2.1, by omega⟩)
  · by_cases e : j = n + 1
    · subst e; rw [gI_aI]; exact hf k a3
    · rw [aI_ne (fun x => e x.2)]; exact h3 j k a1 (by omega) a3
  · rw [aI_ne (by omega)]; exact h4 k hk
theorem cpy_f {w w' : PW} {g a n j : Nat} {o : Nat → Int32} (h : CPr g a n w w') (hne : ¬ a = g) : ∀ k, k < 24 → va_cpy (gI w' (a, j)) o 0 0 24 k = gI w (a, j) k := by
  intro k hk
  rw [va_cpy_in (by omega) (by omega), h.2.1 a j (fun e => hne e.1)]
  show gI w (a, j) (0 + (k - 0)) = _
  rw [show 0 + (k - 0) = k by omega]
theorem cp24 : cpOK 0 0 24 24 24 := ⟨by decide, by decide, by decide, by decide, by decide⟩
theorem cp12 : cpOK 0 0 12 12 12 := ⟨by decide, by decide, by decide, by decide, by decide⟩
theorem va_cpy_z {α : Type} {f g : Nat → α} {n k : Nat} (h : k < n) : va_cpy f g 0 0 n k = f k := by
  rw [va_cpy_in (by omega) (by omega), show 0 + (k - 0) = k by omega]
theorem c_takeT {w ga gb k} {l : List A3} (cap capb : Nat) (h5 : len ga 55 = cap) (h6 : len ga 56 = cap) (h7 : len ga 57 = cap) (b5 : len gb 55 = capb) (b6 : len gb 56 = capb) (b7 : len gb 57 = capb) (hc : cap ≤ 40) (hcb : capb ≤ 40) (hl : TL w gb l) (hle : l.length ≤ cap) (hleb : l.length ≤ capb)
    (h : ∀ w', TL w' ga l → AF ga w w' → k w') : Cl 5 [vO ga 54, vO gb 54] w (kV k) := by
  apply v_X0_takeFrom_0
  have e : jmin (gI w (gb, 54) 3) (nI (len ga 56)) = nI l.length := by
    rw [hl.1, h6]; unfold jmin
    by_cases g : cap < l.length
    · omega
    · rw [if_neg (fun x => g ((lt_nI (by omega) (by omega)).mp x))]
  rw [e, gI_sat, h5, h6, h7, b5, b6, b7, cl_nI (by omega)]
  have c : cpOK 0 0 (nI l.length) capb cap := cp_nI (a := 0) (b := 0) (by omega) (by omega) (by omega) (by omega)
  refine ⟨c, c, c, h _ ⟨?_, fun q x hx => ?_⟩ ((((AF_s (by omega)).tr (AF_a (by omega))).tr (AF_a (by omega))).tr (AF_a (by omega)))⟩
  · rw [aI_ne (by omega), aI_ne (by omega), aI_ne (by omega), gI_sat]
  · have hq : q < l.length := (List.getElem?_eq_some_iff.mp hx).1
    rw [aI_ne (by omega), aI_ne (by omega), gI_aI, aI_ne (by omega), gI_aI, gI_aI, va_cpy_z hq, va_cpy_z hq, va_cpy_z hq]
    exact hl.2 q x hx
theorem c_takeW {w ga gb k} {l : List A2} (cap capb : Nat) (h5 : len ga 55 = cap) (h6 : len ga 56 = cap) (h7 : len ga 57 = cap) (b5 : len gb 55 = capb) (b6 : len gb 56 = capb) (b7 : len gb 57 = capb) (hc : cap ≤ 40) (hcb : capb ≤ 40) (hl : WL w gb l) (hle : l.length ≤ cap) (hleb : l.length ≤ capb)
    (h : ∀ w', WL w' ga l → AF ga w w' → k w') : Cl 5 [vO ga 54, vO gb 54] w (kV k) := by
  apply v_X0_takeFrom_0
  have e : jmin (gI w (gb, 54) 3) (nI (len ga 56)) = nI l.length := by
    rw [hl.1, h6]; unfold jmin
    by_cases g : cap < l.length
    · omega
    · rw [if_neg (fun x => g ((lt_nI (by omega) (by omega)).mp x))]
  rw [e, gI_sat, h5, h6, h7, b5, b6, b7, cl_nI (by omega)]
  have c : cpOK 0 0 (nI l.length) capb cap := cp_nI (a := 0) (b := 0) (by omega) (by omega) (by omega) (by omega)
  refine ⟨c, c, c, h _ ⟨?_, fun q x hx => ?_⟩ ((((AF_s (by omega)).tr (AF_a (by omega))).tr (AF_a (by omega))).tr (AF_a (by omega)))⟩
  · rw [aI_ne (by omega), aI_ne (by omega), aI_ne (by omega), gI_sat]
  · have hq : q < l.length := (List.getElem?_eq_some_iff.mp hx).1
    rw [aI_ne (by omega), gI_aI, gI_aI, va_cpy_z hq, va_cpy_z hq]
    exact hl.2 q x hx
theorem wt_inj {g a : Nat} : (wg g = wg a → g = a) ∧ (tg g = tg a → g = a) := by unfold wg tg; omega
theorem c_copySt {w g a k σ hr hm dn wm W T ca} (hg : g ≤ 8) (ha : a ≤ 8) (hne : ¬ a = g) (hs : CSt w a σ hr hm dn wm W T ca) (hW : W.length ≤ 40) (hT : T.length ≤ 32)
    (h : ∀ w', CSt w' g σ hr hm dn wm W T ca → SN g w w' → k w') : Cl 26 [vO g 40, vO a 40] w (kV k) := by
  obtain ⟨w5, w6, w7⟩ := len_w5 hg
  obtain ⟨x5, x6, x7⟩ := len_w5 ha
  obtain ⟨t5, t6, t7⟩ := len_t5 hg
  obtain ⟨y5, y6, y7⟩ := len_t5 ha
  have bn : Nat.beq a g = false := beq_f hne
  apply v_X5_takeFrom_0
  simp only [gI_gs bn]
  have z1 : CPr g a 40 w (sI (sI (sI (sI w (g, 40) 0 (gI w (a, 40) 0)) (g, 40) 1 (gI w (a, 40) 1)) (g, 40) 2 (gI w (a, 40) 2)) (g, 40) 3 (gI w (a, 40) 3)) := by
    refine ⟨rfl, fun g' j hh => by rw [sI_ne (fun e => hh ⟨e.1, by omega, by omega⟩), sI_ne (fun e => hh ⟨e.1, by omega, by omega⟩), sI_ne (fun e => hh ⟨e.1, by omega, by omega⟩), sI_ne (fun e => hh ⟨e.1, by omega, by omega⟩)], fun j k a1 a2 => by omega, fun k hk => ?_⟩
    rw [gI_s, gI_s, gI_s, gI_s]
    rcases (show k = 0 ∨ k = 1 ∨ k = 2 ∨ k = 3 by omega) with rfl | rfl | rfl | rfl <;> rfl
  have cf : ∀ j (o : Nat → Int32), ∀ k, k < 24 → va_cpy (gI w (a, j)) o 0 0 24 k = gI w (a, j) k := fun j o k hk => va_cpy_z hk
  have z2 := cpr_step z1 (by omega) (cf 41 (gI w (g, 41)))
  have z3 := cpr_step z2 (by omega) (cf 42 (gI w (g, 42)))
  refine ⟨cp24, cp24, ?_⟩
  generalize aI (aI (sI (sI (sI (sI w (g, 40) 0 (gI w (a, 40) 0)) (g, 40) 1 (gI w (a, 40) 1)) (g, 40) 2 (gI w (a, 40) 2)) (g, 40) 3 (gI w (a, 40) 3)) (g, 41) (va_cpy (gI w (a, 41)) (gI w (g, 41)) 0 0 24)) (g, 42) (va_cpy (gI w (a, 42)) (gI w (g, 42)) 0 0 24) = wa at z3 ⊢
  apply v_X5_takeFrom_62
  refine ⟨cp24, cp24, ?_⟩
  have z4 := cpr_step (cpr_step z3 (by omega) (cpy_f (j := 43) (o := gI wa (g, 43)) z3 hne)) (by omega) (cpy_f (j := 44) (o := gI wa (g, 44)) z3 hne)
  generalize aI (aI wa (g, 43) (va_cpy (gI wa (a, 43)) (gI wa (g, 43)) 0 0 24)) (g, 44) (va_cpy (gI wa (a, 44)) (gI wa (g, 44)) 0 0 24) = wb at z4 ⊢
  apply v_X5_takeFrom_92
  refine ⟨cp24, cp24, ?_⟩
  have z5 := cpr_step (cpr_step z4 (by omega) (cpy_f (j := 45) (o := gI wb (g, 45)) z4 hne)) (by omega) (cpy_f (j := 46) (o := gI wb (g, 46)) z4 hne)
  generalize aI (aI wb (g, 45) (va_cpy (gI wb (a, 45)) (gI wb (g, 45)) 0 0 24)) (g, 46) (va_cpy (gI wb (a, 46)) (gI wb (g, 46)) 0 0 24) = wc at z5 ⊢
  apply v_X5_takeFrom_122
  refine ⟨cp24, cp24, ?_⟩
  have z6 := cpr_step (cpr_step z5 (by omega) (cpy_f (j := 47) (o := gI wc (g, 47)) z5 hne)) (by omega) (cpy_f (j := 48) (o := gI wc (g, 48)) z5 hne)
  generalize aI (aI wc (g, 47) (va_cpy (gI wc (a, 47)) (gI wc (g, 47)) 0 0 24)) (g, 48) (va_cpy (gI wc (a, 48)) (gI wc (g, 48)) 0 0 24) = wd at z6 ⊢
  apply v_X5_takeFrom_152
  refine ⟨cp24, cp24, ?_⟩
  have z7 := cpr_step (cpr_step z6 (by omega) (cpy_f (j := 49) (o := gI wd (g, 49)) z6 hne)) (by omega) (cpy_f (j := 50) (o := gI wd (g, 50)) z6 hne)
  generalize aI (aI wd (g, 49) (va_cpy (gI wd (a, 49)) (gI wd (g, 49)) 0 0 24)) (g, 50) (va_cpy (gI wd (a, 50)) (gI wd (g, 50)) 0 0 24) = we at z7 ⊢
  apply v_X5_takeFrom_182
  refine ⟨cp24, cp24, ?_⟩
  have z8 := cpr_step (cpr_step z7 (by omega) (cpy_f (j := 51) (o := gI we (g, 51)) z7 hne)) (by omega) (cpy_f (j := 52) (o := gI we (g, 52)) z7 hne)
  generalize aI (aI we (g, 51) (va_cpy (gI we (a, 51)) (gI we (g, 51)) 0 0 24)) (g, 52) (va_cpy (gI we (a, 52)) (gI we (g, 52)) 0 0 24) = wf at z8 ⊢
  apply v_X5_takeFrom_212
  refine ⟨cp12, ?_⟩
  obtain ⟨p1, p2, p3, p4⟩ := z8
  have r53 : ∀ k, k < 12 → gI (aI wf (g, 53) (va_cpy (gI wf (a, 53)) (gI wf (g, 53)) 0 0 12)) (g, 53) k = gI w (a, 53) k := by
    intro k hk
    rw [gI_aI, va_cpy_z hk, p2 a 53 (by omega)]
  have fr : ∀ g' j, ¬ (g' = g ∧ 40 ≤ j ∧ j ≤ 53) → gI (aI wf (g, 53) (va_cpy (gI wf (a, 53)) (gI wf (g, 53)) 0 0 12)) (g', j) = gI w (g', j) := fun g' j hh => by
    rw [aI_ne (fun e => hh ⟨e.1, by omega, by omega⟩)]; exact p2 g' j (by omega)
  have rw' : ∀ j k, 41 ≤ j → j ≤ 52 → k < 24 → gI (aI wf (g, 53) (va_cpy (gI wf (a, 53)) (gI wf (g, 53)) 0 0 12)) (g, j) k = gI w (a, j) k := fun j k a1 a2 a3 => by
    rw [aI_ne (by omega)]; exact p3 j k a1 a2 a3
  have r40 : ∀ k, k < 4 → gI (aI wf (g, 53) (va_cpy (gI wf (a, 53)) (gI wf (g, 53)) 0 0 12)) (g, 40) k = gI w (a, 40) k := fun k hk => by rw [aI_ne (by omega)]; exact p4 k hk
  have l2 : (aI wf (g, 53) (va_cpy (gI wf (a, 53)) (gI wf (g, 53)) 0 0 12)).2 = w.2 := p1
  generalize aI wf (g, 53) (va_cpy (gI wf (a, 53)) (gI wf (g, 53)) 0 0 12) = wz at r53 fr rw' r40 l2 ⊢
  refine Wp.eq _ _ _ _ _ (cpW wz g a) _ (Weq_cp (fun j k a1 a2 a3 => by rw [rw' j k a1 a2 a3, fr a j (fun e => hne e.1)]) (fun k hk => by rw [r53 k hk, fr a 53 (fun e => hne e.1)])) ?_
  obtain ⟨s0, s1, s2, s3, s4, s5, s6, s7⟩ := hs
  have f2 : ∀ g' j, ¬ (g' = g ∧ 40 ≤ j ∧ j ≤ 53) → gI (cpW wz g a) (g', j) = gI w (g', j) := fun g' j hh => by
    rw [cp_out (by omega)]; exact fr g' j hh
  have rows : ∀ j, 41 ≤ j → j ≤ 53 → gI (cpW wz g a) (g, j) = gI w (a, j) := fun j a1 a2 => by
    rw [cp_in ⟨a1, a2⟩]; exact fr a j (fun e => hne e.1)
  have q40 : ∀ k, k < 4 → gI (cpW wz g a) (g, 40) k = gI w (a, 40) k := fun k hk => by rw [cp_out (by omega)]; exact r40 k hk
  have cl : (cpW wz g a).2 = w.2 := l2
  generalize cpW wz g a = w1 at f2 rows q40 cl
  refine c_takeW 40 40 w5 w6 w7 x5 x6 x7 (by omega) (by omega) (WL_fr (fun j _ _ => f2 _ _ (by omega)) s5) hW hW ?_
  intro w2 b1 b2
  refine c_takeT 32 32 t5 t6 t7 y5 y6 y7 (by omega) (by omega) (TL_fr (fun j _ _ => by rw [b2.2 _ _ (fun e => by have := e.1; unfold wg tg at this; omega)]; exact f2 _ _ (by omega)) s6) hT hT ?_
  intro w3 d1 d2
  have lo : ∀ g' j, j < 54 → gI w3 (g', j) = gI w1 (g', j) := fun g' j hj => (d2.2 g' j (by omega)).trans (b2.2 g' j (by omega))
  refine h w3 ⟨fun q hq => ?_, ?_, ?_, ?_, ?_, ?_, d1, ?_⟩ ⟨?_, fun g' j hh => ?_⟩
  · rw [lo _ _ (by omega), rows _ (by omega) (by omega)]; exact s0 q hq
  · rw [lo _ _ (by omega), q40 0 (by omega)]; exact s1
  · rw [lo _ _ (by omega), q40 1 (by omega)]; exact s2
  · rw [lo _ _ (by omega), q40 2 (by omega)]; exact s3
  · rw [lo _ _ (by omega), q40 3 (by omega)]; exact s4
  · exact WL_fr (fun j _ _ => d2.2 _ _ (fun e => wt_ne e.1)) b1
  · rw [lo _ _ (by omega), rows 53 (by omega) (by omega)]; exact s7
  · exact d2.1.trans (b2.1.trans cl)
  · rw [d2.2 g' j (by omega), b2.2 g' j (by omega)]; exact f2 g' j (by omega)
/-- a book's rows are taken over -/
def BkF (b : Nat) (w w' : PW) : Prop := w'.2 = w.2 ∧ ∀ g j, ¬ (g = b ∧ 62 ≤ j ∧ j ≤ 68) → gI w' (g, j) = gI w (g, j)
theorem c_copyBk {w b a k R hr rl rf M} {n na : Nat} (hne : ¬ a = b) (hbk : BK w a R hr rl rf M) (hM : M.length ≤ 40) (h24 : R ≤ 24) (h4 : hr ≤ 396)
    (l3 : len b 63 = n) (l4 : len b 64 = n) (l5 : len b 65 = n) (m3 : len a 63 = na) (m4 : len a 64 = na) (m5 : len a 65 = na) (hn : (hr + 1) * 24 ≤ n) (hna : (hr + 1) * 24 ≤ na) (hb : n < 100000) (hba : na < 100000)
    (h : ∀ w', BK w' b R hr rl rf M → BkF b w w' → k w') : Cl 12 [vO b 62, vO a 62, vI (nI hr)] w (kV k) := by
  obtain ⟨q1, q2, q3, q4⟩ := hbk
  apply v_X1_takeFrom_0
  rw [gI_sat, q1, l3, l4, l5, m3, m4, m5, nI_s1, show (24 : Int32) = nI 24 from rfl, nI_ml, cl_nI (by omega), cl_nI (by omega)]
  have c : cpOK 0 0 (nI ((hr + 1) * 24)) na n := cp_nI (a := 0) (b := 0) (by omega) (by omega) (by omega) (by omega)
  have c4 : cpOK 0 0 (nI M.length) 40 40 := cp_nI (a := 0) (b := 0) (by omega) (by omega) (by omega) (by omega)
  refine ⟨c, c, c, c4, c4, c4, h _ ⟨?_, ?_, fun i h' hi h1 h2 => ?_, fun i h' hi h2 => ?_⟩ ⟨rfl, fun g j hh => ?_⟩⟩
  · rw [aI_ne (by omega), aI_ne (by omega), aI_ne (by omega), gI_sat]
  · rw [aI_ne (j := 66) (by omega), aI_ne (j := 66) (by omega), gI_aI, aI_ne (j := 67) (by omega), gI_aI, gI_aI]
    have ul : ∀ l : List M4, l.length ≤ M.length → UL rl rf (gI w (a, 66)) (gI w (a, 67)) (gI w (a, 68)) l → UL rl rf (va_cpy (gI w (a, 66)) (gI w (b, 66)) 0 0 M.length) (va_cpy (gI w (a, 67)) (gI w (b, 67)) 0 0 M.length) (va_cpy (gI w (a, 68)) (gI w (b, 68)) 0 0 M.length) l := by
      intro l
      induction l with
      | nil => intro _ _; exact trivial
      | cons x l ih =>
        intro hl hu
        rw [List.length_cons] at hl
        obtain ⟨u1, u2, u3, u4⟩ := hu
        exact ⟨by rw [va_cpy_z (by omega)]; exact u1, by rw [va_cpy_z (by omega)]; exact u2, by rw [va_cpy_z (by omega)]; exact u3, ih (by omega) u4⟩
    exact ul M (Nat.le_refl _) q2
  · have hh : h' * 24 ≤ hr * 24 := Nat.mul_le_mul_right _ h2
    rw [aI_ne (j := 63) (by omega), aI_ne (j := 63) (by omega), aI_ne (j := 63) (by omega), sI_ne (by omega), aI_ne (j := 63) (by omega), aI_ne (j := 63) (by omega), gI_aI,
      aI_ne (j := 64) (by omega), aI_ne (j := 64) (by omega), aI_ne (j := 64) (by omega), sI_ne (by omega), aI_ne (j := 64) (by omega), gI_aI, va_cpy_z (by omega), va_cpy_z (by omega)]
    exact q3 i h' hi h1 h2
  · have hh : h' * 24 ≤ hr * 24 := Nat.mul_le_mul_right _ h2
    rw [aI_ne (j := 65) (by omega), aI_ne (j := 65) (by omega), aI_ne (j := 65) (by omega), sI_ne (by omega), gI_aI, va_cpy_z (by omega)]
    exact q4 i h' hi h2
  · rw [aI_ne (by omega), aI_ne (by omega), aI_ne (by omega), sI_ne (by omega), aI_ne (by omega), aI_ne (by omega), aI_ne (by omega)]

/-! an HOUR on the class's side -/
def inf (f : Int32) (σ : Nat → Nat → Int32) : Nat → Nat → Int32 := ub σ 0 (ub (σ 0) 0 (σ 0 0 + f))
def sg (c : Nat → Nat → Int32) (se : Int32) (R : Nat) (f t : Int32) (σ : Nat → Nat → Int32) : Nat → Nat → Int32 :=
  jgS c se R (if t < 0 then 50 else 30) (drS c R (brS c R (frC c R t (flowS c se R (inf f σ)))))
def ceq (c c' : Nat → Nat → Int32) : Prop := ∀ f, f ≤ 10 → c' f = c f
theorem ceq.CE {R c c'} (h : ceq c c') : CE R c c' := fun f _ hf _ => congrFun (h f hf) _
theorem ceq.refl {c} : ceq c c := fun _ _ => rfl
theorem ceq.tr {c c' c''} (h : ceq c c') (h' : ceq c' c'') : ceq c c'' := fun f hf => (h' f hf).trans (h f hf)
theorem ceq.symm {c c'} (h : ceq c c') : ceq c' c := fun f hf => (h f hf).symm
theorem lv_c {c c' wa} (h : ceq c c') : lv c' wa = lv c wa := by
  funext i; unfold lv; rw [h 1 (by omega), h 2 (by omega)]
theorem lx_c {c c' se R wa} (h : ceq c c') : lx c' se R wa = lx c se R wa := by
  funext i; unfold lx; rw [lv_c h]
theorem crS_c {c c' R hh σ} (h : ceq c c') : crS c' R hh σ = crS c R hh σ := by
  have a : crA c' σ = crA c σ := by funext i; unfold crA; rw [lv_c h]
  have b : crB c' hh σ = crB c hh σ := by funext i; unfold crB; rw [lv_c h]
  unfold crS; rw [a, b]
theorem hmS_c {c c' σ hm} (h : ceq c c') : ∀ n, hmS c' σ n hm = hmS c σ n hm := by
  intro n
  induction n with
  | zero => rfl
  | succ n ih => unfold hmS; rw [ih, lv_c h, h 7 (by omega)]
theorem CK.c {c c' se R} (h : ceq c c') (hc : CK c se R) : CK c' se R := by
  unfold CK
  rw [h 0 (by omega), h 1 (by omega), h 2 (by omega), h 3 (by omega), h 4 (by omega), h 5 (by omega), h 6 (by omega), h 7 (by omega), h 8 (by omega), h 9 (by omega)]
  exact hc
theorem Ok.c {c c' R W I σ} (h : ceq c c') (ho : Ok c R W I σ) : Ok c' R W I σ := by
  unfold Ok shOK; rw [h 0 (by omega)]; exact ho
theorem SN.ceq {g w w'} (h : SN g w w') : ceq (cf w) (cf w') := fun f hf => h.2 0 (2 + f) (by omega)
theorem Sm_inf {f : Nat → Int32} {v : Int32} : ∀ n, 0 < n → Sm (ub f 0 v) n = Sm f n + (v.toInt - (f 0).toInt) := by
  intro n
  induction n with
  | zero => intro h; omega
  | succ n ih =>
    intro _
    unfold Sm
    by_cases h : n = 0
    · subst h; rw [ub_same]; unfold Sm; omega
    · rw [ih (by omega), ub_ne (beq_f h)]; omega
theorem ok_inf {c R W I σ f} (h : Ok c R W I σ) (hR : 2 ≤ R) (hf : 0 ≤ f.toInt ∧ f.toInt ≤ 9999) (hW : W ≤ 8900000) : Ok c R (W + 9999) I (inf f σ) := by
  have w0 := h.wa (i := 0) (by omega)
  have e : (σ 0 0 + f).toInt = (σ 0 0).toInt + f.toInt := ti_add (by omega) (by omega)
  refine ⟨fun i hi => ?_, fun i hi => ?_, ?_, ?_⟩
  · obtain ⟨o0, o1, o3, o4, o5, o6, o7, o8⟩ := h.1 i hi
    unfold OkP inf
    simp (disch := decide) only [ub_same, ub_ne]
    refine ⟨?_, o1, o3, o4, o5, o6, o7, o8⟩
    rw [ub_eq]
    by_cases g : i = 0
    · rw [if_pos g]; unfold nn; rw [e]; omega
    · rw [if_neg g]; exact o0
  · unfold inf; rw [ub_ne rfl]; exact h.2.1 i hi
  · unfold inf; rw [ub_same, Sm_inf R (by omega), e]; have := h.2.2.1; omega
  · unfold inf; rw [ub_ne rfl, ub_ne rfl, ub_ne rfl]; exact h.2.2.2
theorem rel_inf {R σ μ f} (h : Rel R σ μ) (hR : 2 ≤ R) : Rel R (inf f σ) (inf f μ) := by
  intro i hi
  obtain ⟨h0, h1⟩ := h i hi
  unfold inf
  simp (disch := decide) only [ub_same, ub_ne]
  refine ⟨?_, h1⟩
  rw [ub_eq, ub_eq, h0, (h 0 (by omega)).1]
/-- a WEATHER -/
def wix (n h : Nat) : Nat := (if h < n then h else n) - 1
def WTc (w : PW) (b n : Nat) (fi ft : Nat → Int32) : Prop := gI w (b, 80) 2 = nI n ∧ ∀ q, q < n → gI w (b, 81) q = fi q ∧ gI w (b, 82) q = ft q
def WTm (w : PW) (b n : Nat) (fi ft : Nat → Int32) : Prop := gI w (0, 104) b = nI n ∧ ∀ q, q < n → gI w (0, 102) (64 * b + q) = fi q ∧ gI w (0, 103) (64 * b + q) = ft q
def WTo (n : Nat) (fi ft : Nat → Int32) : Prop := 1 ≤ n ∧ n ≤ 64 ∧ ∀ q, q < n → (0 ≤ (fi q).toInt ∧ (fi q).toInt ≤ 9999) ∧ (-30 ≤ (ft q).toInt ∧ (ft q).toInt ≤ 30)
theorem wix_lt {n h : Nat} (hn : 1 ≤ n) : wix n h < n := by unfold wix; split <;> omega
theorem wix_e {n h : Nat} (hn : 1 ≤ n) (h1 : 1 ≤ h) (hn2 : n ≤ 64) (hh : h < 1000) : jmin (nI h) (nI n) - 1 = nI (wix n h) := by
  unfold jmin wix
  by_cases g : h < n
  · rw [if_pos g]
    by_cases g2 : n < h
    · omega
    · rw [if_neg (fun x => g2 ((lt_nI (by omega) (by omega)).mp x))]
      obtain ⟨y, rfl⟩ : ∃ y, h = y + 1 := ⟨h - 1, by omega⟩
      rw [nI_m1]; rfl
  · rw [if_neg g]
    obtain ⟨y, rfl⟩ : ∃ y, n = y + 1 := ⟨n - 1, by omega⟩
    by_cases g2 : y + 1 < h
    · rw [if_pos ((lt_nI (by omega) (by omega)).mpr g2), nI_m1]; rfl
    · rw [if_neg (fun x => g2 ((lt_nI (by omega) (by omega)).mp x)), show h = y + 1 by omega, nI_m1]; rfl
theorem c_inflowAt {w b n fi ft k} {h : Nat} (hw : WTc w b n fi ft) (hn : 1 ≤ n) (hn2 : n ≤ 64) (h1 : 1 ≤ h) (hh : h < 1000) (hk : k (fi (wix n h)) w) : Cl 57 [vO b 80, vI (nI h)] w (kI k) := by
  apply v_X8_inflowAt_0
  have l := wix_lt (h := h) hn
  rw [hw.1, wix_e hn h1 hn2 hh, cl_nI (by omega), (hw.2 _ l).1]
  exact ⟨in_nI (by omega) (by omega), hk⟩
theorem c_warmthAt {w b n fi ft k} {h : Nat} (hw : WTc w b n fi ft) (hn : 1 ≤ n) (hn2 : n ≤ 64) (h1 : 1 ≤ h) (hh : h < 1000) (hk : k (ft (wix n h)) w) : Cl 58 [vO b 80, vI (nI h)] w (kI k) := by
  apply v_X8_warmthAt_0
  have l := wix_lt (h := h) hn
  rw [hw.1, wix_e hn h1 hn2 hh, cl_nI (by omega), (hw.2 _ l).2]
  exact ⟨in_nI (by omega) (by omega), hk⟩
theorem WTc_sn {g w w' b n fi ft} (h : SN g w w') (hw : WTc w b n fi ft) : WTc w' b n fi ft := by
  unfold WTc; rw [h.2 b 80 (by omega), h.2 b 81 (by omega), h.2 b 82 (by omega)]; exact hw
theorem CSt_kW {w g σ σ' L hr hm dn wm W T ca} (h : CSt w g σ hr hm dn wm W T ca) : CSt (kW w g σ' L) g σ' hr hm dn wm W T ca := by
  obtain ⟨s0, s1, s2, s3, s4, s5, s6, s7⟩ := h
  have ko : ∀ j, 54 ≤ j → j ≤ 57 → kOff j = true := fun j h1 h2 => by
    unfold kOff; rw [beq_f (by omega)]; rcases (show j = 54 ∨ j = 55 ∨ j = 56 ∨ j = 57 by omega) with rfl | rfl | rfl | rfl <;> rfl
  exact ⟨CS_kW, by rw [gk_off rfl]; exact s1, by rw [gk_off rfl]; exact s2, by rw [gk_off rfl]; exact s3, by rw [gk_off rfl]; exact s4, WL_fr (fun j h1 h2 => gk_off (ko j h1 h2)) s5, TL_fr (fun j h1 h2 => gk_off (ko j h1 h2)) s6, by rw [gk_off rfl]; exact s7⟩
theorem CSt_40 {w g σ hr hm dn wm W T ca} {f : Nat → Int32} (h : CSt w g σ hr hm dn wm W T ca) : CSt (aI w (g, 40) f) g σ (f 0) (f 1) (f 2) (f 3) W T ca := by
  obtain ⟨s0, s1, s2, s3, s4, s5, s6, s7⟩ := h
  exact ⟨fun q hq => by rw [gI_ao (beq_f (by omega))]; exact s0 q hq, by rw [gI_aI], by rw [gI_aI], by rw [gI_aI], by rw [gI_aI], WL_fr (fun j _ _ => gI_ao (beq_f (by omega))) s5, TL_fr (fun j _ _ => gI_ao (beq_f (by omega))) s6, by rw [gI_ao rfl]; exact s7⟩
theorem ceq_40 {w : PW} {g : Nat} {f : Nat → Int32} : ceq (cf w) (cf (aI w (g, 40) f)) := fun q hq => gI_ao (beq_f (by omega))
theorem SN_a40 {g : Nat} {w : PW} {f : Nat → Int32} : SN g w (aI w (g, 40) f) := ⟨rfl, fun g' j hh => aI_ne (fun e => hh (Or.inl ⟨e.1, by omega, by omega⟩))⟩
theorem frC_0 {c R t σ} : frC c R t σ 0 = σ 0 := by
  unfold frC; split <;> rfl
theorem c_step40 {w g b k σ hr hm dn wm W T ca R se cr n fi ft Wb I} {ru : Int32} (hg : g ≤ 8) (hs : CSt w g σ (nI hr) hm dn wm W T ca) (hW : W.length ≤ 40)
    (hR : gI w (0, 1) 0 = nI R) (hse : gI w (0, 1) 1 = se) (hcr : gI w (0, 1) 2 = nI cr) (cr6 : cr ≤ 6) (hck : CK (cf w) se R) (h4 : hr + 1 ≤ 396) (hwt : WTc w b n fi ft) (hwo : WTo n fi ft) (hac : ∀ x, x ∈ W → actOK R x)
    (hok : Ok (cf w) R Wb I σ) (hW0 : 0 ≤ Wb) (hWb : Wb + 9999 ≤ 8900000) (hI : I + 4800 ≤ 2100000)
    (hk : ∀ w' c, ceq (cf w) c → CSt w' g (crS c R (nI (hr + 1)) (sg c se R (fi (wix n (hr + 1))) (ft (wix n (hr + 1))) ((W.take (mny cr W)).foldl (fun σ x => acS (cf w) x σ) σ))) (nI (hr + 1))
        (hmS c (sg c se R (fi (wix n (hr + 1))) (ft (wix n (hr + 1))) ((W.take (mny cr W)).foldl (fun σ x => acS (cf w) x σ) σ)) R hm) (dn + nI (mny cr W)) (ft (wix n (hr + 1))) (W.drop (mny cr W)) T ca → SN g w w' →
        (∀ j, j < R → gI w' (0, 30) j = lv c (crS c R (nI (hr + 1)) (sg c se R (fi (wix n (hr + 1))) (ft (wix n (hr + 1))) ((W.take (mny cr W)).foldl (fun σ x => acS (cf w) x σ) σ)) 0) j) →
        (ru = 0 → k w') ∧ (¬ ru = 0 → Cl 48 [vO 0 29, vO g 40] w' (kV k))) :
    Wp 29 40 [some (.inr (.inr (0, 29))), some (.inr (.inr (g, 40))), some (.inr (.inr (b, 80))), some (.inl ru), some (.inl (nI (hr + 1))), some (.inl (ft (wix n (hr + 1))))] [] w (kV k) := by
  have h24 := hck.2.1
  have h2 := hck.1
  have wl := wix_lt (h := hr + 1) hwo.1
  obtain ⟨fb, tb⟩ := hwo.2.2 _ wl
  generalize hf : fi (wix n (hr + 1)) = f at *
  generalize ht : ft (wix n (hr + 1)) = t at *
  have hrel := rel_acts (d := cf w) h24 (fun _ _ _ _ => rfl) (by omega) (by omega) (W.take (mny cr W)) σ (fun f i => match f with | 0 => σ 0 i | 1 => σ 1 i | 2 => if σ 1 i = 0 then -2 else σ 2 i | 3 => σ 3 i | 4 => σ 4 i | 5 => σ 6 i | 6 => σ 7 i | 7 => σ 8 i | 8 => σ 9 i | 9 => σ 5 i | 10 => σ 10 i | _ => σ 11 i)
  have hoa : Ok (cf w) R Wb I ((W.take (mny cr W)).foldl (fun σ x => acS (cf w) x σ) σ) := by
    have : ∀ (l : List A2) (σ : Nat → Nat → Int32), Ok (cf w) R Wb I σ → (∀ x, x ∈ l → actOK R x) → Ok (cf w) R Wb I (l.foldl (fun σ x => acS (cf w) x σ) σ) := by
      intro l
      induction l with
      | nil => intro σ h _; exact h
      | cons x l ih => intro σ h hx; exact ih _ (ok_act h24 h (by omega) (by omega) (hx x (List.mem_cons_self ..))) (fun y hy => hx y (List.mem_cons_of_mem _ hy))
    exact this _ σ hok (fun x hx => hac x (List.mem_of_mem_take hx))
  clear hrel
  generalize hσ1 : (W.take (mny cr W)).foldl (fun σ x => acS (cf w) x σ) σ = σ1 at *
  apply v_X6_step_40
  refine c_doActs hg hs hW hcr cr6 (fun x hx => ?_) ?_
  · obtain ⟨j, hj, e⟩ := of_in (hac x hx).1
    rw [e]; exact in_nI (by omega) (by omega)
  intro w2 q1 q2
  rw [hσ1] at q1
  have in0 : vp_in 0 24 := in_nI (j := 0) (by omega) (by omega)
  refine ⟨in0, ?_⟩
  refine c_inflowAt (WTc_sn q2 hwt) hwo.1 hwo.2.1 (by omega) (by omega) ?_
  rw [hf]
  refine ⟨in0, ?_⟩
  have cq : ceq (cf w) (cf w2) := q2.ceq
  have hck2 := CK.c cq hck
  have hR2 : gI w2 (0, 1) 0 = nI R := by rw [q2.2 0 1 (by omega)]; exact hR
  have hse2 : gI w2 (0, 1) 1 = se := by rw [q2.2 0 1 (by omega)]; exact hse
  have ew : sI w2 (g, 41) 0 (gI w2 (g, 41) 0 + f) = kW w2 g (inf f σ1) (gI w2 (0, 30)) := by
    have e0 : gI w2 (g, 41) 0 = σ1 0 0 := congrFun (q1.1 0 (by omega)) 0
    have e1 := kW_of q1.1
    rw [e0]
    conv => lhs; rw [← e1]
    rw [sk_0]; rfl
  rw [ew]
  have oka : Ok (cf w2) R (Wb + 9999) I (inf f σ1) := Ok.c cq (ok_inf hoa h2 fb (by omega))
  have c2 : ∀ i, i < R → ¬ cf w2 2 i = 0 := fun i hi e => by
    have := (hck2.2.2.2 i hi).2.2.1; rw [e, tl0] at this; omega
  refine c_letFlow (R := R) (se := se) hR2 h24 hse2 c2 (fun i hi => brk_0 oka (by omega) hi) ?_
  have okb := ok_flow hck2 oka (by omega) hWb (by omega)
  generalize hσ3 : flowS (cf w2) se R (inf f σ1) = σ3 at okb ⊢
  refine c_takeLevels (R := R) (se := se) hR2 h24 hse2 c2 ?_
  generalize hL : lvL (cf w2) se R (σ3 0) (lvL (cf w2) se R (inf f σ1 0) (gI w2 (0, 30))) = L
  have hL2 : ∀ j, j ≤ R → L j = lx (cf w2) se R (σ3 0) j := fun j hj => by rw [← hL]; exact if_pos hj
  have T : Wp 29 95 [some (.inr (.inr (0, 29))), some (.inr (.inr (g, 40))), none, some (.inl ru), some (.inl (nI (hr + 1))), some (.inl t)] [] (kW w2 g (frC (cf w2) R t σ3) L) (kV k) := by
    have okc := ok_fr hck2 okb tb
    have e4 : frC (cf w2) R t σ3 0 = σ3 0 := frC_0
    generalize hσ4 : frC (cf w2) R t σ3 = σ4 at okc e4 ⊢
    apply v_X6_step_95
    refine c_breakSheets (R := R) (se := se) hR2 h24 (fun j hj => by rw [e4]; exact hL2 j hj) ?_
    have okd := ok_br okc (by omega)
    have e5 : brS (cf w2) R σ4 0 = σ3 0 := by rw [← e4]; rfl
    generalize hσ5 : brS (cf w2) R σ4 = σ5 at okd e5 ⊢
    refine c_drift (R := R) hR2 h24 (fun i hi h0 => ?_) ?_
    · rcases kind5 (hck2.2.2.2 i hi).1 with e | e | e | e | e
      · rw [e]; exact in_nI (j := 0) (by omega) (by omega)
      · rw [e]; exact in_nI (j := 1) (by omega) (by omega)
      · rw [e]; exact in_nI (j := 2) (by omega) (by omega)
      · rw [e]; exact in_nI (j := 3) (by omega) (by omega)
      · exact absurd e h0
    have e6 : drS (cf w2) R σ5 0 = σ3 0 := by rw [← e5]; rfl
    generalize hσ6 : drS (cf w2) R σ5 = σ6 at e6 ⊢
    have U : ∀ s0, s0 = (if t < 0 then (50 : Int32) else 30) → Wp 29 119 [some (.inr (.inr (0, 29))), some (.inr (.inr (g, 40))), none, some (.inl ru), some (.inl (nI (hr + 1))), some (.inl t)] [.inl s0, .inr (.inr (g, 40)), .inr (.inr (0, 29))] (kW w2 g σ6 L) (kV k) := by
      intro s0 hs0
      apply v_X6_step_119
      refine c_letJamsGo (R := R) (se := se) hR2 h24 (fun j hj => by rw [e6]; exact hL2 j hj) ?_
      have e7 : jgS (cf w2) se R s0 σ6 0 = σ3 0 := by rw [← e6]; rfl
      have eq : jgS (cf w2) se R s0 σ6 = sg (cf w2) se R f t σ1 := by
        unfold sg; rw [← hσ6, ← hσ5, ← hσ4, ← hσ3, hs0]
      generalize hσ7 : jgS (cf w2) se R s0 σ6 = σ7 at e7 eq ⊢
      rw [sk_off rfl, sk_off rfl]
      generalize hw3 : sI (sI w2 (g, 40) 0 (nI (hr + 1))) (g, 40) 3 t = w3
      have w3e : w3 = aI w2 (g, 40) (ub (ub (gI w2 (g, 40)) 0 (nI (hr + 1))) 3 t) := by
        rw [← hw3]
        have : sI w2 (g, 40) 0 (nI (hr + 1)) = aI w2 (g, 40) (ub (gI w2 (g, 40)) 0 (nI (hr + 1))) := rfl
        rw [this, sI_aI]
      have cq3 : ceq (cf w2) (cf w3) := by rw [w3e]; exact ceq_40
      have o3 : ∀ g' j, ¬ j = 40 → gI w3 (g', j) = gI w2 (g', j) := fun g' j hj => by rw [w3e]; exact gI_ao (beq_f hj)
      have f3 : gI w3 (g, 40) = ub (ub (gI w2 (g, 40)) 0 (nI (hr + 1))) 3 t := by rw [w3e, gI_aI]
      have hR3 : gI w3 (0, 1) 0 = nI R := by rw [o3 0 1 (by omega)]; exact hR2
      refine c_countHarm (R := R) (se := se) hR3 h24 (fun j hj => by rw [e7, lx_c cq3]; exact hL2 j hj) ?_
      have f31 : gI w3 (g, 40) 1 = hm := by rw [f3]; exact q1.2.2.1
      rw [f31, hmS_c cq3]
      generalize hw4 : sI w3 (g, 40) 1 (hmS (cf w2) σ7 R hm) = w4
      have w4e : w4 = aI w2 (g, 40) (ub (ub (ub (gI w2 (g, 40)) 0 (nI (hr + 1))) 3 t) 1 (hmS (cf w2) σ7 R hm)) := by
        rw [← hw4, w3e, sI_aI]
      have cq4 : ceq (cf w2) (cf w4) := by rw [w4e]; exact ceq_40
      have o4 : ∀ g' j, ¬ j = 40 → gI w4 (g', j) = gI w2 (g', j) := fun g' j hj => by rw [w4e]; exact gI_ao (beq_f hj)
      have hR4 : gI w4 (0, 1) 0 = nI R := by rw [o4 0 1 (by omega)]; exact hR2
      have f40 : gI w4 (g, 40) 0 = nI (hr + 1) := by rw [w4e, gI_aI]; rfl
      refine c_noteCrests (R := R) (se := se) hR4 h24 (fun j hj => by rw [e7, lx_c cq4]; exact hL2 j hj) ?_
      rw [f40, crS_c cq4]
      have e8 : crS (cf w2) R (nI (hr + 1)) σ7 0 = σ3 0 := by rw [← e7]; rfl
      have cs : CSt (kW w4 g (crS (cf w2) R (nI (hr + 1)) σ7) L) g (crS (cf w2) R (nI (hr + 1)) σ7) (nI (hr + 1)) (hmS (cf w2) σ7 R hm) (dn + nI (mny cr W)) t (W.drop (mny cr W)) T ca := by
        have := CSt_40 (f := ub (ub (ub (gI w2 (g, 40)) 0 (nI (hr + 1))) 3 t) 1 (hmS (cf w2) σ7 R hm)) q1
        rw [← w4e] at this
        have d2 : gI w2 (g, 40) 2 = dn + nI (mny cr W) := q1.2.2.2.1
        have z0 : (ub (ub (ub (gI w2 (g, 40)) 0 (nI (hr + 1))) 3 t) 1 (hmS (cf w2) σ7 R hm)) 0 = nI (hr + 1) := rfl
        have z1 : (ub (ub (ub (gI w2 (g, 40)) 0 (nI (hr + 1))) 3 t) 1 (hmS (cf w2) σ7 R hm)) 1 = hmS (cf w2) σ7 R hm := rfl
        have z2 : (ub (ub (ub (gI w2 (g, 40)) 0 (nI (hr + 1))) 3 t) 1 (hmS (cf w2) σ7 R hm)) 2 = dn + nI (mny cr W) := d2
        have z3 : (ub (ub (ub (gI w2 (g, 40)) 0 (nI (hr + 1))) 3 t) 1 (hmS (cf w2) σ7 R hm)) 3 = t := rfl
        rw [z0, z1, z2, z3] at this
        exact CSt_kW this
      have sn : SN g w (kW w4 g (crS (cf w2) R (nI (hr + 1)) σ7) L) := (q2.tr (by rw [w4e]; exact SN_a40)).tr SN_kW
      have lv' : ∀ j, j < R → gI (kW w4 g (crS (cf w2) R (nI (hr + 1)) σ7) L) (0, 30) j = lv (cf w2) (crS (cf w2) R (nI (hr + 1)) σ7 0) j := fun j hj => by
        rw [gk_30, hL2 j (by omega), lx_lt hj, e8]
      rw [eq] at cs sn lv' ⊢
      have fin := hk _ (cf w2) cq cs sn lv'
      refine ⟨fun e => ?_, fun e => ?_⟩
      · apply v_X6_step_153
        exact fin.1 e
      · refine Cl.cons (fin.2 e) (fun r w' hh => ?_)
        apply v_X6_step_153
        exact hh
    refine ⟨fun h => ?_, fun h => ?_⟩
    · exact U 30 (if_neg (Int32.not_lt.mpr h)).symm
    · exact U 50 (if_pos h).symm
  refine ⟨fun h => ⟨by decide, ?_⟩, fun h => ?_⟩
  · refine c_melt (R := R) hR2 h24 ?_
    have e : frC (cf w2) R t σ3 = meS R (t / 4) σ3 := if_neg (Int32.not_lt.mpr h)
    rw [e] at T; exact T
  · refine c_freeze (R := R) (se := se) hR2 h24 (fun i hi e => ?_) hL2 ?_
    · have s1 := (okb.1 i hi).2.1
      have q1 : (σ3 1 i / 10).toInt = (σ3 1 i).toInt / 10 := ti_div (b := 10) s1.1 (by decide)
      have q2 : (5 + σ3 1 i / 10).toInt = 5 + (σ3 1 i).toInt / 10 := by
        rw [ti_add (by rw [q1, tl5]; omega) (by rw [q1, tl5]; omega), q1, tl5]
      rw [e, tl0] at q2; omega
    · have e : frC (cf w2) R t σ3 = frS (cf w2) R (-t) σ3 := if_pos h
      rw [e] at T; exact T

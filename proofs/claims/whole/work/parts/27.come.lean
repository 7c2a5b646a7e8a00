/-! RULES come, on both sides -/
abbrev R3 : Type := Int32 × Int32 × List O3
def cme (B : O3 → Bool) (ca : Nat → Int32) (RL : List R3) (r : Nat) : Bool := match RL[r]? with | some x => decide (ca r = -2) && evs B x.2.2 [] | none => false
def rgt (RL : List R3) (r : Nat) : A2 := match RL[r]? with | some x => (x.1, x.2.1) | none => (0, 0)
def rW (B : O3 → Bool) (ca : Nat → Int32) (RL : List R3) (W : List A2) : Nat → List A2
  | 0 => W
  | r + 1 => if cme B ca RL r = true then push 40 (rW B ca RL W r) (rgt RL r) else rW B ca RL W r
def rC (B : O3 → Bool) (ca : Nat → Int32) (RL : List R3) (hr n j : Nat) : Int32 := if j < n ∧ cme B ca RL j = true then nI (hr + 1) else ca j
theorem rC_0 {B ca RL hr} : rC B ca RL hr 0 = ca := by funext j; unfold rC; rw [if_neg (by omega)]
theorem rC_at {B ca RL hr i} : rC B ca RL hr i i = ca i := by unfold rC; rw [if_neg (by omega)]
theorem rC_no {B ca RL hr i} (h : cme B ca RL i = false) : rC B ca RL hr (i + 1) = rC B ca RL hr i := by
  funext j; unfold rC
  by_cases e : j = i
  · subst e; rw [h, if_neg (fun x => by cases x.2), if_neg (fun x => by cases x.2)]
  · by_cases g : j < i ∧ cme B ca RL j = true
    · rw [if_pos g, if_pos ⟨by omega, g.2⟩]
    · rw [if_neg g, if_neg (fun x => g ⟨by omega, x.2⟩)]
theorem rC_yes {B ca RL hr i} (h : cme B ca RL i = true) : ub (rC B ca RL hr i) i (nI (hr + 1)) = rC B ca RL hr (i + 1) := by
  funext j; rw [ub_eq]; unfold rC
  by_cases e : j = i
  · subst e; rw [if_pos rfl, if_pos ⟨by omega, h⟩]
  · rw [if_neg e]
    by_cases g : j < i ∧ cme B ca RL j = true
    · rw [if_pos g, if_pos ⟨by omega, g.2⟩]
    · rw [if_neg g, if_neg (fun x => g ⟨by omega, x.2⟩)]
theorem rW_le {B ca RL W} (h : W.length ≤ 40) : ∀ i, (rW B ca RL W i).length ≤ 40 := by
  intro i
  induction i with
  | zero => exact h
  | succ i ih =>
    unfold rW
    split
    · exact push_le ih
    · exact ih
def RUc (w : PW) (RL : List R3) : Prop := gI w (0, 14) 6 = nI RL.length ∧ ∀ r x, RL[r]? = some x → gI w (0, 15) r = x.1 ∧ gI w (0, 16) r = x.2.1 ∧ gI w (0, 17) r = nI x.2.2.length ∧ OC (gI w (0, 18)) (gI w (0, 19)) (gI w (0, 20)) (r * 20) x.2.2
def RUm (w : PW) (RL : List R3) : Prop := gI w (0, 90) 33 = nI RL.length ∧ ∀ r x, RL[r]? = some x → gI w (0, 105) r = x.1 ∧ gI w (0, 106) r = x.2.1 ∧ OM (gI w (0, 107)) (100 * r) x.2.2
def RUo (R : Nat) (RL : List R3) : Prop := RL.length ≤ 12 ∧ ∀ x, x ∈ RL → actOK R (x.1, x.2.1) ∧ x.2.2.length ≤ 20 ∧ OS R 0 x.2.2
theorem CSt_fr {w w' g σ hr hm dn wm W T ca} (h1 : ∀ j, 40 ≤ j → j ≤ 53 → gI w' (g, j) = gI w (g, j)) (h2 : ∀ j, 54 ≤ j → j ≤ 57 → gI w' (wg g, j) = gI w (wg g, j)) (h3 : ∀ j, 54 ≤ j → j ≤ 57 → gI w' (tg g, j) = gI w (tg g, j))
    (h : CSt w g σ hr hm dn wm W T ca) : CSt w' g σ hr hm dn wm W T ca := by
  obtain ⟨s0, s1, s2, s3, s4, s5, s6, s7⟩ := h
  exact ⟨fun q hq => by rw [h1 _ (by omega) (by omega)]; exact s0 q hq, by rw [h1 40 (by omega) (by omega)]; exact s1, by rw [h1 40 (by omega) (by omega)]; exact s2, by rw [h1 40 (by omega) (by omega)]; exact s3, by rw [h1 40 (by omega) (by omega)]; exact s4, WL_fr h2 s5, TL_fr h3 s6, by rw [h1 53 (by omega) (by omega)]; exact s7⟩
theorem CSt_31 {w g σ hr hm dn wm W T ca} {f : Nat → Int32} (h : CSt w g σ hr hm dn wm W T ca) : CSt (aI w (0, 31) f) g σ hr hm dn wm W T ca :=
  CSt_fr (fun j _ _ => gI_ao (beq_f (by omega))) (fun j _ _ => gI_ao (beq_f (by omega))) (fun j _ _ => gI_ao (beq_f (by omega))) h
theorem CSt_53 {w g σ hr hm dn wm W T ca} {i : Nat} {v : Int32} (h : CSt w g σ hr hm dn wm W T ca) : CSt (sI w (g, 53) i v) g σ hr hm dn wm W T (ub ca i v) := by
  obtain ⟨s0, s1, s2, s3, s4, s5, s6, s7⟩ := h
  exact ⟨fun q hq => by rw [gI_so (beq_f (by omega))]; exact s0 q hq, by rw [gI_so rfl]; exact s1, by rw [gI_so rfl]; exact s2, by rw [gI_so rfl]; exact s3, by rw [gI_so rfl]; exact s4, WL_fr (fun j _ _ => gI_so (beq_f (by omega))) s5, TL_fr (fun j _ _ => gI_so (beq_f (by omega))) s6, by rw [gI_s, s7]⟩
theorem SN_31 {g : Nat} {w : PW} {f : Nat → Int32} : SN g w (aI w (0, 31) f) := ⟨rfl, fun _ _ hh => aI_ne (fun e => hh (Or.inr (Or.inr ⟨e.1, Or.inr e.2⟩)))⟩
theorem rg_len {RL : List R3} {i : Nat} (h : i < RL.length) : ∃ x, RL[i]? = some x ∧ x ∈ RL ∧ rgt RL i = (x.1, x.2.1) := by
  have e : RL[i]? = some (RL[i]'h) := List.getElem?_eq_getElem h
  exact ⟨_, e, List.mem_of_getElem? e, by unfold rgt; rw [e]⟩
theorem cme_eq {B ca} {RL : List R3} {i : Nat} {x : R3} (h : RL[i]? = some x) : cme B ca RL i = (decide (ca i = -2) && evs B x.2.2 []) := by unfold cme; rw [h]
theorem st_rules {w g k σ hr hm dn wm W T ca R rl rf M RL ey} (hg : g ≤ 8) (hs : CSt w g σ (nI hr) hm dn wm W T ca) (hW : W.length ≤ 40) (hbk : BK w (bg g) R hr rl rf M) (hbl : BL (bg g) hr) (hb : BO R hr rl rf M) (h24 : R ≤ 24) (h4 : hr ≤ 396)
    (hey : gI w (0, 12) = ey) (hru : RUc w RL) (hro : RUo R RL)
    (h : ∀ w', CSt w' g σ (nI hr) hm dn wm (rW (Bx ey (σ 4) hr wm rl rf M) ca RL W RL.length) T (rC (Bx ey (σ 4) hr wm rl rf M) ca RL hr RL.length) → SN g w w' → k w') :
    Cl 30 [vO 0 29, vO g 40, vI (nI (hr + 1))] w (kV k) := by
  generalize hB : Bx ey (σ 4) hr wm rl rf M = B at h
  apply v_X6_letRulesCome_0
  refine cntI (L := fun x => [some (.inr (.inr (0, 29))), some (.inr (.inr (g, 40))), some (.inl (nI (hr + 1))), some (.inl x)]) RL.length (fun i w' => CSt w' g σ (nI hr) hm dn wm (rW B ca RL W i) T (rC B ca RL hr i) ∧ SN g w w') rfl ⟨by rw [rC_0]; exact hs, SN.refl⟩ ?_ ?_
  · rintro w' ⟨hc, hn⟩
    apply v_X6_letRulesCome_2
    rw [hn.2 0 14 (by omega), hru.1]
    exact ⟨fun _ => h w' hc hn, fun e => absurd e (by rw [lt_nI (by have := hro.1; omega) (by have := hro.1; omega)]; omega)⟩
  · rintro i w' hi ⟨hc, hn⟩ hx
    have r12 := hro.1
    obtain ⟨x, hx1, hx2, hx3⟩ := rg_len hi
    obtain ⟨u1, u2, u3, u4⟩ := hru.2 i x hx1
    obtain ⟨o1, o2, o3⟩ := hro.2 x hx2
    have ec := cme_eq (B := B) (ca := ca) hx1
    have hca : gI w' (g, 53) = rC B ca RL hr i := hc.2.2.2.2.2.2.2
    have no : ∀ w2, cme B ca RL i = false → CSt w2 g σ (nI hr) hm dn wm (rW B ca RL W i) T (rC B ca RL hr i) → SN g w w2 →
        Wp 30 2 [some (.inr (.inr (0, 29))), some (.inr (.inr (g, 40))), some (.inl (nI (hr + 1))), some (.inl (nI i + 1))] [] w2 (kV k) := by
      intro w2 e q1 q2
      rw [nI_s1]
      refine hx w2 ⟨?_, q2⟩
      rw [rC_no e, show rW B ca RL W (i + 1) = rW B ca RL W i by show (if _ then _ else _) = _; rw [e]; rfl]
      exact q1
    have in12 : vp_in (nI i) 12 := in_nI (by omega) (by omega)
    apply v_X6_letRulesCome_2
    rw [hn.2 0 14 (by omega), hru.1, hca, cl_nI (by omega), rC_at]
    refine ⟨fun e => absurd e (by rw [le_nI (by omega) (by omega)]; omega), fun _ => ⟨in12, fun g1 => no w' (by rw [ec, decide_eq_false g1]; rfl) hc hn, fun g1 => ?_⟩⟩
    have hoe : OEc w' g R hr wm ey (σ 4) rl rf M := ⟨BK_fr (fun j _ _ => hn.2 _ _ (by omega)) hbk, hbl, hb, h24, h4, hc.2.1, hc.2.2.2.2.1, by rw [hn.2 0 12 (by omega)]; exact hey, hc.1 4 (by omega)⟩
    refine c_wordsHold hoe (l := x.2.2) (by omega) (by rw [hn.2 0 17 (by omega)]; exact u3) o2 (by rw [hn.2 0 18 (by omega), hn.2 0 19 (by omega), hn.2 0 20 (by omega)]; exact u4) o3 ?_
    intro f
    rw [hB]
    refine ⟨fun e => no _ ?_ (CSt_31 hc) (hn.tr SN_31), fun e => ⟨in12, in12, in12, ?_⟩⟩
    · rw [ec, ib_f e, Bool.and_false]
    · have ey' : cme B ca RL i = true := by rw [ec, decide_eq_true g1, ib_t e]; rfl
      rw [gI_ao (j := 15) rfl, gI_ao (j := 16) rfl, hn.2 0 15 (by omega), hn.2 0 16 (by omega), u1, u2]
      refine st_add hg (CSt_53 (CSt_31 hc)) (rW_le hW i) ?_
      intro w2 q1 q2
      rw [nI_s1]
      refine hx w2 ⟨?_, ((hn.tr SN_31).tr (SN_s (by omega))).tr q2⟩
      rw [rC_yes ey'] at q1
      rw [show rW B ca RL W (i + 1) = push 40 (rW B ca RL W i) (x.1, x.2.1) by show (if _ then _ else _) = _; rw [if_pos ey', hx3]]
      exact q1
/-! the model's side -/
theorem ae_off {w s μ m A B} {g' j : Nat} {f : Nat → Int32} (h : eOff j = true) : aI (eW w s μ m A B) (g', j) f = eW (aI w (g', j) f) s μ m A B := by
  obtain ⟨h1, h2, h3⟩ := eOff_s h
  unfold eW; rw [aI_comm (o := (s, 114)) (o' := (g', j)) h1, aI_comm (o := (0, 125)) (o' := (g', j)) h3, aI_comm (o := (0, 124)) (o' := (g', j)) h2]
def MF (w w' : PW) : Prop := w'.2 = w.2 ∧ (∀ g j, ¬ (g = 0 ∧ (j = 90 ∨ j = 122 ∨ j = 123)) → gI w' (g, j) = gI w (g, j)) ∧ ∀ q, ¬ q = 41 → gI w' (0, 90) q = gI w (0, 90) q
theorem MF.refl {w} : MF w w := ⟨rfl, fun _ _ _ => rfl, fun _ _ => rfl⟩
theorem MF.tr {w w' w''} (h : MF w w') (h' : MF w' w'') : MF w w'' := ⟨h'.1.trans h.1, fun g j hh => (h'.2.1 g j hh).trans (h.2.1 g j hh), fun q hq => (h'.2.2 q hq).trans (h.2.2 q hq)⟩
theorem MF_a {w : PW} {j : Nat} {f : Nat → Int32} (h : j = 122 ∨ j = 123) : MF w (aI w (0, j) f) := ⟨rfl, fun g j' hh => aI_ne (fun e => hh ⟨e.1, by omega⟩), fun q _ => by rw [aI_ne (by omega)]⟩
theorem MF_s {w : PW} {j i : Nat} {v : Int32} (h : j = 122 ∨ j = 123) : MF w (sI w (0, j) i v) := MF_a h
theorem MF_l {w : PW} {v : Int32} : MF w (sI w (0, 90) 41 v) := ⟨rfl, fun g j' hh => sI_ne (fun e => hh ⟨e.1, by omega⟩), fun q hq => by rw [gI_s, ub_ne (beq_f hq)]⟩
theorem BKM_fr {m m' R rl rf M} (h : ∀ q, (q = 293 ∨ 458 ≤ q) → ¬ q = 19674 → m' q = m q) (hM : M.length ≤ 40) (h24 : R ≤ 24) (hb : BKM m R rl rf M) : BKM m' R rl rf M := by
  obtain ⟨q1, q2, q3⟩ := hb
  refine ⟨by rw [h 293 (by omega) (by omega)]; exact q1, ?_, ?_⟩
  · have ml : ∀ l : List M4, l.length ≤ 40 → ML m l → ML m' l := by
      intro l
      induction l with
      | nil => intro _ _; exact trivial
      | cons x l ih =>
        intro hl hm
        rw [List.length_cons] at hl
        obtain ⟨u1, u2, u3, u4, u5⟩ := hm
        exact ⟨by rw [h _ (by omega) (by omega)]; exact u1, by rw [h _ (by omega) (by omega)]; exact u2, by rw [h _ (by omega) (by omega)]; exact u3, by rw [h _ (by omega) (by omega)]; exact u4, ih (by omega) u5⟩
    exact ml M hM q2
  · intro i hh hi hh2
    rw [h (10146 + 397 * i + hh) (by omega) (by omega), h (618 + 397 * i + hh) (by omega) (by omega)]
    exact q3 i hh hi hh2
theorem ix_c {n : Nat} : (446 : Int32) + nI n = nI (446 + n) := by rw [show (446 : Int32) = nI 446 from rfl, nI_ad]
def MC (m m' : Nat → Int32) : Prop := ∀ q, ¬ (q = 290 ∨ (294 ≤ q ∧ q < 374) ∨ (446 ≤ q ∧ q < 458)) → m' q = m q
theorem m_rules {w s μ m A B k W ca R hr wm rl rf M RL ey} {l2 : Int32} (hW : WM m W) (hW4 : W.length ≤ 40) (hbm : BKM m R rl rf M) (hb : BO R hr rl rf M) (h24 : R ≤ 24) (h4 : hr ≤ 396)
    (hey : ∀ p, p < R → gI w (0, 101) p = ey p) (hca : ∀ r, r < 12 → m (446 + r) = ca r) (hru : RUm w RL) (hro : RUo R RL) (jm : Nat → Int32) (hjm : ∀ p, p < R → μ 4 p = jm p)
    (h : ∀ w' m', MF w w' → WM m' (rW (Bx ey jm hr wm rl rf M) ca RL W RL.length) → MC m m' → (∀ r, r < 12 → m' (446 + r) = rC (Bx ey jm hr wm rl rf M) ca RL hr RL.length r) →
      Wp 147 217 [some (.inr (.inr (0, 90))), some (.inr (.inr (s, 114))), some (.inl l2), none, none, none, some (.inl (nI (hr + 1))), none, none] [] (eW w' s μ m' A B) (kV k)) :
    Wp 147 90 [some (.inr (.inr (0, 90))), some (.inr (.inr (s, 114))), some (.inl l2), none, none, some (.inl 1), some (.inl (nI (hr + 1))), some (.inl wm), some (.inl 0)] [] (eW w s μ m A B) (kV k) := by
  generalize hB : Bx ey jm hr wm rl rf M = BB at h
  have r12 := hro.1
  have mf0 : ∀ w1, MF w w1 → gI (eW w1 s μ m A B) (0, 90) 33 = nI RL.length := fun w1 q => by rw [ge_off rfl, q.2.2 33 (by omega)]; exact hru.1
  refine cntI (L := fun x => [some (.inr (.inr (0, 90))), some (.inr (.inr (s, 114))), some (.inl l2), none, none, some (.inl 1), some (.inl (nI (hr + 1))), some (.inl wm), some (.inl x)]) RL.length (fun i W' => ∃ w1, W' = eW w1 s μ m A B ∧ MF w w1 ∧ ∀ j, j < i → gI w1 (0, 123) j = ib (cme BB ca RL j)) rfl ⟨w, rfl, MF.refl, fun j hj => by omega⟩ ?_ ?_
  · rintro W' ⟨w1, rfl, mf, hcm⟩
    apply v_X10_goes_90
    rw [mf0 w1 mf]
    refine ⟨fun _ => ?_, fun e => absurd e (by rw [lt_nI (by omega) (by omega)]; omega)⟩
    apply v_X10_goes_149
    refine cntI (L := fun x => [some (.inr (.inr (0, 90))), some (.inr (.inr (s, 114))), some (.inl l2), none, none, some (.inl 1), some (.inl (nI (hr + 1))), none, some (.inl x)]) RL.length
      (fun i W' => ∃ w2 m2, W' = eW w2 s μ m2 A B ∧ MF w w2 ∧ (∀ j, j < RL.length → gI w2 (0, 123) j = ib (cme BB ca RL j)) ∧ WM m2 (rW BB ca RL W i) ∧ MC m m2 ∧ ∀ r, r < 12 → m2 (446 + r) = rC BB ca RL hr i r) rfl ⟨w1, m, rfl, mf, hcm, hW, fun _ _ => rfl, fun r hr' => by rw [rC_0]; exact hca r hr'⟩ ?_ ?_
    · rintro W' ⟨w2, m2, rfl, mf2, hcm2, hw2, mc2, hca2⟩
      apply v_X10_goes_152
      rw [ge_off rfl, mf2.2.2 33 (by omega), hru.1]
      exact ⟨fun _ => h w2 m2 mf2 hw2 mc2 hca2, fun e => absurd e (by rw [lt_nI (by omega) (by omega)]; omega)⟩
    · rintro i W' hi ⟨w2, m2, rfl, mf2, hcm2, hw2, mc2, hca2⟩ hx
      obtain ⟨x, hx1, hx2, hx3⟩ := rg_len hi
      obtain ⟨u1, u2, u3⟩ := hru.2 i x hx1
      apply v_X10_goes_152
      rw [ge_off (j := 90) rfl, mf2.2.2 33 (by omega), hru.1]
      have in12 : vp_in (nI i) 12 := in_nI (by omega) (by omega)
      refine ⟨fun e => absurd e (by rw [le_nI (by omega) (by omega)]; omega), fun _ => ⟨fun e => absurd e (by decide), fun _ => ⟨in12, ?_⟩⟩⟩
      rw [ge_off (j := 123) rfl, ge_off (j := 105) rfl, ge_off (j := 106) rfl, cl_nI (by omega), hcm2 i hi, mf2.2.1 0 105 (by omega), mf2.2.1 0 106 (by omega), u1, u2]
      have fin : ∀ w3 m3, MF w2 w3 → WM m3 (rW BB ca RL W (i + 1)) → MC m2 m3 → (∀ r, r < 12 → m3 (446 + r) = rC BB ca RL hr (i + 1) r) → (∀ j, gI w3 (0, 123) j = gI w2 (0, 123) j) →
          Wp 147 211 [some (.inr (.inr (0, 90))), some (.inr (.inr (s, 114))), some (.inl l2), none, none, some (.inl 1), some (.inl (nI (hr + 1))), none, some (.inl (nI i))] [] (eW w3 s μ m3 A B) (kV k) := by
        intro w3 m3 q1 q2 q3 q4 q5
        apply v_X10_goes_211
        rw [nI_s1]
        exact hx _ ⟨w3, m3, rfl, mf2.tr q1, fun j hj => by rw [q5]; exact hcm2 j hj, q2, fun q hq => (q3 q hq).trans (mc2 q hq), q4⟩
      refine ⟨fun e => ?_, fun e => ?_⟩
      · have e1 : cme BB ca RL i = true := ib_t e
        rw [ix_c, cl_nI (by omega), se_hi (by omega)]
        refine ⟨in_nI (by omega) (by omega), in12, in12, ?_⟩
        have hw3 : WM (ub m2 (446 + i) (nI (hr + 1))) (rW BB ca RL W i) := by
          have l4 := rW_le (B := BB) (ca := ca) (RL := RL) hW4 i
          refine ⟨by rw [ub_ne (beq_f (by omega))]; exact hw2.1, fun q y hy => ?_⟩
          have hq : q < (rW BB ca RL W i).length := (List.getElem?_eq_some_iff.mp hy).1
          rw [ub_ne (beq_f (by omega)), ub_ne (beq_f (by omega))]; exact hw2.2 q y hy
        refine m_comes hw3 (rW_le hW4 i) ?_
        intro r3 m3 p1 p2 q1 q2
        refine ⟨?_, ?_⟩
        · by_cases g : (rW BB ca RL W i).length < 40
          · rw [p1 g]; exact b01_1
          · rw [p2 g]; exact b01_0
        · rw [se_off rfl]
          refine fin _ _ MF_l ?_ ?_ ?_ (fun j => by rw [gI_so rfl])
          · rw [show rW BB ca RL W (i + 1) = push 40 (rW BB ca RL W i) (x.1, x.2.1) by show (if _ then _ else _) = _; rw [if_pos e1, hx3]]
            exact q1
          · intro q hq
            rw [q2 q (by omega), ub_ne (beq_f (by omega))]
          · intro r hr'
            rw [q2 _ (by omega), ← rC_yes e1]
            rw [ub_eq, ub_eq]
            by_cases g : r = i
            · subst g; rw [if_pos rfl, if_pos rfl]
            · rw [if_neg (by omega), if_neg g]; exact hca2 r hr'
      · have e1 : cme BB ca RL i = false := ib_f e
        refine fin _ _ MF.refl ?_ (fun _ _ => rfl) ?_ (fun _ => rfl)
        · rw [show rW BB ca RL W (i + 1) = rW BB ca RL W i by show (if _ then _ else _) = _; rw [e1]; rfl]; exact hw2
        · rw [rC_no e1]; exact hca2
  · rintro i W' hi ⟨w1, rfl, mf, hcm⟩ hx
    obtain ⟨x, hx1, hx2, hx3⟩ := rg_len hi
    obtain ⟨u1, u2, u3⟩ := hru.2 i x hx1
    obtain ⟨o1, o2, o3⟩ := hro.2 x hx2
    have ec := cme_eq (B := BB) (ca := ca) hx1
    have fin : ∀ w2 v, MF w1 w2 → (∀ j, gI w2 (0, 123) j = gI w1 (0, 123) j) → v = ib (cme BB ca RL i) →
        Wp 147 142 [some (.inr (.inr (0, 90))), some (.inr (.inr (s, 114))), some (.inl l2), none, none, some (.inl 1), some (.inl (nI (hr + 1))), some (.inl wm), some (.inl (nI i))] [.inl v, .inl (nI i), .inr (.inr (0, 123))] (eW w2 s μ m A B) (kV k) := by
      rintro w2 v q1 q2 rfl
      apply v_X10_goes_142
      refine ⟨ib_b01, in_nI (by omega) (by omega), ?_⟩
      rw [se_off rfl, cl_nI (by omega), nI_s1]
      refine hx _ ⟨_, rfl, (mf.tr q1).tr (MF_s (by omega)), fun j hj => ?_⟩
      rw [gI_s, ub_eq]
      by_cases g : j = i
      · subst g; rw [if_pos rfl]
      · rw [if_neg g, q2]; exact hcm j (by omega)
    apply v_X10_goes_90
    rw [mf0 w1 mf, ix_c, cl_nI (by omega), ge_m, enc_hi (by omega), hca i (by omega)]
    refine ⟨fun e => absurd e (by rw [le_nI (by omega) (by omega)]; omega), fun _ => ⟨fun e => absurd e (by decide), fun _ => ⟨in_nI (by omega) (by omega), fun g1 => ?_, fun g1 => ?_⟩⟩⟩
    · apply v_X10_goes_141
      exact fin w1 0 MF.refl (fun _ => rfl) (by rw [ec, decide_eq_false g1]; rfl)
    · have hoe : OEm (eW w1 s μ m A B) s R hr ey jm rl rf M := by
        refine ⟨?_, hb, h24, h4, fun p hp => ?_, fun p hp => ?_⟩
        · rw [ge_m]; exact BKM_fr (fun q hq _ => enc_hi (by omega)) hb.1 h24 hbm
        · rw [ge_off rfl, mf.2.1 0 101 (by omega)]; exact hey p hp
        · rw [ge_m, enc_at (by omega) (by omega)]; exact hjm p hp
      refine m_holdsAt hoe (l := x.2.2) (by omega) (by rw [ge_off rfl, mf.2.1 0 107 (by omega)]; exact u3) o3 ?_
      intro f
      rw [hB, ae_off rfl]
      refine ⟨fun e => ?_, fun e => ?_⟩
      · apply v_X10_goes_141
        exact fin _ 0 (MF_a (by omega)) (fun _ => by rw [gI_ao rfl]) (by rw [ec, ib_f e, Bool.and_false]; rfl)
      · exact fin _ 1 (MF_a (by omega)) (fun _ => by rw [gI_ao rfl]) (by rw [ec, decide_eq_true g1, ib_t e]; rfl)
theorem m_rules_off {w s μ m A B k} {l2 hr l7 : Int32} (h : Wp 147 217 [some (.inr (.inr (0, 90))), some (.inr (.inr (s, 114))), some (.inl l2), none, none, none, some (.inl hr), none, none] [] (eW w s μ m A B) (kV k)) :
    Wp 147 90 [some (.inr (.inr (0, 90))), some (.inr (.inr (s, 114))), some (.inl l2), none, none, some (.inl 0), some (.inl hr), some (.inl l7), some (.inl 0)] [] (eW w s μ m A B) (kV k) := by
  have q : Wp 147 149 [some (.inr (.inr (0, 90))), some (.inr (.inr (s, 114))), some (.inl l2), none, none, some (.inl 0), some (.inl hr), none, none] [] (eW w s μ m A B) (kV k) := by
    apply v_X10_goes_149
    apply v_X10_goes_152
    exact ⟨fun _ => h, fun _ => ⟨fun _ => h, fun e => absurd rfl e⟩⟩
  apply v_X10_goes_90
  exact ⟨fun _ => q, fun _ => ⟨fun _ => q, fun e => absurd rfl e⟩⟩

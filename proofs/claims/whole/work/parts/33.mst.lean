/-! an HOUR of a State, on the model's side -/
def HC (R : Nat) (A : AS) : Prop := 0 < aH A → ∀ i, i < R → ¬ aS A 11 i = 0
def KM (m : Nat → Int32) (R : Nat) (M : List M4) (A : AS) : Prop :=
  Rel R (aS A) (fun f i => m (12 * i + f)) ∧ m 288 = nI (aH A) ∧ m 289 = aM A ∧ m 291 = aD A ∧ m 19674 = aT A ∧ WM m (aW A) ∧ TM m (aK A) ∧ (∀ r, r < 12 → m (446 + r) = aC A r) ∧ BKM m R (aR A) (aF A) M ∧ HC R A
theorem KM_mk {m : Nat → Int32} {R : Nat} {M : List M4} {σ : Nat → Nat → Int32} {hr : Nat} {hm dn wm : Int32} {W : List A2} {K : List A3} {ca : Nat → Int32} {rl : Nat → Nat → Int32} {rf : Nat → Nat → Nat}
    (h1 : Rel R σ (fun f i => m (12 * i + f))) (h2 : m 288 = nI hr) (h3 : m 289 = hm) (h4 : m 291 = dn) (h5 : m 19674 = wm) (h6 : WM m W) (h7 : TM m K) (h8 : ∀ r, r < 12 → m (446 + r) = ca r) (h9 : BKM m R rl rf M) (h10 : 0 < hr → ∀ i, i < R → ¬ σ 11 i = 0) :
    KM m R M (σ, hr, hm, dn, wm, W, K, ca, rl, rf) := ⟨h1, h2, h3, h4, h5, h6, h7, h8, h9, h10⟩
def EM (w : PW) (R cr : Nat) (se : Int32) (RL : List R3) (PL : List A3) : Prop := gI w (0, 90) 30 = nI R ∧ gI w (0, 90) 31 = se ∧ gI w (0, 90) 32 = nI cr ∧ cr ≤ 6 ∧ RUm w RL ∧ RUo R RL ∧ PLm w PL ∧ PL.length ≤ 8
def MB (s : Nat) (w w' : PW) : Prop := w'.2 = w.2 ∧ (∀ g j, ¬ ((g = s ∧ j = 114) ∨ (g = 0 ∧ (j = 90 ∨ j = 122 ∨ j = 123 ∨ j = 124 ∨ j = 125))) → gI w' (g, j) = gI w (g, j)) ∧ ∀ q, ¬ q = 41 → gI w' (0, 90) q = gI w (0, 90) q
theorem MB.refl {s w} : MB s w w := ⟨rfl, fun _ _ _ => rfl, fun _ _ => rfl⟩
theorem MB.tr {s w w' w''} (h : MB s w w') (h' : MB s w' w'') : MB s w w'' := ⟨h'.1.trans h.1, fun g j hh => (h'.2.1 g j hh).trans (h.2.1 g j hh), fun q hq => (h'.2.2 q hq).trans (h.2.2 q hq)⟩
theorem MF.mb {s w w'} (h : MF w w') : MB s w w' := ⟨h.1, fun g j hh => h.2.1 g j (by omega), h.2.2⟩
theorem MB_eW {s w μ m A B} : MB s w (eW w s μ m A B) := by
  refine ⟨rfl, fun g j hh => ?_, fun q _ => by rw [ge_off rfl]⟩
  unfold eW
  rw [aI_ne (by omega), aI_ne (by omega), aI_ne (by omega)]
theorem Rel_enc {R σ μ m} (h24 : R ≤ 24) (h : Rel R σ μ) : Rel R σ (fun f i => enc μ m (12 * i + f)) := by
  intro i hi
  obtain ⟨h0, h1, h2, h3, h4, h5, h6, h7, h8, h9, h10, h11, h12⟩ := h i hi
  have e : ∀ f, f < 12 → enc μ m (12 * i + f) = μ f i := fun f hf => enc_at (by omega) hf
  exact ⟨(e 0 (by omega)).trans h0, (e 1 (by omega)).trans h1, (e 2 (by omega)).trans h2, (e 3 (by omega)).trans h3, (e 4 (by omega)).trans h4, (e 5 (by omega)).trans h5, (e 6 (by omega)).trans h6, (e 7 (by omega)).trans h7, (e 8 (by omega)).trans h8, (e 9 (by omega)).trans h9, h10, fun g => (e 10 (by omega)).trans (h11 g), (e 11 (by omega)).trans h12⟩
theorem EM_fr {w w' R cr se RL PL} (h : ∀ j, (105 ≤ j ∧ j ≤ 110) → gI w' (0, j) = gI w (0, j)) (h2 : ∀ q, ¬ q = 41 → gI w' (0, 90) q = gI w (0, 90) q) (he : EM w R cr se RL PL) : EM w' R cr se RL PL := by
  unfold EM RUm PLm
  rw [h2 30 (by omega), h2 31 (by omega), h2 32 (by omega), h2 33 (by omega), h2 34 (by omega), h 105 (by omega), h 106 (by omega), h 107 (by omega), h 108 (by omega), h 109 (by omega), h 110 (by omega)]
  exact he
theorem WTm_fr {w w' b n fi ft} (h : ∀ j, (102 ≤ j ∧ j ≤ 104) → gI w' (0, j) = gI w (0, j)) (hw : WTm w b n fi ft) : WTm w' b n fi ft := by
  unfold WTm
  rw [h 102 (by omega), h 103 (by omega), h 104 (by omega)]; exact hw
theorem CE_fr {w w' R c} (h : ∀ j, (91 ≤ j ∧ j ≤ 101) → gI w' (0, j) = gI w (0, j)) (hc : CE R c (cm w)) : CE R c (cm w') := by
  intro f i hf hi
  show gI w' (0, 91 + f) i = _
  rw [h (91 + f) (by omega)]; exact hc f i hf hi
theorem M_step {w s wi k P A R se cr n fi ft RL PL M c} {set fr : Int32} {rb : Bool} (hP : P = selL set fr 0 PL) (he : EM w R cr se RL PL) (hck : CK c se R) (hce : CE R c (cm w)) (hwi : wi < 4) (hwt : WTm w wi n fi ft) (hwo : WTo n fi ft)
    (hp : POK R P) (h4 : aH A + 1 ≤ 396) (ho : AO c R A) (hb : BO R (aH A) (aR A) (aF A) M) (hkm : KM (gI w (s, 114)) R M A)
    (hk : ∀ w', KM (gI w' (s, 114)) R M (stF c se R cr RL P M rb fi ft n A) → MB s w w' → k w') :
    Cl 147 [vO 0 90, vO s 114, vI (nI wi), vI set, vI fr, vI (ib rb)] w (kV k) := by
  obtain ⟨e1, e2, e3, e4, e5, e6, e7, e8⟩ := he
  obtain ⟨k1, k2, k3, k4, k5, k6, k7, k8, k9, k10⟩ := hkm
  have h24 := hck.2.1
  have h2 := hck.1
  have ho' := ho
  obtain ⟨o1, o2, o3, o4, o5, o6, o7⟩ := ho'
  obtain ⟨w1l, w1o⟩ := W1_ok (P := P) hp ho
  obtain ⟨w2l, w2o⟩ := W2_ok (c := c) (M := M) (rb := rb) e6 hp ho
  obtain ⟨fb, tb⟩ := hwo.2.2 _ (wix_lt (h := aH A + 1) hwo.1)
  have ew := @eW_self w s
  rw [← ew]
  generalize hm : gI w (s, 114) = m at *
  generalize hμ : (fun f i => m (12 * i + f)) = μ at *
  generalize gI w (0, 124) = A0 at *
  generalize gI w (0, 125) = B0 at *
  -- from the ACTS on
  have J : ∀ w4 m4, MF w w4 → WM m4 (stW2 c RL P M rb A) → TM m4 ((aK A).filter (fun x => !isH (nI (aH A + 1)) x)) → (∀ q, ¬ (290 ≤ q ∧ q < 458) ∨ q = 291 ∨ q = 293 → m4 q = m q) → (∀ r, r < 12 → m4 (446 + r) = stC c RL M rb A r) →
      Wp 147 217 [some (.inr (.inr (0, 90))), some (.inr (.inr (s, 114))), some (.inl (nI wi)), none, none, none, some (.inl (nI (aH A + 1))), none, none] [] (eW w4 s μ m4 A0 B0) (kV k) := by
    intro w4 m4 mf hw4 ht4 hm4 hc4
    have hce4 : CE R c (cm w4) := CE_fr (fun j hj => mf.2.1 0 j (by omega)) hce
    obtain ⟨ra, oa⟩ := rel_acts (W := 4800000 + 9999 * (aH A : Int)) (I := 4800 + 4800 * (aH A : Int)) h24 hce4 (by omega) (by omega) ((stW2 c RL P M rb A).take (mny cr (stW2 c RL P M rb A))) (aS A) μ k1 o1 (fun x hx => w2o x (List.mem_of_mem_take hx))
    have ri := rel_inf (f := fi (wix n (aH A + 1))) ra h2
    have oi := ok_inf oa h2 fb (by omega)
    refine m_217 (R := R) (se := se) (cr := cr) (n := n) (fi := fi) (ft := ft) hw4 w2l (by rw [mf.2.2 30 (by omega)]; exact e1) h24 (by rw [mf.2.2 31 (by omega)]; exact e2) (by rw [mf.2.2 32 (by omega)]; exact e3) e4 h4 hwi (WTm_fr (fun j hj => mf.2.1 0 j (by omega)) hwt) hwo ?_ ?_ ?_ ?_ ?_
    · intro x hx
      obtain ⟨j, hj, e⟩ := of_in (w2o x hx).1
      rw [e]; exact in_nI (by omega) (by omega)
    · intro i hi e
      rw [hce4 2 i (by omega) hi] at e
      have := (hck.2.2.2 i hi).2.2.1; rw [e, tl0] at this; omega
    · intro i hi e
      refine brk_0 oi (by omega) hi ?_
      rw [← e]
      obtain ⟨_, q1, _, _, q4, _⟩ := ri i hi
      unfold brk brkM; rw [q4, q1]
    · intro i hi e
      rw [(ra i hi).2.1] at e
      have s1 := (oa.1 i hi).2.1
      have q1 := ti_div (b := 10) s1.1 (by decide)
      have q2 := ti_add (a := 5) (b := ((stW2 c RL P M rb A).take (mny cr (stW2 c RL P M rb A))).foldl (fun σ x => acS c x σ) (aS A) 1 i / 10) (by rw [q1, tl5, tl10]; omega) (by rw [q1, tl5, tl10]; omega)
      rw [e, q1, tl0, tl5, tl10] at q2; omega
    · intro A' B' m5 g1 g2 g3 g4 g5
      have hf := hm4
      generalize hfe : fi (wix n (aH A + 1)) = f at *
      generalize hte : ft (wix n (aH A + 1)) = t at *
      generalize hσ1 : ((stW2 c RL P M rb A).take (mny cr (stW2 c RL P M rb A))).foldl (fun σ x => acS c x σ) (aS A) = σ1 at *
      generalize hμ1 : ((stW2 c RL P M rb A).take (mny cr (stW2 c RL P M rb A))).foldl (fun μ x => acM (cm w4) x μ) μ = μ1 at *
      have r1 := rel_flow (se := se) hce4 ri oi.2.1
      have k1' := ok_flow hck oi (by omega) (by omega) (by omega)
      have r2 := rel_fr (t := t) hce4 r1 tb (fun i hi => (k1'.1 i hi).2.1)
      have k2' := ok_fr hck k1' tb
      have r3 := rel_br hce4 r2
      have k3' := ok_br k2' (by omega)
      have r4 := rel_dr hce4 r3 k3'.2.1 (fun i hi => (hck.2.2.2 i hi).1) (fun i hi => (k3'.1 i hi).2.2.1) (fun i hi => (k3'.1 i hi).2.2.2.2.1)
      have k4' := ok_dr k3' (by omega) h2
      have r5 := rel_jg (se := se) (t := t) hce4 r4
      have k5' := ok_jg (se := se) (t := if t < 0 then 50 else 30) k4' (by omega) h2
      have r5' : Rel R (sg c se R f t σ1) (mg (cm w4) se R f t μ1) := r5
      have k5'' : Ok c R (4800000 + 9999 * (aH A : Int) + 9999) (4800 + 4800 * (aH A : Int) + 4800) (sg c se R f t σ1) := k5'
      have nl : ∀ i, i < R → nn (lv c (sg c se R f t σ1 0) i) := fun i hi => (lv_b hck hi (k5''.wa hi).1 (k5''.wa hi).2 (by omega)).1
      have r6 := rel_cr (h := aH A + 1) hce4 r5' nl (by omega) (by omega)
      have hh := eM_hm (m := m5) (h := aH A + 1) hce4 r5' (by omega) R (Nat.le_refl _) h24
      have hoff : ∀ q, ¬ q = 289 → q < 618 ∨ q = 19674 → eM (cm w4) (aH A + 1) (mg (cm w4) se R f t μ1) R m5 q = m5 q := fun q hq1 hq2 => eM_off R hq1 (fun i hi => by omega)
      have m5m : ∀ q, (q = 293 ∨ 458 ≤ q) → ¬ q = 19674 → m5 q = m q := fun q hq1 hq2 => (g5 q (by omega)).trans (hf q (by omega))
      have bk5 : BKM m5 R (aR A) (aF A) M := BKM_fr m5m hb.1 h24 k9
      have bk6 := bkm_next hck hce4 r5' h4 hb bk5
      refine hk _ ?_ ((mf.mb).tr MB_eW)
      rw [ge_m]
      have eS1 : stS c se R cr f t (stW2 c RL P M rb A) (aS A) = sg c se R f t σ1 := by unfold stS; rw [hσ1]
      have eF : stF c se R cr RL P M rb fi ft n A = (crS c R (nI (aH A + 1)) (sg c se R f t σ1), aH A + 1, hmS c (sg c se R f t σ1) R (aM A), aD A + nI (mny cr (stW2 c RL P M rb A)), t,
        (stW2 c RL P M rb A).drop (mny cr (stW2 c RL P M rb A)), (aK A).filter (fun x => !isH (nI (aH A + 1)) x), stC c RL M rb A, rl1 c (sg c se R f t σ1) (aH A + 1) (aR A), rf1 c (sg c se R f t σ1) (aH A + 1) (aF A)) := by
        unfold stF; rw [hfe, hte, eS1]; rfl
      rw [eF]
      refine KM_mk (Rel_enc h24 r6) ?_ ?_ ?_ ?_ ?_ ?_ ?_ ?_ ?_
      · rw [enc_hi (by omega), hoff _ (by omega) (by omega)]; exact g2
      · rw [enc_hi (by omega), hh, g5 289 (by omega), hf 289 (by omega), k3]
      · rw [enc_hi (by omega), hoff _ (by omega) (by omega), g3, hf 291 (by omega), k4]
      · rw [enc_hi (by omega), hoff _ (by omega) (by omega)]; exact g4
      · refine ⟨by rw [enc_hi (by omega), hoff _ (by omega) (by omega)]; exact g1.1, fun q x hx => ?_⟩
        have hq : q < ((stW2 c RL P M rb A).drop (mny cr (stW2 c RL P M rb A))).length := (List.getElem?_eq_some_iff.mp hx).1
        rw [List.length_drop] at hq
        rw [enc_hi (by omega), enc_hi (by omega), hoff _ (by omega) (by omega), hoff _ (by omega) (by omega)]; exact g1.2 q x hx
      · refine ⟨by rw [enc_hi (by omega), hoff _ (by omega) (by omega), g5 292 (by omega)]; exact ht4.1, fun q x hx => ?_⟩
        have hq : q < ((aK A).filter (fun x => !isH (nI (aH A + 1)) x)).length := (List.getElem?_eq_some_iff.mp hx).1
        have := List.length_filter_le (fun x => !isH (nI (aH A + 1)) x) (aK A)
        rw [enc_hi (by omega), enc_hi (by omega), enc_hi (by omega), hoff _ (by omega) (by omega), hoff _ (by omega) (by omega), hoff _ (by omega) (by omega), g5 _ (by omega), g5 _ (by omega), g5 _ (by omega)]; exact ht4.2 q x hx
      · intro r hr
        rw [enc_hi (by omega), hoff _ (by omega) (by omega), g5 _ (by omega)]; exact hc4 r hr
      · exact BKM_fr (fun q hq1 _ => enc_hi (by omega)) hb.1 h24 bk6
      · intro _ i hi hz
        have hr := r5' i hi
        have hl := nl i hi
        unfold crS at hz
        rw [ub_same, mx_in hi] at hz
        unfold crB at hz
        by_cases g : sg c se R f t σ1 10 i < lv c (sg c se R f t σ1 0) i
        · rw [if_pos g, ti_eq, ti_nI (by omega), tl0] at hz; omega
        · rw [if_neg g] at hz
          rw [hr.2.2.2.2.2.2.2.2.2.2.1 hz, ti_lt, tlm1] at g
          unfold nn at hl; omega
  apply v_X10_goes_0
  rw [ge_m, enc_hi (by omega), k2, nI_s1]
  refine ⟨in_nI (j := 288) (by omega) (by omega), ?_⟩
  refine m_takes k7 o5 k6 o4 ?_
  intro m2 g1 g2 g3
  have tm : ∀ m', (∀ q, ¬ (q = 290 ∨ (294 ≤ q ∧ q < 374) ∨ (446 ≤ q ∧ q < 458)) → m' q = m2 q) → TM m' ((aK A).filter (fun x => !isH (nI (aH A + 1)) x)) := by
    intro m' hm'
    refine ⟨by rw [hm' 292 (by omega)]; exact g1.1, fun q x hx => ?_⟩
    have hq : q < ((aK A).filter (fun x => !isH (nI (aH A + 1)) x)).length := (List.getElem?_eq_some_iff.mp hx).1
    have := List.length_filter_le (fun x => !isH (nI (aH A + 1)) x) (aK A)
    rw [hm' _ (by omega), hm' _ (by omega), hm' _ (by omega)]; exact g1.2 q x hx
  refine m_plan_loop (hr := nI (aH A + 1)) e7.1 e8 PL 0 w m2 (((aK A).filter (isH (nI (aH A + 1)))).foldl pushH (aW A)) (Nat.zero_add _) (pushH_le o4) MF.refl g2 (fun q x hx => by rw [Nat.zero_add]; exact e7.2 q x hx) ?_
  intro w3 m3 mf3 g4 g5
  rw [← hP] at g4
  have e19 : m3 19674 = aT A := by rw [g5 _ (by omega), g3 _ (by omega)]; exact k5
  rw [e19]
  cases rb
  · refine m_rules_off (J w3 m3 mf3 g4 (tm m3 (fun q hq => g5 q (by omega))) (fun q hq => (g5 q (by omega)).trans (g3 q (by omega))) (fun r hr => ?_))
    rw [g5 _ (by omega), g3 _ (by omega)]; exact k8 r hr
  · refine m_rules (R := R) (rl := aR A) (rf := aF A) (M := M) (RL := RL) (ca := aC A) (ey := c 10) g4 w1l ?_ hb h24 (by omega) ?_ ?_ ?_ e6 (aS A 4) ?_ ?_
    · exact BKM_fr (fun q hq1 _ => (g5 q (by omega)).trans (g3 q (by omega))) hb.1 h24 k9
    · intro p hp'
      rw [mf3.2.1 0 101 (by omega)]; exact hce 10 p (by omega) hp'
    · intro r hr
      rw [g5 _ (by omega), g3 _ (by omega)]; exact k8 r hr
    · unfold RUm
      rw [mf3.2.2 33 (by omega), mf3.2.1 0 105 (by omega), mf3.2.1 0 106 (by omega), mf3.2.1 0 107 (by omega)]; exact e5
    · intro p hp'
      exact (k1 p hp').2.2.2.2.1
    · intro w4 m4 mf4 g6 g7 g8
      refine J w4 m4 (mf3.tr mf4) g6 (tm m4 (fun q hq => (g7 q hq).trans (g5 q (by omega)))) (fun q hq => (g7 q (by omega)).trans ((g5 q (by omega)).trans (g3 q (by omega)))) g8

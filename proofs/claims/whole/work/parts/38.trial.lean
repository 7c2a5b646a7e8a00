/-! trial, worst, taken */ -/
def vm (f : Nat → Int32) (a : Nat) : Nat → Int32
  | 0 => 0
  | k + 1 => jmax (vm f a k) (f (a + k))
/-- known as far as it matters -/
def Spd (e m v : Int32) : Prop := (v < e → m = v) ∧ (e ≤ v → e ≤ m)
theorem jmax_ti {x y : Int32} : (jmax x y).toInt = if x.toInt < y.toInt then y.toInt else x.toInt := by
  unfold jmax
  by_cases h : x < y
  · rw [if_pos h, if_pos (ti_lt.mp h)]
  · rw [if_neg h, if_neg (fun x => h (ti_lt.mpr x))]
theorem Spd_jmax {e m v x y : Int32} (h1 : Spd e m v) (h2 : Spd e x y) : Spd e (jmax m x) (jmax v y) := by
  unfold Spd at *
  simp only [ti_lt, ti_le, ti_eq, jmax_ti] at *
  refine ⟨fun h => ?_, fun h => ?_⟩
  · split at h
    · have q1 := h1.1 (by omega); have q2 := h2.1 (by omega); split <;> omega
    · have q1 := h1.1 (by omega); have q2 := h2.1 (by omega); split <;> omega
  · by_cases a : e.toInt ≤ v.toInt
    · have := h1.2 a; split <;> omega
    · have q1 := h1.1 (by omega)
      split at h
      · have := h2.2 h; split <;> omega
      · omega
theorem vm_nn {f : Nat → Int32} {a : Nat} (h : ∀ i, 0 ≤ (f i).toInt) : ∀ k, 0 ≤ (vm f a k).toInt := by
  intro k
  induction k with
  | zero => exact Int.le_refl _
  | succ k ih => unfold vm; rw [jmax_ti]; have := h (a + k); split <;> omega
theorem vm_mono {f : Nat → Int32} {a : Nat} : ∀ k k', k ≤ k' → (vm f a k).toInt ≤ (vm f a k').toInt := by
  intro k k' h
  induction h with
  | refl => exact Int.le_refl _
  | step h ih =>
    rename_i m
    show _ ≤ (jmax (vm f a m) (f (a + m))).toInt
    rw [jmax_ti]; split <;> omega
theorem vm_b {f : Nat → Int32} {a : Nat} {B : Int} (hB : 0 ≤ B) : ∀ k, (∀ i, i < k → (f (a + i)).toInt ≤ B) → (vm f a k).toInt ≤ B := by
  intro k
  induction k with
  | zero => intro _; exact hB
  | succ k ih => intro h; unfold vm; rw [jmax_ti]; have := h k (by omega); have := ih (fun i hi => h i (by omega)); split <;> omega
/-- all that a TRIAL leaves as it was -/
def TF (N : Nat) (w w' : PW) : Prop := SB 2 N w w'
theorem TFl {R A M w w'} {N : Nat} (h : SB 2 N w w') (hN : (aH A + 1) * 24 ≤ N) (h24 : R ≤ 24) (hl : LV1 w 1 R A M) : LV1 w' 1 R A M := by
  refine ⟨KC_fr (fun j a b => h.2.1 1 j (by omega)) (fun j a b => h.2.1 _ j (by unfold wg tg; omega)) (fun j a b => h.2.1 _ j (by unfold wg tg; omega)) hl.1, ?_⟩
  obtain ⟨q1, q2, q3, q4⟩ := hl.2
  rw [bg1] at *
  refine ⟨by rw [h.2.1 1 62 (by rw [bg2]; omega)]; exact q1, by rw [h.2.1 1 66 (by rw [bg2]; omega), h.2.1 1 67 (by rw [bg2]; omega), h.2.1 1 68 (by rw [bg2]; omega)]; exact q2, fun i h' hi h1 h2 => ?_, fun i h' hi h2 => ?_⟩
  · have : h' * 24 ≤ aH A * 24 := Nat.mul_le_mul_right _ h2
    have e3 := h.2.2 63 (h' * 24 + i) (by omega) (by omega) (by omega)
    have e4 := h.2.2 64 (h' * 24 + i) (by omega) (by omega) (by omega)
    rw [bg2] at e3 e4
    rw [e3, e4]; exact q3 i h' hi h1 h2
  · have : h' * 24 ≤ aH A * 24 := Nat.mul_le_mul_right _ h2
    have e5 := h.2.2 65 (h' * 24 + i) (by omega) (by omega) (by omega)
    rw [bg2] at e5
    rw [e5]; exact q4 i h' hi h2
theorem BL2 {h : Nat} (hh : h ≤ 396) : BL (bg 2) h := BL1 hh
theorem C_trialrun {w k A R se cr RL PL M c} {ww : WW} {set l3 l4 l5 l6 : Int32} {wi N : Nat} (he : EC w R cr se RL) (hc : ceq c (cf w)) (hwi : wi < 4) (hwt : WTc w wi ww.1 ww.2.1 ww.2.2) (hwo : WTo ww.1 ww.2.1 ww.2.2) (hpl : PLo R PL) (hN : N ≤ 96) (hr : RO c R A M) (hlv : LV1 w 1 R A M)
    (hkc : KC w 2 (selL set (nI (aH A)) 0 PL) A) (hl4 : l4 = nI N)
    (hk : ∀ w' x, SB 2 ((aH A + 1) * 24) w w' → Spd l5 x (hv c se R cr RL PL M A ww set N) → 0 ≤ x.toInt → Wp 107 6 [some (.inr (.inr (0, 0))), some (.inl set), none, some (.inl l3), some (.inl l4), some (.inl l5), some (.inl (jmax l6 x)), some (.inl (nI (wi + 1))), none] [] w' (kI k)) :
    Wp 107 42 [some (.inr (.inr (0, 0))), some (.inl set), none, some (.inl l3), some (.inl l4), some (.inl l5), some (.inl l6), some (.inl (nI wi)), some (.inl 0)] [] w (kI k) := by
  subst hl4
  have hck : CK c se R := CK.c hc.symm he.2.2.2.2.1
  have hro := he.2.2.2.2.2.2
  have h24 := hck.2.1
  have h300 := hr.2.2.1
  have hm : gI w (1, 40) 1 = aM A := hlv.1.2.2.1
  refine cntI (L := fun x => [some (.inr (.inr (0, 0))), some (.inl set), none, some (.inl l3), some (.inl (nI N)), some (.inl l5), some (.inl l6), some (.inl (nI wi)), some (.inl x)]) N (fun i w' => KC w' 2 (selL set (nI (aH A)) 0 PL) (itF (trF c se R cr RL PL M A ww set) i A) ∧ BK w' 1 R (aH A + i) (aR (itF (trF c se R cr RL PL M A ww set) i A)) (aF (itF (trF c se R cr RL PL M A ww set) i A)) M ∧ SB 2 ((aH A + 1) * 24) w w') rfl ⟨hkc, hlv.2, SB.refl⟩ ?_ ?_
  · rintro w' ⟨q1, q2, q3⟩
    have e1 : gI w' (2, 40) 1 = aM (itF (trF c se R cr RL PL M A ww set) N A) := q1.2.2.1
    apply v_X9_mostHarm_42
    rw [e1, q3.2.1 1 40 (by unfold wg tg; omega), hm, nI_s1]
    refine ⟨fun _ => hk w' _ q3 ⟨fun _ => rfl, fun h => h⟩ (hv_b hck hro hwo hpl hr hN).2.1, fun e => absurd e (by rw [lt_nI (by omega) (by omega)]; omega)⟩
  · rintro i w' hi ⟨q1, q2, q3⟩ hx
    obtain ⟨i1, i2, i3⟩ := tr_ok (cr := cr) (set := set) hck hro hwo hpl hr i (by omega)
    have e1 : gI w' (2, 40) 1 = aM (itF (trF c se R cr RL PL M A ww set) i A) := q1.2.2.1
    obtain ⟨hb1, hb2, hb3⟩ := hv_b (cr := cr) (set := set) hck hro hwo hpl hr (k := i) (by omega)
    obtain ⟨hB1, hB2, hB3⟩ := hv_b (cr := cr) (set := set) hck hro hwo hpl hr (k := N) hN
    have mo := tr_mono (cr := cr) (set := set) hck hro hwo hpl hr i N (by omega) hN
    apply v_X9_mostHarm_42
    rw [e1, q3.2.1 1 40 (by unfold wg tg; omega), hm]
    refine ⟨fun e => absurd e (by rw [le_nI (by omega) (by omega)]; omega), fun _ => ⟨fun g => ?_, fun g => ⟨in_nI (by omega) (by omega), ?_⟩⟩⟩
    · rw [nI_s1]
      refine hk w' _ q3 ⟨fun g2 => ?_, fun _ => g⟩ hb2
      have g' : l5 ≤ hv c se R cr RL PL M A ww set i := g
      rw [ti_le] at g'
      rw [ti_lt] at g2
      omega
    · rw [cl_nI (by omega)]
      rw [← i1] at i3 q2
      refine C_st1 (g := 2) (by omega) (EC_of (fun j hj => q3.2.1 0 j (by rw [bg2]; unfold wg tg; omega)) he) (hc.tr q3.ceq) (WTc_fr (fun j a b => q3.2.1 wi j (by rw [bg2]; unfold wg tg; omega)) hwt) hwo (selL_ok hpl) (Nat.le_trans (selL_le PL 0) hpl.1) (by omega) i2 q1 q2 (BL2 (by omega)) i3 ?_
      intro w2 p1 p2 p3
      rw [nI_s1]
      rw [i1] at p2
      exact hx w2 ⟨p1, p2, q3.tr (p3.mono (by rw [i1]; omega))⟩
theorem C_mostHarm {w k A R se cr RL PL M c} {WT : Nat → WW} {set e5 : Int32} {a N Z : Nat} (he : EC w R cr se RL) (hc : ceq c (cf w)) (hwt : ∀ b, b < 4 → WTc w b (WT b).1 (WT b).2.1 (WT b).2.2) (hwo : ∀ b, b < 4 → WTo (WT b).1 (WT b).2.1 (WT b).2.2) (hp : PLc w PL) (hpl : PLo R PL) (hZ : a + Z ≤ 4) (hN : N ≤ 96) (hr : RO c R A M) (hlv : LV1 w 1 R A M)
    (hk : ∀ w' x, SB 2 ((aH A + 1) * 24) w w' → Spd e5 x (vm (fun b => hv c se R cr RL PL M A (WT b) set N) a Z) → k x w') :
    Cl 107 [vO 0 0, vI set, vI (nI a), vI (nI (a + Z)), vI (nI N), vI e5] w (kI k) := by
  have hck : CK c se R := CK.c hc.symm he.2.2.2.2.1
  have hro := he.2.2.2.2.2.2
  have h24 := hck.2.1
  have h300 := hr.2.2.1
  apply v_X9_mostHarm_0
  have main : ∀ z i w' x, i + z = Z → SB 2 ((aH A + 1) * 24) w w' → Spd e5 x (vm (fun b => hv c se R cr RL PL M A (WT b) set N) a i) →
      Wp 107 6 [some (.inr (.inr (0, 0))), some (.inl set), none, some (.inl (nI (a + Z))), some (.inl (nI N)), some (.inl e5), some (.inl x), some (.inl (nI (a + i))), none] [] w' (kI k) := by
    intro z
    induction z with
    | zero =>
      intro i w' x hi hw hs
      obtain rfl : i = Z := by omega
      apply v_X9_mostHarm_6
      exact ⟨fun _ => hk w' x hw hs, fun e => absurd e (by rw [lt_nI (by omega) (by omega)]; omega)⟩
    | succ z ih =>
      intro i w' x hi hw hs
      apply v_X9_mostHarm_6
      refine ⟨fun e => absurd e (by rw [le_nI (by omega) (by omega)]; omega), fun _ => ⟨fun g => ?_, fun g => ?_⟩⟩
      · refine hk w' x hw ⟨fun g2 => ?_, fun _ => g⟩
        have mo := vm_mono (f := fun b => hv c se R cr RL PL M A (WT b) set N) (a := a) i Z (by omega)
        rw [ti_lt] at g2
        have := hs.1 (by rw [ti_lt]; omega)
        rw [this, ti_le] at g
        omega
      · have hlv' := TFl hw (Nat.le_refl _) h24 hlv
        refine c_copySt (g := 2) (a := 1) (by omega) (by omega) (by omega) hlv'.1 hr.1.2.2.2.1 (by have := hr.1.2.2.2.2.1; rw [List.filter_nil, List.append_nil]; omega) ?_
        intro w2 q1 q2
        have hw2 : SB 2 ((aH A + 1) * 24) w w2 := hw.tr q2.sb
        have hp2 : PLc w2 PL := PLc_fr (fun j a b => hw2.2.1 99 j (by rw [bg2]; unfold wg tg; omega)) hp
        rw [List.filter_nil, List.append_nil] at q1
        refine c_takeSet (g := 2) (by omega) hp2 hpl.1 hr.1.2.2.2.2.1 q1 ?_
        intro w3 q3 q4
        have hw3 : SB 2 ((aH A + 1) * 24) w w3 := hw2.tr q4.sb
        have hai : a + i < 4 := by omega
        refine C_trialrun (A := A) (PL := PL) (M := M) (c := c) (ww := WT (a + i)) (EC_of (fun j hj => hw3.2.1 0 j (by rw [bg2]; unfold wg tg; omega)) he) (hc.tr hw3.ceq) hai (WTc_fr (fun j x y => hw3.2.1 _ j (by rw [bg2]; unfold wg tg; omega)) (hwt _ hai)) (hwo _ hai) hpl hN hr (TFl hw3 (Nat.le_refl _) h24 hlv) ?_ rfl ?_
        · have e := selL_lat (set := set) (hr := aH A) hpl h300
          show CSt w3 2 (aS A) (nI (aH A)) (aM A) (aD A) (aT A) (aW A) (aK A ++ (selL set (nI (aH A)) 0 PL).filter (lat (aH A))) (aC A)
          rw [e]; exact q3
        · intro w4 y p1 p2 p3
          exact ih (i + 1) w4 _ (by omega) (hw3.tr p1) (Spd_jmax hs p2)
  have := main Z 0 w 0 (Nat.zero_add _) SB.refl ⟨fun _ => rfl, fun h => h⟩
  rw [Nat.add_zero] at this
  exact this
theorem M_harmOf {w k A R se cr RL PL M c} {ww : WW} {set : Int32} {wi N : Nat} (he : EM w R cr se RL PL) (hck : CK c se R) (hce : CE R c (cm w)) (hwi : wi < 4) (hwt : WTm w wi ww.1 ww.2.1 ww.2.2) (hwo : WTo ww.1 ww.2.1 ww.2.2) (hpl : PLo R PL) (hN : N ≤ 96) (hr : RO c R A M) (hkm : KM (gI w (1, 114)) R M A)
    (hk : ∀ w', MB 2 w w' → k (hv c se R cr RL PL M A ww set N) w') : Cl 166 [vO 0 90, vI set, vI (nI wi), vI (nI N)] w (kI k) := by
  have hro := he.2.2.2.2.2.1
  have h300 := hr.2.2.1
  apply v_X10_harmOf_0
  refine cntI (L := fun x => [some (.inr (.inr (0, 90))), some (.inl set), some (.inl (nI wi)), some (.inl (nI N)), some (.inl x)]) 19675 (fun i w' => MB 2 w w' ∧ ∀ q, q < i → gI w' (2, 114) q = gI w (1, 114) q) rfl ⟨MB.refl, fun q hq => by omega⟩ ?_ ?_
  · rintro w' ⟨q1, q2⟩
    apply v_X10_harmOf_3
    rw [show (19675 : Int32) = nI 19675 from rfl]
    refine ⟨fun _ => ?_, fun e => absurd e (by rw [lt_nI (by omega) (by omega)]; omega)⟩
    refine Wp.eq _ _ _ _ _ (aI w' (2, 114) (gI w (1, 114))) _ ?_ ?_
    · rintro ⟨g, j⟩ q hq
      refine ⟨?_, rfl⟩
      by_cases h : g = 2 ∧ j = 114
      · obtain ⟨rfl, rfl⟩ := h
        rw [gI_aI]
        rcases hq with hq | hq
        · exact absurd hq (by decide)
        · exact (q2 q hq).symm
      · rw [aI_ne h]
    have mb : MB 2 w (aI w' (2, 114) (gI w (1, 114))) := q1.tr ⟨rfl, fun g j hh => aI_ne (by omega), fun q _ => by rw [aI_ne (by omega)]⟩
    have km : KM (gI (aI w' (2, 114) (gI w (1, 114))) (2, 114)) R M A := by rw [gI_aI]; exact hkm
    generalize aI w' (2, 114) (gI w (1, 114)) = w2 at mb km ⊢
    refine cntI (L := fun x => [some (.inr (.inr (0, 90))), some (.inl set), some (.inl (nI wi)), some (.inl (nI N)), some (.inl x)]) N (fun i w' => MB 2 w w' ∧ KM (gI w' (2, 114)) R M (itF (trF c se R cr RL PL M A ww set) i A)) rfl ⟨mb, km⟩ ?_ ?_
    · rintro w3 ⟨p1, p2⟩
      apply v_X10_harmOf_34
      have i9 : vp_in 289 19675 := in_nI (j := 289) (by omega) (by omega)
      rw [p2.2.2.1, p1.2.1 1 114 (by omega), hkm.2.2.1]
      exact ⟨fun _ => ⟨i9, i9, hk w3 p1⟩, fun e => absurd e (by rw [lt_nI (by omega) (by omega)]; omega)⟩
    · rintro i w3 hi ⟨p1, p2⟩ hx
      obtain ⟨i1, i2, i3⟩ := tr_ok (cr := cr) (set := set) hck hro hwo hpl hr i (by omega)
      apply v_X10_harmOf_34
      rw [p1.2.1 1 114 (by omega), hkm.2.1]
      refine ⟨fun e => absurd e (by rw [le_nI (by omega) (by omega)]; omega), fun _ => ⟨in_nI (j := 288) (by omega) (by omega), ?_⟩⟩
      rw [← i1] at i3
      refine M_step (wi := wi) (set := set) (fr := nI (aH A)) (rb := true) (c := c) (P := selL set (nI (aH A)) 0 PL) (PL := PL) rfl (EM_mb p1 he) hck (CE_fr (fun j hj => p1.2.1 0 j (by omega)) hce) hwi (WTm_fr (fun j hj => p1.2.1 0 j (by omega)) hwt) hwo (selL_ok hpl) (by omega) i2 i3 p2 ?_
      intro w4 s1 s2
      rw [nI_s1]
      exact hx w4 ⟨p1.tr s2, s1⟩
  · rintro i w' hi ⟨q1, q2⟩ hx
    apply v_X10_harmOf_3
    rw [show (19675 : Int32) = nI 19675 from rfl, cl_nI (by omega), nI_s1]
    have ii : vp_in (nI i) 19675 := in_nI (by omega) (by omega)
    refine ⟨fun e => absurd e (by rw [le_nI (by omega) (by omega)]; omega), fun _ => ⟨ii, ii, hx _ ⟨q1.tr ⟨rfl, fun g j hh => sI_ne (by omega), fun q _ => by rw [sI_ne (by omega)]⟩, fun q hq => ?_⟩⟩⟩
    rw [gI_s, ub_eq, q1.2.1 1 114 (by omega)]
    by_cases g : q = i
    · subst g; rw [if_pos rfl]
    · rw [if_neg g]; exact q2 q (by omega)
theorem M_worstOf {w k A R se cr RL PL M c} {WT : Nat → WW} {set : Int32} {N Z : Nat} (he : EM w R cr se RL PL) (hck : CK c se R) (hce : CE R c (cm w)) (hwt : ∀ b, b < 4 → WTm w b (WT b).1 (WT b).2.1 (WT b).2.2) (hwo : ∀ b, b < 4 → WTo (WT b).1 (WT b).2.1 (WT b).2.2) (hpl : PLo R PL) (hZ : Z ≤ 4) (hN : N ≤ 96) (hr : RO c R A M) (hkm : KM (gI w (1, 114)) R M A)
    (hk : ∀ w', MB 2 w w' → k (vm (fun b => hv c se R cr RL PL M A (WT b) set N) 0 Z) w') : Cl 168 [vO 0 90, vI set, vI (nI Z), vI (nI N)] w (kI k) := by
  apply v_X10_worstOf_0
  have main : ∀ z i w', i + z = Z → MB 2 w w' → Wp 168 6 [some (.inr (.inr (0, 90))), some (.inl set), some (.inl (nI Z)), some (.inl (nI N)), some (.inl (vm (fun b => hv c se R cr RL PL M A (WT b) set N) 0 i)), some (.inl (nI i)), none] [] w' (kI k) := by
    intro z
    induction z with
    | zero =>
      intro i w' hi hw
      obtain rfl : i = Z := by omega
      apply v_X10_worstOf_6
      exact ⟨fun _ => hk w' hw, fun e => absurd e (by rw [lt_nI (by omega) (by omega)]; omega)⟩
    | succ z ih =>
      intro i w' hi hw
      apply v_X10_worstOf_6
      refine ⟨fun e => absurd e (by rw [le_nI (by omega) (by omega)]; omega), fun _ => ?_⟩
      refine M_harmOf (ww := WT i) (A := A) (M := M) (c := c) (EM_mb hw he) hck (CE_fr (fun j hj => hw.2.1 0 j (by omega)) hce) (by omega) (WTm_fr (fun j hj => hw.2.1 0 j (by omega)) (hwt i (by omega))) (hwo i (by omega)) hpl hN hr (by rw [hw.2.1 1 114 (by omega)]; exact hkm) ?_
      intro w2 q1
      have e : vm (fun b => hv c se R cr RL PL M A (WT b) set N) 0 (i + 1) = jmax (vm (fun b => hv c se R cr RL PL M A (WT b) set N) 0 i) (hv c se R cr RL PL M A (WT i) set N) := by
        show jmax _ (hv c se R cr RL PL M A (WT (0 + i)) set N) = _
        rw [Nat.zero_add]
      rw [nI_s1]
      refine ⟨fun g => ?_, fun g => ?_⟩
      · have := ih (i + 1) w2 (by omega) (hw.tr q1)
        rw [e, show jmax (vm (fun b => hv c se R cr RL PL M A (WT b) set N) 0 i) (hv c se R cr RL PL M A (WT i) set N) = vm (fun b => hv c se R cr RL PL M A (WT b) set N) 0 i from if_neg (Int32.not_lt.mpr g)] at this
        exact this
      · have := ih (i + 1) w2 (by omega) (hw.tr q1)
        rw [e, show jmax (vm (fun b => hv c se R cr RL PL M A (WT b) set N) 0 i) (hv c se R cr RL PL M A (WT i) set N) = hv c se R cr RL PL M A (WT i) set N from if_pos g] at this
        exact this
  exact main Z 0 w (Nat.zero_add _) MB.refl

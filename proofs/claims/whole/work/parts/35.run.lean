/-! run -/
theorem stF_c {c c' se R cr RL P M rb fi ft n A} (h : ceq c c') : stF c' se R cr RL P M rb fi ft n A = stF c se R cr RL P M rb fi ft n A := by
  have e : stW2 c' RL P M rb A = stW2 c RL P M rb A := by unfold stW2 stB; rw [h 10 (by omega)]
  unfold stF stS stC stB
  rw [e, crS_c h, sg_c h, acs_c h, hmS_c h, rl1_c h, rf1_c h, h 10 (by omega)]
theorem AO.c {c c' R A} (h : ceq c c') (ho : AO c R A) : AO c' R A := ⟨Ok.c h ho.1, ho.2⟩
theorem C_st1 {w g b k P A R se cr n fi ft RL M c} (hg : g ≤ 8) (he : EC w R cr se RL) (hc : ceq c (cf w)) (hwt : WTc w b n fi ft) (hwo : WTo n fi ft) (hp : POK R P) (hp8 : P.length ≤ 8) (h4 : aH A + 1 ≤ 396) (ho : AO c R A) (hkc : KC w g P A)
    (hbk : BK w (bg g) R (aH A) (aR A) (aF A) M) (hbl : BL (bg g) (aH A + 1)) (hb : BO R (aH A) (aR A) (aF A) M)
    (hk : ∀ w', KC w' g P (stF c se R cr RL P M true fi ft n A) → BK w' (bg g) R (aH A + 1) (aR (stF c se R cr RL P M true fi ft n A)) (aF (stF c se R cr RL P M true fi ft n A)) M → SB g ((aH A + 1) * 24) w w' → k w') :
    Cl 29 [vO 0 29, vO g 40, vO b 80, vI 1] w (kV k) := by
  refine C_step1 hg he hwt hwo hp hp8 h4 (ho.c hc) hkc hbk hbl hb ?_
  rw [stF_c hc]; exact hk
theorem C_st0 {w g b k P A R se cr n fi ft RL M c} (hg : g ≤ 8) (he : EC w R cr se RL) (hc : ceq c (cf w)) (hwt : WTc w b n fi ft) (hwo : WTo n fi ft) (hp : POK R P) (hp8 : P.length ≤ 8) (h4 : aH A + 1 ≤ 396) (ho : AO c R A) (hkc : KC w g P A)
    (hk : ∀ w', KC w' g P (stF c se R cr RL P M false fi ft n A) → SN g w w' → k w') :
    Cl 29 [vO 0 29, vO g 40, vO b 80, vI 0] w (kV k) := by
  refine C_step0 (M := M) hg he hwt hwo hp hp8 h4 (ho.c hc) hkc ?_
  rw [stF_c hc]; exact hk
theorem BO_step {c se R cr RL P M rb fi ft n A} (hck : CK c se R) (hro : RUo R RL) (hwo : WTo n fi ft) (hp : POK R P) (h4 : aH A + 1 ≤ 396) (ho : AO c R A) (hb : BO R (aH A) (aR A) (aF A) M) :
    BO R (aH A + 1) (aR (stF c se R cr RL P M rb fi ft n A)) (aF (stF c se R cr RL P M rb fi ft n A)) M := by
  have o := (AO_step (cr := cr) (M := M) (rb := rb) hck hro hwo hp h4 ho).1
  have e : aH (stF c se R cr RL P M rb fi ft n A) = aH A + 1 := rfl
  rw [e] at o
  exact bo_next (σ := aS (stF c se R cr RL P M rb fi ft n A)) hck hb (fun i hi => (lv_b hck hi (o.wa hi).1 (o.wa hi).2 (by omega)).1)
def itF (F : AS → AS) : Nat → AS → AS
  | 0, A => A
  | k + 1, A => F (itF F k A)
theorem it_ok {c se R cr RL P M rb fi ft n A} (hck : CK c se R) (hro : RUo R RL) (hwo : WTo n fi ft) (hp : POK R P) (ho : AO c R A) (hb : BO R (aH A) (aR A) (aF A) M) : ∀ k, aH A + k ≤ 396 →
    aH (itF (stF c se R cr RL P M rb fi ft n) k A) = aH A + k ∧ AO c R (itF (stF c se R cr RL P M rb fi ft n) k A) ∧ BO R (aH A + k) (aR (itF (stF c se R cr RL P M rb fi ft n) k A)) (aF (itF (stF c se R cr RL P M rb fi ft n) k A)) M := by
  intro k
  induction k with
  | zero => intro _; exact ⟨rfl, ho, hb⟩
  | succ k ih =>
    intro hk
    obtain ⟨h1, h2, h3⟩ := ih (by omega)
    have h3' : BO R (aH (itF (stF c se R cr RL P M rb fi ft n) k A)) (aR (itF (stF c se R cr RL P M rb fi ft n) k A)) (aF (itF (stF c se R cr RL P M rb fi ft n) k A)) M := by rw [h1]; exact h3
    have b := BO_step (cr := cr) (rb := rb) hck hro hwo hp (by omega) h2 h3'
    rw [h1] at b
    refine ⟨?_, AO_step hck hro hwo hp (by omega) h2, b⟩
    show aH (itF (stF c se R cr RL P M rb fi ft n) k A) + 1 = _
    rw [h1]; omega
def inK (g j : Nat) : Prop := (g = 0 ∧ j ≤ 28) ∨ (g = 99 ∧ 54 ≤ j ∧ j ≤ 57) ∨ (g < 4 ∧ 80 ≤ j ∧ j ≤ 82) ∨ (g < 6 ∧ j = 70) ∨ (3 ≤ g ∧ g ≤ 8 ∧ ((40 ≤ j ∧ j ≤ 53) ∨ (62 ≤ j ∧ j ≤ 68))) ∨ (106 ≤ g ∧ g ≤ 117 ∧ 54 ≤ j ∧ j ≤ 57)
theorem EC_of {w w' R cr se RL} (hf : ∀ j, j ≤ 28 → gI w' (0, j) = gI w (0, j)) (h1 : EC w R cr se RL) : EC w' R cr se RL := by
  obtain ⟨x1, x2, x3, x4, x5, x6, x7⟩ := h1
  refine ⟨by rw [hf 1 (by omega)]; exact x1, by rw [hf 1 (by omega)]; exact x2, by rw [hf 1 (by omega)]; exact x3, x4, CK.c (fun f hf' => hf (2 + f) (by omega)) x5, ?_, x7⟩
  unfold RUc
  rw [hf 14 (by omega), hf 15 (by omega), hf 16 (by omega), hf 17 (by omega), hf 18 (by omega), hf 19 (by omega), hf 20 (by omega)]
  exact x6
theorem IC_live {w w' R cr se c RL PL MK A M WT TP v rf A' M'} (hf : ∀ g j, inK g j → gI w' (g, j) = gI w (g, j)) (hl : ∀ d, gL w' (d, 71) = gL w (d, 71)) (hb : LV1 w' 1 R A' M')
    (h : IC w R cr se c RL PL MK A M WT TP v rf) : IC w' R cr se c RL PL MK A' M' WT TP v rf := by
  obtain ⟨h1, h2, h3, h4, h5, h6, h7, h8, h9⟩ := h
  refine ⟨EC_of (fun j hj => hf 0 j (by unfold inK; omega)) h1, h2.tr (fun f hf' => hf 0 (2 + f) (by unfold inK; omega)), PLc_fr (fun j a b => hf 99 j (by unfold inK; omega)) h3, MKc_fr (fun j a b => hf 0 j (by unfold inK; omega)) h4, hb,
    fun b hb' => WTc_fr (fun j x y => hf b j (by unfold inK; omega)) (h6 b hb'), fun d hd => TPc_fr (hf d 70 (by unfold inK; omega)) (hl d) (fun j x y => hf _ j (by unfold inK; omega)) (fun j x y => hf _ j (by unfold inK; omega)) (fun j x y => hf _ j (by unfold inK; omega)) (fun j x y => hf _ j (by unfold inK; omega)) (h7 d hd), ?_, ?_⟩
  · rw [hf 0 0 (by unfold inK; omega)]; exact h8
  · rw [hf 0 0 (by unfold inK; omega)]; exact h9
theorem IM_live {w w' R cr se c RL PL MK A M WT TP v rf A' M'} (hf : ∀ g j, (g = 0 ∧ ((91 ≤ j ∧ j ≤ 113) ∨ (116 ≤ j ∧ j ≤ 119))) → gI w' (g, j) = gI w (g, j)) (h90 : ∀ q, 30 ≤ q → q ≤ 37 → gI w' (0, 90) q = gI w (0, 90) q) (hl : gL w' (0, 120) = gL w (0, 120)) (hk : KM (gI w' (1, 114)) R M' A')
    (h : IM w R cr se c RL PL MK A M WT TP v rf) : IM w' R cr se c RL PL MK A' M' WT TP v rf := by
  obtain ⟨h1, h2, h3, h4, h5, h6, h7, h8⟩ := h
  refine ⟨?_, CE_fr (fun j hj => hf 0 j (by omega)) h2, MKm_fr (h90 35 (by omega) (by omega)) (fun j a b => hf 0 j (by omega)) h3, hk, fun b hb => WTm_fr (fun j hj => hf 0 j (by omega)) (h5 b hb), fun d hd => TPm_fr (fun j a b => hf 0 j (by omega)) hl (h6 d hd), by rw [h90 37 (by omega) (by omega)]; exact h7, by rw [h90 36 (by omega) (by omega)]; exact h8⟩
  obtain ⟨x1, x2, x3, x4, x5, x6, x7, x8⟩ := h1
  unfold EM RUm PLm
  rw [h90 30 (by omega) (by omega), h90 31 (by omega) (by omega), h90 32 (by omega) (by omega), h90 33 (by omega) (by omega), h90 34 (by omega) (by omega), hf 0 105 (by omega), hf 0 106 (by omega), hf 0 107 (by omega), hf 0 108 (by omega), hf 0 109 (by omega), hf 0 110 (by omega)]
  exact ⟨x1, x2, x3, x4, x5, x6, x7, x8⟩
theorem bit_0 : ∀ k, k < 8 → bit 0 k = false := by
  intro k hk
  rcases (show k = 0 ∨ k = 1 ∨ k = 2 ∨ k = 3 ∨ k = 4 ∨ k = 5 ∨ k = 6 ∨ k = 7 by omega) with rfl | rfl | rfl | rfl | rfl | rfl | rfl | rfl <;> decide
theorem selL_0 {fr : Int32} : ∀ (l : List A3) (k : Nat), k + l.length ≤ 8 → selL 0 fr k l = [] := by
  intro l
  induction l with
  | nil => intro _ _; rfl
  | cons x l ih =>
    intro k hk
    rw [List.length_cons] at hk
    show (if bit 0 k = true then _ else _) = _
    rw [bit_0 k (by omega), if_neg (by decide)]
    exact ih (k + 1) (by omega)
theorem POK_nil {R} : POK R [] := fun x hx => by cases hx
theorem BL1 {h : Nat} (hh : h ≤ 396) : BL 1 h := ⟨9528, rfl, rfl, rfl, by omega, by omega⟩
theorem C_run {w k A R se cr n fi ft RL M c} {N : Nat} (he : EC w R cr se RL) (hc : ceq c (cf w)) (hwt : WTc w 0 n fi ft) (hwo : WTo n fi ft) (hN : aH A + N ≤ 300) (ho : AO c R A) (hb : BO R (aH A) (aR A) (aF A) M) (hlv : LV1 w 1 R A M)
    (hk : ∀ w', LV1 w' 1 R (itF (stF c se R cr RL [] M true fi ft n) N A) M → SB 1 0 w w' → k (aM (itF (stF c se R cr RL [] M true fi ft n) N A)) w') :
    Wp 71 30 [some (.inr (.inr (0, 0))), some (.inl (nI N)), some (.inl 0)] [] w (kI k) := by
  have hck : CK c se R := CK.c hc.symm he.2.2.2.2.1
  have hro := he.2.2.2.2.2.2
  refine cntI (L := fun x => [some (.inr (.inr (0, 0))), some (.inl (nI N)), some (.inl x)]) N (fun i w' => LV1 w' 1 R (itF (stF c se R cr RL [] M true fi ft n) i A) M ∧ SB 1 0 w w') rfl ⟨hlv, SB.refl⟩ ?_ ?_
  · rintro w' ⟨q1, q2⟩
    apply v_X9_run_30
    refine ⟨fun _ => ?_, fun e => absurd e (by rw [lt_nI (by omega) (by omega)]; omega)⟩
    rw [q1.1.2.2.1]
    exact hk w' q1 q2
  · rintro i w' hi ⟨q1, q2⟩ hx
    obtain ⟨i1, i2, i3⟩ := it_ok (cr := cr) (rb := true) hck hro hwo POK_nil ho hb i (by omega)
    apply v_X9_run_30
    refine ⟨fun e => absurd e (by rw [le_nI (by omega) (by omega)]; omega), fun _ => ⟨in_nI (j := 0) (by omega) (by omega), ?_⟩⟩
    rw [← i1] at i3
    refine C_st1 (g := 1) (by omega) (EC_of (fun j hj => q2.2.1 0 j (by omega)) he) (hc.tr q2.ceq) (WTc_fr (fun j a b => q2.2.1 0 j (by omega)) hwt) hwo POK_nil (Nat.zero_le _) (by omega) i2 q1.1 q1.2 (BL1 (by omega)) i3 ?_
    intro w2 p1 p2 p3
    rw [nI_s1]
    exact hx w2 ⟨⟨p1, p2⟩, q2.tr (p3.mono (Nat.zero_le _))⟩
theorem EM_mb {s w w' R cr se RL PL} (h : MB s w w') (he : EM w R cr se RL PL) : EM w' R cr se RL PL := EM_fr (fun j hj => h.2.1 0 j (by omega)) h.2.2 he
theorem M_run {w k A R se cr n fi ft RL PL M c} {N : Nat} (he : EM w R cr se RL PL) (hck : CK c se R) (hce : CE R c (cm w)) (hwt : WTm w 0 n fi ft) (hwo : WTo n fi ft) (hN : aH A + N ≤ 300) (ho : AO c R A) (hb : BO R (aH A) (aR A) (aF A) M) (hkm : KM (gI w (1, 114)) R M A)
    (hk : ∀ w', KM (gI w' (1, 114)) R M (itF (stF c se R cr RL [] M true fi ft n) N A) → MB 1 w w' → k (aM (itF (stF c se R cr RL [] M true fi ft n) N A)) w') :
    Wp 154 31 [some (.inr (.inr (0, 90))), some (.inl (nI N)), some (.inl 0)] [] w (kI k) := by
  have hro := he.2.2.2.2.2.1
  refine cntI (L := fun x => [some (.inr (.inr (0, 90))), some (.inl (nI N)), some (.inl x)]) N (fun i w' => KM (gI w' (1, 114)) R M (itF (stF c se R cr RL [] M true fi ft n) i A) ∧ MB 1 w w') rfl ⟨hkm, MB.refl⟩ ?_ ?_
  · rintro w' ⟨q1, q2⟩
    apply v_X10_run_31
    refine ⟨fun _ => ⟨in_nI (j := 289) (by omega) (by omega), ?_⟩, fun e => absurd e (by rw [lt_nI (by omega) (by omega)]; omega)⟩
    rw [q1.2.2.1]
    exact hk w' q1 q2
  · rintro i w' hi ⟨q1, q2⟩ hx
    obtain ⟨i1, i2, i3⟩ := it_ok (cr := cr) (rb := true) hck hro hwo POK_nil ho hb i (by omega)
    apply v_X10_run_31
    refine ⟨fun e => absurd e (by rw [le_nI (by omega) (by omega)]; omega), fun _ => ?_⟩
    rw [← i1] at i3
    refine M_step (wi := 0) (set := 0) (fr := 300) (rb := true) (c := c) (P := []) (PL := PL) (selL_0 PL 0 (by have := he.2.2.2.2.2.2.2; omega)).symm (EM_mb q2 he) hck (CE_fr (fun j hj => q2.2.1 0 j (by omega)) hce) (by omega) (WTm_fr (fun j hj => q2.2.1 0 j (by omega)) hwt) hwo POK_nil (by omega) i2 i3 q1 ?_
    intro w2 p1 p2
    rw [nI_s1]
    exact hx w2 ⟨p1, q2.tr p2⟩
theorem bbi {p : Prop} [Decidable p] {X Y : Prop} (h1 : p → X) (h2 : ¬ p → Y) : (bb p = 0 → Y) ∧ (¬ bb p = 0 → X) :=
  ⟨fun e => h2 (bb_0.mp e), fun e => h1 (Decidable.not_not.mp (fun x => e (bb_0.mpr x)))⟩
theorem bbj {p : Prop} [Decidable p] {X Y : Prop} (h1 : p → X) (h2 : ¬ p → Y) : (¬ bb p = 0 → X) ∧ (bb p = 0 → Y) := (bbi h1 h2).symm
theorem IO_live {R c PL MK A M WT TP v A' M'} (h : IO R c PL MK A M WT TP v) (hr : RO c R A' M') : IO R c PL MK A' M' WT TP v := ⟨h.1, h.2.1, hr, h.2.2.2⟩
theorem o_run {n w} {a : Int32} (hi : Inv n w) : OP n w 71 154 [vI a] := by
  have hi0 := hi
  obtain ⟨R, cr, se, c, RL, PL, MK, A, M, WT, TP, v, rf, hv, ic, im, io⟩ := hi
  have ic0 := ic
  have im0 := im
  obtain ⟨c1, c2, c3, c4, c5, c6, c7, c8, c9⟩ := ic
  obtain ⟨m1, m2, m3, m4, m5, m6, m7, m8⟩ := im
  have ro := io.2.2.1
  have hmh : gI w (1, 40) 0 = nI (aH A) := c5.1.2.1
  have hmm : gI w (1, 114) 288 = nI (aH A) := m4.2.1
  have no : ¬ ((0 ≤ a ∧ a ≤ 200) ∧ nI (aH A) + a ≤ 300) → kI (fun a_1 w1 => Cl 154 (vO 0 90 :: [vI a]) w1 (kI fun b w2 => b = a_1 ∧ Inv (n + 1) w2)) (.inl (-1)) w := by
    intro hn
    show Cl 154 [vO 0 90, vI a] w _
    apply v_X10_run_0
    rw [hmm]
    refine bbi (fun g => ⟨in_nI (j := 288) (by omega) (by omega), fun g2 => absurd ⟨g, g2⟩ hn, fun _ => ⟨rfl, hi0.up (by omega)⟩⟩) (fun _ => ⟨rfl, hi0.up (by omega)⟩)
  apply v_X9_run_0
  rw [hmh]
  refine bbi (fun g => ⟨fun g2 => ?_, fun g2 => no (fun x => Int32.not_lt.mpr x.2 g2)⟩) (fun g => no (fun x => g x.1))
  obtain ⟨N, hN, rfl⟩ : ∃ N : Nat, N ≤ 200 ∧ a = nI N := by
    refine ⟨a.toInt.toNat, ?_, ?_⟩
    · have := g.2; rw [ti_le, tl200] at this; omega
    · have h1 := g.1; have h2 := g.2
      rw [ti_le, tl0] at h1; rw [ti_le, tl200] at h2
      rw [ti_eq, ti_nI (by omega)]; omega
  have g2' := g2
  rw [nI_ad, show (300 : Int32) = nI 300 from rfl, le_nI (by have := ro.2.2.1; omega) (by omega)] at g2
  have hck : CK c se R := CK.c c2.symm c1.2.2.2.2.1
  refine C_run c1 c2 (c6 0 (by omega)) (io.2.2.2.1 0 (by omega)) g2 ro.1 ro.2.1 c5 ?_
  intro w1 q1 q2
  have im1 := IM_FC q2.fc im0
  have ic1 := IC_live (fun g j hj => q2.2.1 g j (by unfold inK at hj; rw [bg1]; unfold wg tg; omega)) (fun d => by unfold gL; rw [q2.1]) q1 ic0
  obtain ⟨m1, m2, m3, m4, m5, m6, m7, m8⟩ := im1
  have im1 := IM_FC q2.fc im0
  apply v_X10_run_0
  rw [m4.2.1]
  refine bbi (fun _ => ⟨in_nI (j := 288) (by omega) (by omega), fun _ => ?_, fun x => absurd g2' (Int32.not_le.mpr x)⟩) (fun x => absurd g x)
  refine M_run m1 hck m2 (m5 0 (by omega)) (io.2.2.2.1 0 (by omega)) g2 ro.1 ro.2.1 m4 ?_
  intro w2 p1 p2
  refine ⟨rfl, ?_⟩
  obtain ⟨i1, i2, i3⟩ := it_ok (cr := cr) (rb := true) hck c1.2.2.2.2.2.2 (io.2.2.2.1 0 (by omega)) POK_nil ro.1 ro.2.1 N (by omega)
  refine Inv.mk (by omega) (IC_FN p2.fm ic1) (IM_live (fun g j hj => p2.2.1 g j (by omega)) (fun q _ _ => p2.2.2 q (by omega)) (by unfold gL; rw [p2.1]) p1 im1) (IO_live io ⟨i2, by rw [i1]; exact i3, by omega, fun hz => ?_⟩)
  rw [i1] at hz
  obtain rfl : N = 0 := by omega
  exact ro.2.2.2 (by omega)

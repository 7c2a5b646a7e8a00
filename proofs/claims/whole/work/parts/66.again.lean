/-! a START, on both sides -/
theorem Sm_b5 {f : Nat → Int32} : ∀ n : Nat, (∀ i, i < n → (f i).toInt ≤ 200000) → Sm f n ≤ 200000 * (n : Int) := by
  intro n
  induction n with
  | zero => intro _; show (0 : Int) ≤ 200000 * ((0 : Nat) : Int); omega
  | succ n ih => intro h; have h1 := ih (fun i hi => h i (by omega)); have h2 := h n (by omega); unfold Sm; omega
theorem Sm_b2 {f : Nat → Int32} : ∀ n : Nat, (∀ i, i < n → (f i).toInt ≤ 200) → Sm f n ≤ 200 * (n : Int) := by
  intro n
  induction n with
  | zero => intro _; show (0 : Int) ≤ 200 * ((0 : Nat) : Int); omega
  | succ n ih => intro h; have h1 := ih (fun i hi => h i (by omega)); have h2 := h n (by omega); unfold Sm; omega
theorem Sm_b0 {f : Nat → Int32} : ∀ n : Nat, (∀ i, i < n → f i = 0) → Sm f n ≤ 0 := by
  intro n
  induction n with
  | zero => intro _; exact Int.le_refl _
  | succ n ih => intro h; have h1 := ih (fun i hi => h i (by omega)); have h2 := h n (by omega); unfold Sm; rw [h2, tl0]; omega
def asS (σ : Nat → Nat → Int32) (dn : Int32) (W : List A2) (K : List A3) (ca : Nat → Int32) : AS := (σ, 0, 0, dn, 0, W, K, ca, fun _ _ => 0, fun _ _ => 0)
theorem start_ok {c se R σ} (hck : CK c se R) (hs : ∀ i, i < R → stc c i σ) : Ok c R 4800000 4800 σ := by
  have h24 := hck.2.1
  have kk := hck.2.2.2
  refine ⟨fun i hi => ?_, fun i hi => Or.inl (hs i hi).2.2.2.2.2.2.2.2.2.1, ?_, ?_⟩
  · obtain ⟨s0, s1, s2, s3, s4, s5, s6, s7, s8, s9, s10, s11⟩ := hs i hi
    obtain ⟨k0, k1, k2, k3, k4, k5, k6, k7, k8, k9⟩ := kk i hi
    unfold OkP nn
    rw [s0, s1, s3, s4, s5, s6, s7, s8, tl0]
    omega
  · have := Sm_b5 (f := σ 0) R (fun i hi => by rw [(hs i hi).1]; exact (kk i hi).2.2.2.2.1.2)
    omega
  · have b1 := Sm_b2 (f := σ 1) R (fun i hi => by rw [(hs i hi).2.1]; exact (kk i hi).2.2.2.2.2.1.2)
    have b3 := Sm_b0 (f := σ 3) R (fun i hi => (hs i hi).2.2.2.1)
    have b4 := Sm_b0 (f := σ 4) R (fun i hi => (hs i hi).2.2.2.2.1)
    omega
theorem start_RO {c se R σ ca W K dn} (hck : CK c se R) (hs : ∀ i, i < R → stc c i σ) (hca : ∀ r, r < 12 → ca r = -2) (hW : W.length ≤ 40) (hK : K.length ≤ 24) (hWo : ∀ x, x ∈ W → actOK R x) (hKo : ∀ x, x ∈ K → actOK R x.2) : RO c R (asS σ dn W K ca) [] := by
  refine ⟨⟨start_ok hck hs, Nat.zero_le _, ⟨Int.le_refl _, Int.le_refl _⟩, hW, hK, hWo, hKo⟩, ⟨Nat.zero_le _, fun x hx => (by cases hx), fun i h _ hp => absurd hp (Nat.lt_irrefl _)⟩, Nat.zero_le _, fun _ => ⟨hs, rfl, rfl, hca⟩⟩
theorem start_KM {c se R f f' σ ca W K dn} (hck : CK c se R) (hs : ∀ i, i < R → stc c i σ) (hca : ∀ r, r < 12 → ca r = -2) (sm : SM c R f) (h1 : ∀ q, ¬ (290 ≤ q ∧ q < 446) → f' q = f q) (hd : f' 291 = dn) (hm : f' 293 = 0) (hw : WM f' W) (ht : TM f' K) : KM f' R [] (asS σ dn W K ca) := by
  have h24 := hck.2.1
  obtain ⟨a1, a2, a3, a4, a5⟩ := sm
  have e : ∀ i q, i < R → q < 12 → f' (12 * i + q) = sv c i q := fun i q hi hq => by rw [h1 _ (by omega)]; exact a1 i q hi hq
  refine ⟨fun i hi => ?_, ?_, ?_, hd, ?_, hw, ht, fun r hr => ?_, ⟨hm, trivial, fun i h hi hh => ⟨fun _ => ?_, fun x => absurd x (Nat.lt_irrefl _)⟩⟩, fun x => absurd x (Nat.lt_irrefl _)⟩
  · obtain ⟨s0, s1, s2, s3, s4, s5, s6, s7, s8, s9, s10, s11⟩ := hs i hi
    show f' (12 * i + 0) = σ 0 i ∧ f' (12 * i + 1) = σ 1 i ∧ f' (12 * i + 2) = (if σ 1 i = 0 then -2 else σ 2 i) ∧ f' (12 * i + 3) = σ 3 i ∧ f' (12 * i + 4) = σ 4 i ∧ f' (12 * i + 5) = σ 6 i ∧ f' (12 * i + 6) = σ 7 i ∧ f' (12 * i + 7) = σ 8 i ∧ f' (12 * i + 8) = σ 9 i ∧ f' (12 * i + 9) = σ 5 i ∧
      (σ 11 i = 0 → σ 10 i = -1) ∧ (¬ σ 11 i = 0 → f' (12 * i + 10) = σ 10 i) ∧ f' (12 * i + 11) = σ 11 i
    rw [e i 0 hi (by omega), e i 1 hi (by omega), e i 2 hi (by omega), e i 3 hi (by omega), e i 4 hi (by omega), e i 5 hi (by omega), e i 6 hi (by omega), e i 7 hi (by omega), e i 8 hi (by omega), e i 9 hi (by omega), e i 11 hi (by omega), s0, s1, s2, s3, s4, s5, s6, s7, s8, s9, s10, s11]
    exact ⟨rfl, rfl, rfl, rfl, rfl, rfl, rfl, rfl, rfl, rfl, fun _ => rfl, fun x => absurd rfl x, rfl⟩
  · rw [h1 _ (by omega)]; exact a2 288 (by omega) (by omega)
  · rw [h1 _ (by omega)]; exact a2 289 (by omega) (by omega)
  · rw [h1 _ (by omega)]; exact a5
  · rw [h1 _ (by omega), a3 r hr]; exact (hca r hr).symm
  · rw [h1 _ (by omega), show 10146 + 397 * i + h = 10146 + (397 * i + h) by omega]; exact a4 _ (by omega)
theorem start_KM0 {c se R f σ ca} (hck : CK c se R) (hs : ∀ i, i < R → stc c i σ) (hca : ∀ r, r < 12 → ca r = -2) (sm : SM c R f) : KM f R [] (asS σ 0 [] [] ca) :=
  start_KM hck hs hca sm (fun _ _ => rfl) (sm.2.1 291 (by omega) (by omega)) (sm.2.1 293 (by omega) (by omega)) ⟨sm.2.1 290 (by omega) (by omega), fun q x hx => by cases hx⟩ ⟨sm.2.1 292 (by omega) (by omega), fun q x hx => by cases hx⟩
theorem start_BK {w : PW} {R : Nat} {rl : Nat → Nat → Int32} (h62 : gI w (1, 62) 6 = 0) (h65 : ∀ i, i < 24 → gI w (1, 65) i = 0) (h24 : R ≤ 24) : BK w 1 R 0 rl (fun _ _ => 0) [] := by
  refine ⟨h62, trivial, fun i h hi h1 h2 => absurd h1 (by omega), fun i h hi hh => ?_⟩
  obtain rfl : h = 0 := by omega
  rw [show 0 * 24 + i = i by omega]; exact h65 i (by omega)
theorem BK_65 {w : PW} {R hr : Nat} {rl : Nat → Nat → Int32} {rf : Nat → Nat → Nat} {M : List M4} (h : BK w 1 R hr rl rf M) : ∀ i, i < 24 → gI w (1, 65) i = 0 := by
  intro i hi
  have := h.2.2.2 i 0 (Or.inr ⟨hi, rfl⟩) (Nat.zero_le _)
  rw [show 0 * 24 + i = i by omega] at this; exact this
theorem EC_2 {w R cr se RL} (he : EC w R cr se RL) : ∀ i, i < R → ¬ cf w 2 i = 0 := fun i hi e => by
  have := (he.2.2.2.2.1.2.2.2 i hi).2.2.1; rw [e, tl0] at this; omega
theorem stc_c {c c' i σ} (h : ceq c c') (hs : stc c' i σ) : stc c i σ := by
  unfold stc at hs ⊢; rw [lv_c h, h 4 (by omega), h 5 (by omega), h 6 (by omega), h 8 (by omega)] at hs; exact hs
theorem o_again {n w} (hi : Inv n w) : OP n w 72 155 [] := by
  obtain ⟨R, cr, se, c, RL, PL, MK, A, M, WT, TP, v, rf, hv', ic, im, io⟩ := hi
  have ic0 := ic
  have im0 := im
  obtain ⟨c1, c2, c3, c4, c5, c6, c7, c8, c9⟩ := ic
  have hck : CK c se R := CK.c c2.symm c1.2.2.2.2.1
  show Cl 72 [vO 0 0] w _
  apply v_X9_again_0
  apply v_X9_startAnew_0
  refine c_startFrom c1.1 hck.2.1 (EC_2 c1) ?_
  intro w1 σ ca q1 q2 q3 q4
  have q2' : ∀ i, i < R → stc c i σ := fun i hi => stc_c c2 (q2 i hi)
  have fr : ∀ a j, inK a j → gI (sI w1 (1, 62) 6 0) (a, j) = gI w (a, j) := fun a j h => by
    rw [sI_ne (by unfold inK at h; omega)]; exact q4.2 a j (by unfold inK at h; unfold wg tg; omega)
  have lv1 : LV1 (sI w1 (1, 62) 6 0) 1 R (asS σ 0 [] [] ca) [] := by
    refine ⟨KC_fr (fun j a b => sI_ne (by omega)) (fun j a b => sI_ne (by omega)) (fun j a b => sI_ne (by omega)) q1, start_BK gI_sat (fun i hi => ?_) hck.2.1⟩
    rw [sI_ne (by omega), q4.2 1 65 (by unfold wg tg; omega)]; exact BK_65 c5.2 i hi
  have ic1 : IC (sI w1 (1, 62) 6 0) R cr se c RL PL MK (asS σ 0 [] [] ca) [] WT TP v rf := IC_live fr (fun d => by unfold gL; exact congrFun (congrFun q4.1 71) d) lv1 ic0
  have im1 : IM (sI w1 (1, 62) 6 0) R cr se c RL PL MK A M WT TP v rf := IM_FC (q4.fc.tr (FC_s (by omega))) im0
  generalize sI w1 (1, 62) 6 0 = w2 at ic1 im1
  obtain ⟨m1, m2, m3, m4, m5, m6, m7, m8⟩ := id im1
  show Cl 155 [vO 0 90] w2 _
  apply v_X10_again_0
  refine m_starts m1.1 hck m2 ?_
  intro f sm
  refine ⟨rfl, Inv.mk (by omega) (IC_FN (FN_a (by omega)) ic1) (IM_live (fun g j hj => aI_ne (by omega)) (fun q _ _ => by rw [aI_ne (by omega)]) rfl (by rw [gI_aI]; exact start_KM0 hck q2' q3 sm) im1) (IO_live io (start_RO hck q2' q3 (Nat.zero_le _) (Nat.zero_le _) (fun x hx => by cases hx) (fun x hx => by cases hx)))⟩
/-! FITS -/
theorem MB_a {s : Nat} {w : PW} {f : Nat → Int32} : MB s w (aI w (s, 114) f) := ⟨rfl, fun g j hh => aI_ne (by omega), fun q _ => by rw [aI_ne (by omega)]⟩
theorem o_fits {n w} {a b : Int32} (hi : Inv n w) : OP n w 86 174 [vI a, vI b] := by
  have hi0 := hi
  obtain ⟨R, cr, se, c, RL, PL, MK, A, M, WT, TP, v, rf, hv', ic, im, io⟩ := hi
  have ic0 := ic
  have im0 := im
  obtain ⟨c1, c2, c3, c4, c5, c6, c7, c8, c9⟩ := ic
  have hck : CK c se R := CK.c c2.symm c1.2.2.2.2.1
  have fin : ∀ z, kI (fun y w2 => y = z ∧ Inv (n + 1) w2) (.inl z) w := fun z => ⟨rfl, hi0.up (by omega)⟩
  have no : ¬ ((0 ≤ a ∧ a ≤ 3) ∧ (1 ≤ b ∧ b ≤ 96)) → kI (fun x w1 => Cl 174 (vO 0 90 :: [vI a, vI b]) w1 (kI fun y w2 => y = x ∧ Inv (n + 1) w2)) (.inl (-1)) w := by
    intro hn
    show Cl 174 [vO 0 90, vI a, vI b] w _
    apply v_X10_fits_0
    exact bbi (fun g1 => bbj (fun g2 => absurd ⟨g1, g2⟩ hn) (fun _ => fin _)) (fun _ => fin _)
  show Cl 86 [vO 0 0, vI a, vI b] w _
  apply v_X9_fits_0
  refine ⟨bb_01, bbi (fun g1 => ⟨bb_01, bbj (fun g2 => ?_) (fun g => no (fun x => g x.2))⟩) (fun g => no (fun x => g x.1))⟩
  obtain ⟨wi, hwi, rfl⟩ : ∃ i : Nat, i < 4 ∧ a = nI i := by
    refine ⟨a.toInt.toNat, ?_, ?_⟩
    · have := g1.1; have := g1.2; rw [ti_le, tl3] at *; omega
    · have h1 := g1.1; have h2 := g1.2
      rw [ti_le, tl0] at h1; rw [ti_le, tl3] at h2
      rw [ti_eq, ti_nI (by omega)]; omega
  obtain ⟨N, hN, hN1, rfl⟩ : ∃ i : Nat, i ≤ 96 ∧ 1 ≤ i ∧ b = nI i := by
    have h1 := g2.1; have h2 := g2.2
    rw [ti_le, tl1] at h1; rw [ti_le, show (96 : Int32).toInt = 96 from rfl] at h2
    exact ⟨b.toInt.toNat, by omega, by omega, by rw [ti_eq, ti_nI (by omega)]; omega⟩
  have hwo := io.2.2.2.1 wi hwi
  refine c_startFrom c1.1 hck.2.1 (EC_2 c1) ?_
  intro w1 σ ca q1 q2 q3 q4
  have q2' : ∀ i, i < R → stc c i σ := fun i hi => stc_c c2 (q2 i hi)
  have ro := start_RO (dn := 0) (W := []) (K := []) hck q2' q3 (Nat.zero_le _) (Nat.zero_le _) (fun x hx => by cases hx) (fun x hx => by cases hx)
  have kc : KC w1 2 [] (asS σ 0 [] [] ca) := q1
  refine c_fitsrun (A := asS σ 0 [] [] ca) (M := []) (EC_of (fun j hj => q4.2 0 j (by unfold wg tg; omega)) c1) (c2.tr q4.ceq) hwi (WTc_sn q4 (c6 wi hwi)) hwo (MKc_fr (fun j x y => q4.2 0 j (by unfold wg tg; omega)) c4) io.2.1 hN (by show 0 + N ≤ 396; omega) ro.1 ro.2.1 kc ?_
  intro w2 p1
  have sn : SN 2 w w2 := q4.tr p1
  have im1 := IM_FC sn.fc im0
  have ic1 : IC w2 R cr se c RL PL MK A M WT TP v rf := IC_live (A := A) (M := M) (fun g j hj => sn.2 g j (by unfold inK at hj; unfold wg tg; omega)) (fun d => by unfold gL; rw [sn.1]) (LV1_fr (fun j _ _ => sn.2 _ _ (by unfold wg tg; omega)) (fun j _ _ => sn.2 _ _ (by unfold wg tg; omega)) (fun j _ _ => sn.2 _ _ (by unfold wg tg; omega)) (fun j _ _ => sn.2 _ _ (by rw [bg1]; unfold wg tg; omega)) c5) ic0
  obtain ⟨m1, m2, m3, m4, m5, m6, m7, m8⟩ := id im1
  show Cl 174 [vO 0 90, vI (nI wi), vI (nI N)] w2 _
  apply v_X10_fits_0
  refine bbi (fun _ => bbj (fun _ => ?_) (fun e => absurd g2 e)) (fun e => absurd g1 e)
  refine m_starts m1.1 hck m2 ?_
  intro f sm
  have km : KM (gI (aI w2 (2, 114) f) (2, 114)) R [] (asS σ 0 [] [] ca) := by rw [gI_aI]; exact start_KM0 hck q2' q3 sm
  have mb : MB 2 w2 (aI w2 (2, 114) f) := MB_a
  refine m_fitsrun (A := asS σ 0 [] [] ca) (M := []) (EM_mb mb m1) hck (CE_fr (fun j hj => mb.2.1 0 j (by omega)) m2) hwi (WTm_fr (fun j hj => mb.2.1 0 j (by omega)) (m5 wi hwi)) hwo (MKm_fr (mb.2.2 35 (by omega)) (fun j x y => mb.2.1 0 j (by omega)) m3) io.2.1 hN1 hN (by show 0 + N ≤ 396; omega) ro.1 ro.2.1 km ?_
  intro w3 p2
  have mb2 := mb.tr p2
  exact ⟨rfl, Inv.mk (by omega) (IC_FN mb2.fm ic1) (IM_MB2 mb2 im1) io⟩

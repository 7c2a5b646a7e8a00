/-! trial, worst, taken as calls */ -/
theorem IC_SB2 {w w' R cr se c RL PL MK A M WT TP v rf} (h : SB 2 ((aH A + 1) * 24) w w') (h24 : R ≤ 24) (hi : IC w R cr se c RL PL MK A M WT TP v rf) : IC w' R cr se c RL PL MK A M WT TP v rf :=
  IC_fr (fun g j hj => h.2.1 g j (by unfold inC at hj; rw [bg2]; unfold wg tg; omega)) (fun d => by unfold gL; rw [h.1]) (fun _ => (TFl h (Nat.le_refl _) h24 hi.2.2.2.2.1).2) hi
theorem i_rng {x : Int32} {lo hi : Nat} (h : nI lo ≤ x ∧ x ≤ nI hi) (hh : hi < 2147483648) (hl : lo < 2147483648) : ∃ m : Nat, lo ≤ m ∧ m ≤ hi ∧ x = nI m := by
  have h1 := h.1
  have h2 := h.2
  rw [ti_le, ti_nI (by omega)] at h1 h2
  exact ⟨x.toInt.toNat, by omega, by omega, by rw [ti_eq, ti_nI (by omega)]; omega⟩
theorem o_trial {n w} {a b d : Int32} (hi : Inv n w) : OP n w 81 167 [vI a, vI b, vI d] := by
  have hi0 := hi
  obtain ⟨R, cr, se, c, RL, PL, MK, A, M, WT, TP, v, rf, hv', ic, im, io⟩ := hi
  have ic0 := ic
  have im0 := im
  obtain ⟨c1, c2, c3, c4, c5, c6, c7, c8, c9⟩ := ic
  obtain ⟨m1, m2, m3, m4, m5, m6, m7, m8⟩ := im
  obtain ⟨o1, o2, o3, o4, o5⟩ := io
  have hck : CK c se R := CK.c c2.symm c1.2.2.2.2.1
  have no : ¬ ((0 ≤ a ∧ a ≤ (1 <<< (nI PL.length &&& 31)) - 1) ∧ (0 ≤ b ∧ b ≤ 3) ∧ (1 ≤ d ∧ d ≤ 96)) → kI (fun x w1 => Cl 167 (vO 0 90 :: [vI a, vI b, vI d]) w1 (kI fun y w2 => y = x ∧ Inv (n + 1) w2)) (.inl (-1)) w := by
    intro hn
    show Cl 167 [vO 0 90, vI a, vI b, vI d] w _
    have fin : kI (fun y w2 => y = -1 ∧ Inv (n + 1) w2) (.inl (-1)) w := ⟨rfl, hi0.up (by omega)⟩
    apply v_X10_trial_0
    rw [m1.2.2.2.2.2.2.1.1]
    exact ⟨bb_01, bbi (fun g1 => bbi (fun g2 => bbi (fun g3 => absurd ⟨g1, g2, g3⟩ hn) (fun _ => fin)) (fun _ => fin)) (fun _ => fin)⟩
  apply v_X9_trial_0
  rw [c3.1]
  refine ⟨bb_01, bbi (fun g1 => ⟨bb_01, bbi (fun g2 => ⟨bb_01, bbj (fun g3 => ?_) (fun g => no (fun x => g x.2.2))⟩) (fun g => no (fun x => g x.2.1))⟩) (fun g => no (fun x => g x.1))⟩
  obtain ⟨wi, _, hwi, rfl⟩ := i_rng (lo := 0) (hi := 3) g2 (by omega) (by omega)
  obtain ⟨N, _, hN, rfl⟩ := i_rng (lo := 1) (hi := 96) g3 (by omega) (by omega)
  rw [nI_s1]
  refine C_mostHarm (Z := 1) c1 c2 c6 o4 c3 o1 (by omega) hN o3 c5 ?_
  intro w1 x q1 q2
  have hb := hv_b (cr := cr) (set := a) hck c1.2.2.2.2.2.2 (o4 wi (by omega)) o1 o3 hN
  have ev : vm (fun b => hv c se R cr RL PL M A (WT b) a N) wi 1 = hv c se R cr RL PL M A (WT wi) a N := by
    show jmax 0 (hv c se R cr RL PL M A (WT (wi + 0)) a N) = _
    rw [Nat.add_zero, ti_eq, jmax_ti, tl0]; split <;> omega
  rw [ev] at q2
  have ex : x = hv c se R cr RL PL M A (WT wi) a N := q2.1 (by rw [ti_lt]; show _ < (2147483647 : Int); omega)
  have im1 := IM_FC q1.fc im0
  have ic1 := IC_SB2 q1 hck.2.1 ic0
  obtain ⟨m1, m2, m3, m4, m5, m6, m7, m8⟩ := im1
  have im1 := IM_FC q1.fc im0
  show Cl 167 [vO 0 90, vI a, vI (nI wi), vI (nI N)] w1 _
  apply v_X10_trial_0
  rw [m1.2.2.2.2.2.2.1.1]
  refine ⟨bb_01, bbi (fun _ => bbi (fun _ => bbi (fun _ => ?_) (fun e => absurd g3 e)) (fun e => absurd g2 e)) (fun e => absurd g1 e)⟩
  refine M_harmOf m1 hck m2 (by omega) (m5 wi (by omega)) (o4 wi (by omega)) o1 hN o3 m4 ?_
  intro w2 p1
  exact ⟨ex.symm, Inv.mk (by omega) (IC_FN p1.fm ic1) (IM_MB2 p1 im1) ⟨o1, o2, o3, o4, o5⟩⟩
theorem vm_100 {c se R cr RL PL M A} {WT : Nat → WW} {set : Int32} {N : Nat} (hck : CK c se R) (hro : RUo R RL) (hwo : ∀ b, b < 4 → WTo (WT b).1 (WT b).2.1 (WT b).2.2) (hpl : PLo R PL) (hr : RO c R A M) (hN : N ≤ 96) {Z : Nat} (hZ : Z ≤ 4) :
    (vm (fun b => hv c se R cr RL PL M A (WT b) set N) 0 Z).toInt ≤ 100000000 :=
  vm_b (by omega) Z (fun i hi => (hv_b (cr := cr) (set := set) hck hro (hwo (0 + i) (by omega)) hpl hr hN).2.2)
theorem o_worst {n w} {a b d : Int32} (hi : Inv n w) : OP n w 83 171 [vI a, vI b, vI d] := by
  have hi0 := hi
  obtain ⟨R, cr, se, c, RL, PL, MK, A, M, WT, TP, v, rf, hv', ic, im, io⟩ := hi
  have ic0 := ic
  have im0 := im
  obtain ⟨c1, c2, c3, c4, c5, c6, c7, c8, c9⟩ := ic
  obtain ⟨m1, m2, m3, m4, m5, m6, m7, m8⟩ := im
  obtain ⟨o1, o2, o3, o4, o5⟩ := io
  have hck : CK c se R := CK.c c2.symm c1.2.2.2.2.1
  have no : ¬ ((0 ≤ a ∧ a ≤ (1 <<< (nI PL.length &&& 31)) - 1) ∧ (1 ≤ b ∧ b ≤ 4) ∧ (1 ≤ d ∧ d ≤ 96)) → kI (fun x w1 => Cl 171 (vO 0 90 :: [vI a, vI b, vI d]) w1 (kI fun y w2 => y = x ∧ Inv (n + 1) w2)) (.inl (-1)) w := by
    intro hn
    show Cl 171 [vO 0 90, vI a, vI b, vI d] w _
    have fin : kI (fun y w2 => y = -1 ∧ Inv (n + 1) w2) (.inl (-1)) w := ⟨rfl, hi0.up (by omega)⟩
    apply v_X10_worst_0
    rw [m1.2.2.2.2.2.2.1.1]
    exact ⟨bb_01, bbi (fun g1 => bbi (fun g2 => bbi (fun g3 => absurd ⟨g1, g2, g3⟩ hn) (fun _ => fin)) (fun _ => fin)) (fun _ => fin)⟩
  apply v_X9_worst_0
  rw [c3.1]
  refine ⟨bb_01, bbi (fun g1 => bbi (fun g2 => ⟨bb_01, bbj (fun g3 => ?_) (fun g => no (fun x => g x.2.2))⟩) (fun g => no (fun x => g x.2.1))) (fun g => no (fun x => g x.1))⟩
  obtain ⟨Z, _, hZ, rfl⟩ := i_rng (lo := 1) (hi := 4) g2 (by omega) (by omega)
  obtain ⟨N, _, hN, rfl⟩ := i_rng (lo := 1) (hi := 96) g3 (by omega) (by omega)
  have cm' := C_mostHarm (a := 0) (Z := Z) (N := N) (set := a) (e5 := 2147483647) (k := fun x w1 => kI (fun x w1 => Cl 171 (vO 0 90 :: [vI a, vI (nI Z), vI (nI N)]) w1 (kI fun y w2 => y = x ∧ Inv (n + 1) w2)) (.inl x) w1) c1 c2 c6 o4 c3 o1 (by omega) hN o3 c5
  rw [Nat.zero_add] at cm'
  refine cm' ?_
  intro w1 x q1 q2
  have ex : x = vm (fun b => hv c se R cr RL PL M A (WT b) a N) 0 Z := q2.1 (by
    have := vm_100 (cr := cr) (set := a) hck c1.2.2.2.2.2.2 o4 o1 o3 hN hZ
    rw [ti_lt]; show _ < (2147483647 : Int); omega)
  have im1 := IM_FC q1.fc im0
  have ic1 := IC_SB2 q1 hck.2.1 ic0
  obtain ⟨m1, m2, m3, m4, m5, m6, m7, m8⟩ := im1
  have im1 := IM_FC q1.fc im0
  show Cl 171 [vO 0 90, vI a, vI (nI Z), vI (nI N)] w1 _
  apply v_X10_worst_0
  rw [m1.2.2.2.2.2.2.1.1]
  refine ⟨bb_01, bbi (fun _ => bbi (fun _ => bbi (fun _ => ?_) (fun e => absurd g3 e)) (fun e => absurd g2 e)) (fun e => absurd g1 e)⟩
  refine M_worstOf m1 hck m2 m5 o4 o1 hZ hN o3 m4 ?_
  intro w2 p1
  exact ⟨ex.symm, Inv.mk (by omega) (IC_FN p1.fm ic1) (IM_MB2 p1 im1) ⟨o1, o2, o3, o4, o5⟩⟩
/-! bits */ -/
def cnb (s : Nat) : Nat → Nat → Nat
  | _, 0 => 0
  | k, n + 1 => (if bit (nI s) k = true then 1 else 0) + cnb s (k + 1) n
theorem bt_1 : (List.range 256).all (fun s => decide (jbc (nI s) = nI (cnb s 0 8))) = true := by decide +kernel
theorem bt_2 : (List.range 9).all (fun p => (List.range (2 ^ p)).all fun s => decide (cnb s 0 p = cnb s 0 8)) = true := by decide +kernel
theorem bt_3 : (List.range 256).all (fun s => decide (s = 0 ∨ (nI s &&& (nI s - 1) = nI (s &&& (s - 1)) ∧ s &&& (s - 1) < s ∧ cnb s 0 8 = cnb (s &&& (s - 1)) 0 8 + 1))) = true := by decide +kernel
theorem bt_4 : (List.range 9).all (fun p => decide ((1 : Int32) <<< (nI p &&& 31) = nI (2 ^ p))) = true := by decide +kernel
theorem all_r {n : Nat} {P : Nat → Bool} (h : (List.range n).all P = true) {i : Nat} (hi : i < n) : P i = true := List.all_eq_true.mp h i (List.mem_range.mpr hi)
theorem jbc_e {s : Nat} (h : s < 256) : jbc (nI s) = nI (cnb s 0 8) := of_decide_eq_true (all_r bt_1 h)
theorem cnb_p {p s : Nat} (hp : p ≤ 8) (h : s < 2 ^ p) : cnb s 0 p = cnb s 0 8 := of_decide_eq_true (all_r (all_r bt_2 (show p < 9 by omega)) h)
theorem shl_e {p : Nat} (hp : p ≤ 8) : (1 : Int32) <<< (nI p &&& 31) = nI (2 ^ p) := of_decide_eq_true (all_r bt_4 (show p < 9 by omega))
theorem pw_le {p : Nat} (hp : p ≤ 8) : 1 ≤ 2 ^ p ∧ 2 ^ p ≤ 256 := by
  rcases (show p = 0 ∨ p = 1 ∨ p = 2 ∨ p = 3 ∨ p = 4 ∨ p = 5 ∨ p = 6 ∨ p = 7 ∨ p = 8 by omega) with rfl | rfl | rfl | rfl | rfl | rfl | rfl | rfl | rfl <;> decide
theorem cnb_le {s : Nat} : ∀ n k, cnb s k n ≤ n := by
  intro n
  induction n with
  | zero => intro _; exact Nat.le_refl _
  | succ n ih => intro k; have := ih (k + 1); unfold cnb; split <;> omega
theorem m_bits {w k} {s : Nat} (hs : s < 256) (hk : k (nI (cnb s 0 8)) w) : Cl 169 [vI (nI s)] w (kI k) := by
  apply v_X10_bits_0
  have main : ∀ n s acc : Nat, s ≤ n → s < 256 → k (nI (acc + cnb s 0 8)) w → Wp 169 4 [none, some (.inl (nI acc)), some (.inl (nI s))] [] w (kI k) := by
    intro n
    induction n with
    | zero =>
      intro s acc h1 h2 h3
      obtain rfl : s = 0 := by omega
      apply v_X10_bits_4
      refine ⟨fun _ => ?_, fun e => absurd rfl e⟩
      rw [show cnb 0 0 8 = 0 by decide, Nat.add_zero] at h3; exact h3
    | succ n ih =>
      intro s acc h1 h2 h3
      have b3 := of_decide_eq_true (all_r bt_3 h2)
      apply v_X10_bits_4
      refine ⟨fun e => ?_, fun e => ?_⟩
      · have : s = 0 := (nI_inj (b := 0) (by omega) (by omega)).mp e
        subst this
        rw [show cnb 0 0 8 = 0 by decide, Nat.add_zero] at h3; exact h3
      · rcases b3 with b3 | ⟨b3, b4, b5⟩
        · subst b3; exact absurd rfl e
        · rw [b3, nI_s1]
          refine ih _ (acc + 1) (by omega) (by omega) ?_
          rw [b5] at h3
          rw [show acc + 1 + cnb (s &&& (s - 1)) 0 8 = acc + (cnb (s &&& (s - 1)) 0 8 + 1) by omega]; exact h3
  exact main s s 0 (Nat.le_refl _) hs (by rw [Nat.zero_add]; exact hk)
theorem selL_len {s : Nat} {fr : Int32} : ∀ (l : List A3) (k : Nat), (selL (nI s) fr k l).length = cnb s k l.length := by
  intro l
  induction l with
  | nil => intro _; rfl
  | cons x l ih =>
    intro k
    show (if bit (nI s) k = true then _ else _ : List A3).length = (if bit (nI s) k = true then 1 else 0) + cnb s (k + 1) l.length
    rw [← ih (k + 1)]
    split
    · rw [List.length_cons]; omega
    · omega
theorem set_rng {p : Nat} {a : Int32} (hp : p ≤ 8) (h : 0 ≤ a ∧ a ≤ (1 <<< (nI p &&& 31)) - 1) : ∃ s : Nat, s < 2 ^ p ∧ s < 256 ∧ a = nI s := by
  obtain ⟨p1, p2⟩ := pw_le hp
  rw [shl_e hp, show (1 : Int32) = nI 1 from rfl, nI_sb (by omega)] at h
  obtain ⟨m, _, h2, h3⟩ := i_rng (lo := 0) (hi := 2 ^ p - 1) h (by omega) (by omega)
  exact ⟨m, by omega, by omega, h3⟩
/-! taken */ -/
def MTk (m m' : Nat → Int32) : Prop := ∀ q, ¬ (q = 292 ∨ (374 ≤ q ∧ q < 446)) → m' q = m q
theorem and1 (x : Int32) : x &&& 1 = 0 ∨ x &&& 1 = 1 := by
  have h : (x &&& 1).toBitVec = 0#32 ∨ (x &&& 1).toBitVec = 1#32 := by
    rw [Int32.toBitVec_and]
    generalize x.toBitVec = b
    show b &&& 1#32 = 0#32 ∨ b &&& 1#32 = 1#32
    have e : (b &&& 1#32).toNat = b.toNat % 2 := by rw [BitVec.toNat_and]; exact Nat.and_one_is_mod _
    rcases Nat.mod_two_eq_zero_or_one b.toNat with g | g
    · left; apply BitVec.eq_of_toNat_eq; rw [e, g]; rfl
    · right; apply BitVec.eq_of_toNat_eq; rw [e, g]; rfl
  rcases h with h | h
  · left; exact Int32.toBitVec_inj.mp h
  · right; exact Int32.toBitVec_inj.mp h
theorem m_taken_loop {w k set} {m : Nat → Int32} {hr : Nat} {PL : List A3} (hp : PLm w PL) (hp8 : PL.length ≤ 8) (hh : m 288 = nI hr) : ∀ (l : List A3) (i : Nat) (m1 : Nat → Int32) (K : List A3), i + l.length = PL.length → (∀ q x, l[q]? = some x → PL[i + q]? = some x) → K.length + (selL set (nI hr) i l).length ≤ 24 → TM m1 K → MTk m m1 →
    (∀ m', TM m' (K ++ selL set (nI hr) i l) → MTk m m' → Cl 169 [.inl set] (aI w (1, 114) m') (kI k)) →
    Wp 172 33 [some (.inr (.inr (0, 90))), some (.inl set), some (.inl (nI i)), none] [] (aI w (1, 114) m1) (kI k) := by
  intro l
  induction l with
  | nil =>
    intro i m1 K hi hx hK hT hm hk
    rw [List.length_nil] at hi
    apply v_X10_taken_33
    rw [gI_ao (j := 90) rfl, hp.1]
    refine ⟨fun _ => ?_, fun e => absurd e (by rw [lt_nI (by omega) (by omega)]; omega)⟩
    exact hk m1 (by rw [show selL set (nI hr) i [] = [] from rfl, List.append_nil]; exact hT) hm
  | cons x l ih =>
    intro i m1 K hi hx hK hT hm hk
    rw [List.length_cons] at hi
    have hx0 := hx 0 x rfl
    rw [Nat.add_zero] at hx0
    obtain ⟨p1, p2, p3⟩ := hp.2 i x hx0
    have hx' : ∀ q y, l[q]? = some y → PL[i + 1 + q]? = some y := fun q y hy => by
      have := hx (q + 1) y hy
      rw [show i + (q + 1) = i + 1 + q by omega] at this; exact this
    have i8 : vp_in (nI i) 8 := in_nI (by omega) (by omega)
    have e : selL set (nI hr) i (x :: l) = if bit set i = true then (nI hr + x.1, x.2) :: selL set (nI hr) (i + 1) l else selL set (nI hr) (i + 1) l := rfl
    apply v_X10_taken_33
    rw [gI_ao (j := 90) rfl, hp.1, gI_ao (j := 108) rfl, gI_ao (j := 109) rfl, gI_ao (j := 110) rfl, cl_nI (by omega), p1, p2, p3]
    refine ⟨fun e => absurd e (by rw [le_nI (by omega) (by omega)]; omega), fun _ => ⟨fun g1 => ?_, fun g1 => ?_⟩⟩
    · have b1 : bit set i = true := decide_eq_true ((and1 _).resolve_left g1)
      rw [e, if_pos b1] at hK hk
      rw [List.length_cons] at hK
      have h288 : m1 288 = nI hr := by rw [hm 288 (by omega)]; exact hh
      have i292 : vp_in 292 19675 := in_nI (j := 292) (by omega) (by omega)
      rw [gI_aI, hT.1, h288, ix_t, nI_s1, nI_p2, cl_nI (by omega), cl_nI (by omega), cl_nI (by omega), sI_aI, sI_aI, sI_aI, gI_aI]
      rw [ub_ne (show Nat.beq 292 (374 + 3 * K.length + 2) = false from beq_f (by omega)), ub_ne (show Nat.beq 292 (374 + 3 * K.length + 1) = false from beq_f (by omega)), ub_ne (show Nat.beq 292 (374 + 3 * K.length) = false from beq_f (by omega)), hT.1, nI_s1, sI_aI, nI_s1]
      refine ⟨i292, in_nI (j := 288) (by omega) (by omega), i8, in_nI (by omega) (by omega), i8, in_nI (by omega) (by omega), i8, in_nI (by omega) (by omega), i292, i292, ?_⟩
      refine ih (i + 1) _ (K ++ [(nI hr + x.1, x.2)]) (by omega) hx' (by rw [List.length_append, List.length_singleton]; omega) ⟨by rw [ub_same, List.length_append]; rfl, fun q y hy => ?_⟩ (fun q hq => ?_) ?_
      · rcases push_at hy with ⟨g3, g4⟩ | ⟨g3, g4⟩
        · simp only [ub_eq]
          rw [if_neg (by omega), if_neg (by omega), if_neg (by omega), if_neg (by omega), if_neg (by omega), if_neg (by omega), if_neg (by omega), if_neg (by omega), if_neg (by omega), if_neg (by omega), if_neg (by omega), if_neg (by omega)]
          exact hT.2 q y g3
        · subst g3 g4
          simp only [ub_eq]
          rw [if_neg (by omega), if_neg (by omega), if_neg (by omega), if_pos trivial, if_neg (by omega), if_neg (by omega), if_pos trivial, if_neg (by omega), if_pos trivial]
          exact ⟨rfl, rfl, rfl⟩
      · simp only [ub_eq]
        rw [if_neg (by omega), if_neg (by omega), if_neg (by omega), if_neg (by omega)]; exact hm q hq
      · intro m' q1 q2
        rw [List.append_assoc] at q1
        exact hk m' q1 q2
    · have b1 : bit set i = false := decide_eq_false (fun x => by rw [x] at g1; exact absurd g1 (by decide))
      rw [e, b1] at hK hk
      rw [nI_s1]
      exact ih (i + 1) m1 K (by omega) hx' hK hT hm hk
theorem KM_taken {m m' R M A K} (h : KM m R M A) (hb : M.length ≤ 40) (h24 : R ≤ 24) (hw : (aW A).length ≤ 40) (hm : MTk m m') (hT : TM m' K) : KM m' R M (aS A, aH A, aM A, aD A, aT A, aW A, K, aC A, aR A, aF A) := by
  obtain ⟨k1, k2, k3, k4, k5, k6, k7, k8, k9, k10⟩ := h
  refine KM_mk (fun i hi => ?_) ((hm _ (by omega)).trans k2) ((hm _ (by omega)).trans k3) ((hm _ (by omega)).trans k4) ((hm _ (by omega)).trans k5) ⟨(hm _ (by omega)).trans k6.1, fun q x hx => ?_⟩ hT (fun r hr => (hm _ (by omega)).trans (k8 r hr)) (BKM_fr (fun q hq1 _ => hm q (by omega)) hb h24 k9) k10
  · have e : ∀ f, f < 12 → m' (12 * i + f) = m (12 * i + f) := fun f hf => hm _ (by omega)
    have := k1 i hi
    simp only [e 0 (by omega), e 1 (by omega), e 2 (by omega), e 3 (by omega), e 4 (by omega), e 5 (by omega), e 6 (by omega), e 7 (by omega), e 8 (by omega), e 9 (by omega), e 10 (by omega), e 11 (by omega)]
    exact this
  · have hq : q < (aW A).length := (List.getElem?_eq_some_iff.mp hx).1
    rw [hm _ (by omega), hm _ (by omega)]; exact k6.2 q x hx
theorem o_taken {n w} {a : Int32} (hi : Inv n w) : OP n w 84 172 [vI a] := by
  have hi0 := hi
  obtain ⟨R, cr, se, c, RL, PL, MK, A, M, WT, TP, v, rf, hv', ic, im, io⟩ := hi
  have ic0 := ic
  have im0 := im
  obtain ⟨c1, c2, c3, c4, c5, c6, c7, c8, c9⟩ := ic
  obtain ⟨m1, m2, m3, m4, m5, m6, m7, m8⟩ := im
  have io0 := io
  obtain ⟨o1, o2, o3, o4, o5⟩ := io
  have hck : CK c se R := CK.c c2.symm c1.2.2.2.2.1
  have p8 := o1.1
  have k24 := o3.1.2.2.2.2.1
  have fin : ∀ z, kI (fun y w2 => y = z ∧ Inv (n + 1) w2) (.inl z) w := fun z => ⟨rfl, hi0.up (by omega)⟩
  have hcs : gI w (103, 54) 3 = nI (aK A).length := by
    have := c5.1.2.2.2.2.2.2.1.1
    rw [List.filter_nil, List.append_nil] at this; exact this
  have hms : gI w (1, 114) 292 = nI (aK A).length := m4.2.2.2.2.2.2.1.1
  apply v_X9_taken_0
  rw [c3.1, hcs]
  refine ⟨bb_01, bbj (fun g1 => ?_) (fun g1 => ?_)⟩
  · obtain ⟨s, hs1, hs2, rfl⟩ := set_rng p8 g1
    have cl := cnb_le (s := s) 8 0
    have sl := selL_len (s := s) (fr := nI (aH A)) PL 0
    rw [cnb_p p8 hs1] at sl
    rw [jbc_e hs2, nI_ad, show (24 : Int32) = nI 24 from rfl]
    refine ⟨fun g2 => ?_, fun g2 => ?_⟩
    · have g2' := g2
      rw [le_nI (by omega) (by omega)] at g2
      have kc := c5.1
      have kc' : CSt w 1 (aS A) (nI (aH A)) (aM A) (aD A) (aT A) (aW A) (aK A) (aC A) := by
        have : CSt w 1 (aS A) (nI (aH A)) (aM A) (aD A) (aT A) (aW A) (aK A ++ ([] : List A3).filter (lat (aH A))) (aC A) := kc
        rw [List.filter_nil, List.append_nil] at this; exact this
      refine c_takeSet (g := 1) (by omega) c3 p8 k24 kc' ?_
      intro w1 q1 q2
      have im1 := IM_FC q2.fc im0
      have ic1 : IC w1 R cr se c RL PL MK (aS A, aH A, aM A, aD A, aT A, aW A, aK A ++ selL (nI s) (nI (aH A)) 0 PL, aC A, aR A, aF A) M WT TP v rf := by
        refine IC_live (A := A) (M := M) (fun g j hj => q2.2 g j (by unfold inK at hj; unfold wg tg; omega)) (fun d => by unfold gL; rw [q2.1]) ⟨?_, BK_fr (fun j _ _ => q2.2 _ _ (by omega)) c5.2⟩ ic0
        show CSt w1 1 (aS A) (nI (aH A)) (aM A) (aD A) (aT A) (aW A) ((aK A ++ selL (nI s) (nI (aH A)) 0 PL) ++ ([] : List A3).filter (lat (aH A))) (aC A)
        rw [List.filter_nil, List.append_nil]; exact q1
      obtain ⟨m1, m2, m3, m4, m5, m6, m7, m8⟩ := im1
      have im1 := IM_FC q2.fc im0
      show Cl 172 [vO 0 90, vI (nI s)] w1 _
      apply v_X10_taken_0
      rw [m1.2.2.2.2.2.2.1.1, m4.2.2.2.2.2.2.1.1]
      refine ⟨bb_01, bbj (fun _ => ⟨in_nI (j := 292) (by omega) (by omega), ?_⟩) (fun e => absurd g1 e)⟩
      refine m_bits hs2 ?_
      rw [nI_ad, show (24 : Int32) = nI 24 from rfl]
      refine ⟨fun _ => ?_, fun e => absurd g2' (Int32.not_le.mpr e)⟩
      have ew : aI w1 (1, 114) (gI w1 (1, 114)) = w1 := aI_self
      have main := m_taken_loop (w := w1) (k := fun y w2 => y = nI (cnb s 0 8) ∧ Inv (n + 1) w2) (set := nI s) (m := gI w1 (1, 114)) (hr := aH A) (PL := PL) m1.2.2.2.2.2.2.1 p8 m4.2.1 PL 0 (gI w1 (1, 114)) (aK A) (Nat.zero_add _) (fun q x hx => by rw [Nat.zero_add]; exact hx) (by rw [sl]; omega) m4.2.2.2.2.2.2.1 (fun _ _ => rfl) ?_
      · rw [ew] at main; exact main
      · intro m' t1 t2
        refine m_bits hs2 ⟨rfl, ?_⟩
        have km := KM_taken m4 o3.2.1.1 hck.2.1 o3.1.2.2.2.1 t2 t1
        refine Inv.mk (by omega) (IC_FN (FN_a (by omega)) ic1) (IM_live (fun g j hj => aI_ne (by omega)) (fun q _ _ => by rw [aI_ne (by omega)]) rfl (by rw [gI_aI]; exact km) im1) (IO_live io0 ⟨?_, o3.2.1, o3.2.2.1, o3.2.2.2⟩)
        obtain ⟨a1, a2, a3, a4, a5, a6, a7⟩ := o3.1
        refine ⟨a1, a2, a3, a4, by show (aK A ++ selL (nI s) (nI (aH A)) 0 PL).length ≤ 24; rw [List.length_append, sl]; omega, a6, fun x hx => ?_⟩
        rcases List.mem_append.mp hx with h | h
        · exact a7 x h
        · exact selL_ok o1 x h
    · show Cl 172 [vO 0 90, vI (nI s)] w _
      apply v_X10_taken_0
      rw [m1.2.2.2.2.2.2.1.1, hms]
      refine ⟨bb_01, bbj (fun _ => ⟨in_nI (j := 292) (by omega) (by omega), ?_⟩) (fun e => absurd g1 e)⟩
      refine m_bits hs2 ?_
      rw [nI_ad, show (24 : Int32) = nI 24 from rfl]
      exact ⟨fun e => absurd e (Int32.not_le.mpr g2), fun _ => fin _⟩
  · show Cl 172 [vO 0 90, vI a] w _
    apply v_X10_taken_0
    rw [m1.2.2.2.2.2.2.1.1]
    exact ⟨bb_01, bbj (fun e => absurd e g1) (fun _ => fin _)⟩

/-! best -/
theorem bt_5 : (List.range 256).all (fun a => (List.range 8).all fun k => decide (nI a ||| (1 <<< (nI k &&& 31)) = nI (a ||| 2 ^ k) ∧ a ||| 2 ^ k < 256)) = true := by decide +kernel
theorem bt_6 : (List.range 256).all (fun s => (List.range 8).all fun k => decide (bit (nI s) k = s.testBit k)) = true := by decide +kernel
theorem or_e {a k : Nat} (ha : a < 256) (hk : k < 8) : nI a ||| (1 <<< (nI k &&& 31)) = nI (a ||| 2 ^ k) ∧ a ||| 2 ^ k < 256 := of_decide_eq_true (all_r (all_r bt_5 ha) hk)
theorem bit_e {s k : Nat} (hs : s < 256) (hk : k < 8) : bit (nI s) k = s.testBit k := of_decide_eq_true (all_r (all_r bt_6 hs) hk)
theorem and_e {s m : Nat} : nI s &&& nI m = nI (s &&& m) := by
  apply Int32.toBitVec_inj.mp
  rw [Int32.toBitVec_and]
  exact BitVec.ofNat_and.symm
def lmsk (hb : Int32) : Nat → List A3 → Nat
  | _, [] => 0
  | k, x :: l => if hb < x.1 then 2 ^ k ||| lmsk hb (k + 1) l else lmsk hb (k + 1) l
theorem lmsk_lt {hb : Int32} : ∀ (l : List A3) (k : Nat), k + l.length ≤ 8 → lmsk hb k l < 256 := by
  intro l
  induction l with
  | nil => intro _ _; show 0 < 256; omega
  | cons x l ih =>
    intro k hk
    rw [List.length_cons] at hk
    have := ih (k + 1) (by omega)
    unfold lmsk
    split
    · rw [Nat.or_comm]; exact (or_e this (by omega)).2
    · exact this
theorem lm_low {hb : Int32} : ∀ (l : List A3) (k j : Nat), j < k → (lmsk hb k l).testBit j = false := by
  intro l
  induction l with
  | nil => intro _ _ _; exact Nat.zero_testBit _
  | cons x l ih =>
    intro k j hj
    have := ih (k + 1) j (by omega)
    unfold lmsk
    split
    · rw [Nat.testBit_or, this, Nat.testBit_two_pow, decide_eq_false (show ¬ k = j by omega)]; rfl
    · exact this
theorem lm_tb {hb : Int32} : ∀ (l : List A3) (k q : Nat) (x : A3), l[q]? = some x → (lmsk hb k l).testBit (k + q) = decide (hb < x.1) := by
  intro l
  induction l with
  | nil => intro _ _ _ h; cases h
  | cons y l ih =>
    intro k q x h
    have e : lmsk hb k (y :: l) = if hb < y.1 then 2 ^ k ||| lmsk hb (k + 1) l else lmsk hb (k + 1) l := rfl
    cases q with
    | zero =>
      have h' : y = x := Option.some.inj h
      subst h'
      rw [Nat.add_zero, e]
      have lo := lm_low (hb := hb) l (k + 1) k (by omega)
      by_cases g : hb < y.1
      · rw [if_pos g, Nat.testBit_or, lo, Nat.testBit_two_pow, decide_eq_true (show k = k from rfl), decide_eq_true g]; rfl
      · rw [if_neg g, lo, decide_eq_false g]
    | succ q =>
      have h' : l[q]? = some x := h
      have i1 := ih (k + 1) q x h'
      rw [show k + (q + 1) = k + 1 + q by omega, e]
      split
      · rw [Nat.testBit_or, i1, Nat.testBit_two_pow, decide_eq_false (show ¬ k = k + 1 + q by omega)]; rfl
      · exact i1
theorem c_mask {w k PL} {hb : Int32} (hp : PLc w PL) (hp8 : PL.length ≤ 8) (hk : k (nI (lmsk hb 0 PL)) w) : Cl 4 [vO 99 54, vI hb] w (kI k) := by
  apply v_X0_maskBehind_0
  have main : ∀ (l : List A3) (i acc : Nat), i + l.length = PL.length → (∀ q x, l[q]? = some x → PL[i + q]? = some x) → acc < 256 → acc ||| lmsk hb i l = lmsk hb 0 PL →
      Wp 4 4 [some (.inr (.inr (99, 54))), some (.inl hb), some (.inl (nI acc)), some (.inl (nI i))] [] w (kI k) := by
    intro l
    induction l with
    | nil =>
      intro i acc hi hx ha he
      rw [List.length_nil] at hi
      apply v_X0_maskBehind_4
      rw [hp.1]
      refine ⟨fun _ => ?_, fun e => absurd e (by rw [lt_nI (by omega) (by omega)]; omega)⟩
      rw [show lmsk hb i [] = 0 from rfl, Nat.or_zero] at he
      rw [← he] at hk; exact hk
    | cons x l ih =>
      intro i acc hi hx ha he
      rw [List.length_cons] at hi
      have hx0 := hx 0 x rfl
      rw [Nat.add_zero] at hx0
      have hx' : ∀ q y, l[q]? = some y → PL[i + 1 + q]? = some y := fun q y hy => by
        have := hx (q + 1) y hy
        rw [show i + (q + 1) = i + 1 + q by omega] at this; exact this
      have e : lmsk hb i (x :: l) = if hb < x.1 then 2 ^ i ||| lmsk hb (i + 1) l else lmsk hb (i + 1) l := rfl
      obtain ⟨o1, o2⟩ := or_e (k := i) ha (by omega)
      apply v_X0_maskBehind_4
      rw [hp.1, cl_nI (by omega), (hp.2 i x hx0).1, nI_s1, o1]
      refine ⟨fun e => absurd e (by rw [le_nI (by omega) (by omega)]; omega), fun _ => ⟨in_nI (show i < 8 by omega) (by omega), fun g => ?_, fun g => ?_⟩⟩
      · rw [e, if_neg (Int32.not_lt.mpr g)] at he
        exact ih (i + 1) acc (by omega) hx' ha he
      · rw [e, if_pos g, ← Nat.or_assoc] at he
        exact ih (i + 1) _ (by omega) hx' o2 he
  exact main PL 0 0 (Nat.zero_add _) (fun q x hx => by rw [Nat.zero_add]; exact hx) (by omega) (Nat.zero_or _)
theorem stF_P {c se R cr RL P P' M rb fi ft n A} (h : P.filter (isH (nI (aH A + 1))) = P'.filter (isH (nI (aH A + 1)))) : stF c se R cr RL P M rb fi ft n A = stF c se R cr RL P' M rb fi ft n A := by
  have e : stW2 c RL P M rb A = stW2 c RL P' M rb A := by unfold stW2 stW1; rw [h]
  unfold stF stS; rw [e]
theorem it_P {c se R cr RL P P' M rb fi ft n A} {N : Nat} (h : ∀ j, 1 ≤ j → j ≤ N → P.filter (isH (nI (aH A + j))) = P'.filter (isH (nI (aH A + j)))) : ∀ k, k ≤ N →
    aH (itF (stF c se R cr RL P M rb fi ft n) k A) = aH A + k ∧ itF (stF c se R cr RL P M rb fi ft n) k A = itF (stF c se R cr RL P' M rb fi ft n) k A := by
  intro k
  induction k with
  | zero =>
    intro _
    refine ⟨?_, ?_⟩
    · show aH A = aH A + 0
      rfl
    · show A = A
      rfl
  | succ k ih =>
    intro hk
    obtain ⟨i1, i2⟩ := ih (by omega)
    refine ⟨?_, ?_⟩
    · show aH (itF (stF c se R cr RL P M rb fi ft n) k A) + 1 = _
      rw [i1]; omega
    · show stF c se R cr RL P M rb fi ft n _ = stF c se R cr RL P' M rb fi ft n _
      rw [← i2]
      refine stF_P ?_
      rw [i1]; exact h (k + 1) (by omega) hk
theorem sel_eq {R PL} {s s' hr N j : Nat} (hpl : PLo R PL) (h4 : hr ≤ 300) (hj : 1 ≤ j) (hjN : j ≤ N) (hN : N ≤ 96) (hb : ∀ k x, PL[k]? = some x → ¬ nI N < x.1 → bit (nI s') k = bit (nI s) k) (hb2 : ∀ k x, PL[k]? = some x → nI N < x.1 → bit (nI s') k = false) :
    ∀ (l : List A3) (k : Nat), (∀ q x, l[q]? = some x → PL[k + q]? = some x) → (selL (nI s) (nI hr) k l).filter (isH (nI (hr + j))) = (selL (nI s') (nI hr) k l).filter (isH (nI (hr + j))) := by
  intro l
  induction l with
  | nil => intro _ _; rfl
  | cons x l ih =>
    intro k hx
    have hx0 := hx 0 x rfl
    rw [Nat.add_zero] at hx0
    have i1 := ih (k + 1) (fun q y hy => by
      have := hx (q + 1) y hy
      rw [show k + (q + 1) = k + 1 + q by omega] at this; exact this)
    have e : ∀ z : Int32, selL z (nI hr) k (x :: l) = if bit z k = true then (nI hr + x.1, x.2) :: selL z (nI hr) (k + 1) l else selL z (nI hr) (k + 1) l := fun _ => rfl
    rw [e, e]
    by_cases g : nI N < x.1
    · rw [hb2 k x hx0 g, if_neg (show ¬ (false = true) by decide)]
      have hf : isH (nI (hr + j)) (nI hr + x.1, x.2) = false := by
        apply decide_eq_false
        intro he
        have he' : nI hr + x.1 = nI (hr + j) := he
        have b := (hpl.2 x (List.mem_of_getElem? hx0)).1
        rw [ti_lt, ti_nI (by omega)] at g
        rw [ti_eq, ti_add (by rw [ti_nI (by omega)]; omega) (by rw [ti_nI (by omega)]; omega), ti_nI (by omega), ti_nI (by omega)] at he'
        omega
      split
      · rw [List.filter_cons, hf]; exact i1
      · exact i1
    · rw [hb k x hx0 g]
      split
      · rw [List.filter_cons, List.filter_cons, i1]
      · exact i1
theorem cnb_mono {s s' : Nat} : ∀ n k, (∀ q, k ≤ q → q < k + n → bit (nI s') q = true → bit (nI s) q = true) → cnb s' k n ≤ cnb s k n := by
  intro n
  induction n with
  | zero => intro _ _; exact Nat.le_refl _
  | succ n ih =>
    intro k h
    have i1 := ih (k + 1) (fun q a b => h q (by omega) (by omega))
    have h0 := h k (Nat.le_refl _) (by omega)
    unfold cnb
    by_cases g : bit (nI s') k = true
    · rw [if_pos g, if_pos (h0 g)]; omega
    · rw [if_neg g]; split <;> omega
theorem cnb_lt {s s' j : Nat} : ∀ n k, (∀ q, k ≤ q → q < k + n → bit (nI s') q = true → bit (nI s) q = true) → k ≤ j → j < k + n → bit (nI s') j = false → bit (nI s) j = true → cnb s' k n < cnb s k n := by
  intro n
  induction n with
  | zero => intro k _ h1 h2; omega
  | succ n ih =>
    intro k h h1 h2 h3 h4
    have h0 := h k (Nat.le_refl _) (by omega)
    have hs : ∀ q, k + 1 ≤ q → q < k + 1 + n → bit (nI s') q = true → bit (nI s) q = true := fun q a b => h q (by omega) (by omega)
    unfold cnb
    by_cases e : j = k
    · subst e
      have := cnb_mono n (j + 1) hs
      rw [h3, h4, if_neg (by decide), if_pos rfl]; omega
    · have := ih (k + 1) hs (by omega) (by omega) h3 h4
      by_cases g : bit (nI s') k = true
      · rw [if_pos g, if_pos (h0 g)]; omega
      · rw [if_neg g]; split <;> omega
theorem vm_congr {f f' : Nat → Int32} {a : Nat} : ∀ k, (∀ i, i < k → f (a + i) = f' (a + i)) → vm f a k = vm f' a k := by
  intro k
  induction k with
  | zero => intro _; rfl
  | succ k ih => intro h; unfold vm; rw [ih (fun i hi => h i (by omega)), h k (by omega)]
def Vb (c : Nat → Nat → Int32) (se : Int32) (R cr : Nat) (RL : List R3) (PL : List A3) (M : List M4) (A : AS) (WT : Nat → WW) (N Z s : Nat) : Int32 := vm (fun b => hv c se R cr RL PL M A (WT b) (nI s) N) 0 Z
/-- an ACT behind the last HOUR never comes -/
theorem late_le {c se R cr RL PL M A} {WT : Nat → WW} {N Z s p : Nat} (hpl : PLo R PL) (hr : RO c R A M) (hN : N ≤ 96) (hp : PL.length ≤ p) (hp8 : p ≤ 8) (hs : s < 2 ^ p) (hne : ¬ nI s &&& nI (lmsk (nI N) 0 PL) = 0) :
    ∃ t, t < 2 ^ p ∧ nI t &&& nI (lmsk (nI N) 0 PL) = 0 ∧ Vb c se R cr RL PL M A WT N Z t = Vb c se R cr RL PL M A WT N Z s ∧ cnb t 0 8 < cnb s 0 8 := by
  have h8 := hpl.1
  have h300 := hr.2.2.1
  have s256 : s < 256 := by have := (pw_le hp8).2; omega
  have m256 := lmsk_lt (hb := nI N) PL 0 (by omega)
  have tb := fun q x => lm_tb (hb := nI N) PL 0 q x
  generalize hm : lmsk (nI N) 0 PL = m at *
  have tle : s &&& (255 ^^^ m) ≤ s := Nat.and_le_left
  have b255 : ∀ k, k < 8 → (255 : Nat).testBit k = true := by
    intro k hk
    rcases (show k = 0 ∨ k = 1 ∨ k = 2 ∨ k = 3 ∨ k = 4 ∨ k = 5 ∨ k = 6 ∨ k = 7 by omega) with rfl | rfl | rfl | rfl | rfl | rfl | rfl | rfl <;> decide
  have bt : ∀ k, k < 8 → bit (nI (s &&& (255 ^^^ m))) k = (s.testBit k && !m.testBit k) := by
    intro k hk
    rw [bit_e (by omega) hk, Nat.testBit_and, Nat.testBit_xor, b255 k hk]
    cases m.testBit k <;> rfl
  have bs : ∀ k, k < 8 → bit (nI s) k = s.testBit k := fun k hk => bit_e s256 hk
  refine ⟨s &&& (255 ^^^ m), by omega, ?_, ?_, ?_⟩
  · rw [and_e]
    have : s &&& (255 ^^^ m) &&& m = 0 := by
      apply Nat.eq_of_testBit_eq
      intro i
      rw [Nat.testBit_and, Nat.testBit_and, Nat.testBit_xor, Nat.zero_testBit]
      by_cases hi : i < 8
      · rw [b255 i hi]; cases m.testBit i <;> cases s.testBit i <;> rfl
      · have : m.testBit i = false := Nat.testBit_lt_two_pow (Nat.lt_of_lt_of_le m256 (Nat.pow_le_pow_right (n := 2) (by omega) (show 8 ≤ i by omega)))
        rw [this]; cases s.testBit i <;> cases (255 : Nat).testBit i <;> rfl
    rw [this]; rfl
  · unfold Vb
    refine vm_congr Z fun i _ => ?_
    show hv c se R cr RL PL M A (WT (0 + i)) (nI (s &&& (255 ^^^ m))) N = hv c se R cr RL PL M A (WT (0 + i)) (nI s) N
    unfold hv trF
    rw [(it_P (P := selL (nI s) (nI (aH A)) 0 PL) (P' := selL (nI (s &&& (255 ^^^ m))) (nI (aH A)) 0 PL) (N := N) (fun j h1 h2 => ?_) N (Nat.le_refl _)).2]
    refine sel_eq hpl h300 h1 h2 hN ?_ ?_ PL 0 (fun q x hx => by rw [Nat.zero_add]; exact hx)
    · intro k x hx hn
      have hk : k < PL.length := (List.getElem?_eq_some_iff.mp hx).1
      have := tb k x hx
      rw [Nat.zero_add, decide_eq_false hn] at this
      rw [bt k (by omega), bs k (by omega), this]; cases s.testBit k <;> rfl
    · intro k x hx hn
      have hk : k < PL.length := (List.getElem?_eq_some_iff.mp hx).1
      have := tb k x hx
      rw [Nat.zero_add, decide_eq_true hn] at this
      rw [bt k (by omega), this]; cases s.testBit k <;> rfl
  · have ex : ∃ j, j < 8 ∧ s.testBit j = true ∧ m.testBit j = true := by
      refine Classical.byContradiction fun hno => hne ?_
      rw [and_e]
      have : s &&& m = 0 := by
        apply Nat.eq_of_testBit_eq
        intro i
        rw [Nat.testBit_and, Nat.zero_testBit]
        by_cases hi : i < 8
        · cases h1 : s.testBit i with
          | false => rfl
          | true =>
            cases h2 : m.testBit i with
            | false => rfl
            | true => exact absurd ⟨i, hi, h1, h2⟩ hno
        · have : m.testBit i = false := Nat.testBit_lt_two_pow (Nat.lt_of_lt_of_le m256 (Nat.pow_le_pow_right (n := 2) (by omega) (show 8 ≤ i by omega)))
          rw [this, Bool.and_false]
      rw [this]; rfl
    obtain ⟨j, j1, j2, j3⟩ := ex
    refine cnb_lt (j := j) 8 0 (fun q _ hq h => ?_) (Nat.zero_le _) (by omega) ?_ ?_
    · rw [bt q (by omega)] at h
      rw [bs q (by omega)]
      revert h; cases s.testBit q <;> simp
    · rw [bt j j1, j3]; cases s.testBit j <;> rfl
    · rw [bs j j1, j2]
def Kb (V : Nat → Int32) (t : Nat) : Int := (V t).toInt * 100000 + (cnb t 0 8 : Int) * 1000 + t
def prb (a s t : Nat) : Prop := cnb t 0 8 < a ∨ (cnb t 0 8 = a ∧ t < s)
def bInv (V : Nat → Int32) (El : Nat → Prop) (top a s b : Nat) (l : Int32) : Prop :=
  b < top ∧ ((l = 2147483647 ∧ b = 0 ∧ ∀ t, t < top → El t → ¬ prb a s t) ∨ (El b ∧ l = V b ∧ prb a s b ∧ ∀ t, t < top → El t → prb a s t → Kb V b ≤ Kb V t))
theorem NBt : (2147483647 : Int32).toInt = 2147483647 := rfl
theorem bInv_skip {V El top a s b l} (h : bInv V El top a s b l) (hs : ¬ (El s ∧ cnb s 0 8 = a)) : bInv V El top a (s + 1) b l := by
  obtain ⟨h1, h2⟩ := h
  refine ⟨h1, ?_⟩
  have key : ∀ t, El t → prb a (s + 1) t → prb a s t := by
    intro t ht hp
    unfold prb at *
    by_cases e : t = s
    · subst e; rcases hp with hp | hp
      · exact Or.inl hp
      · exact absurd ⟨ht, hp.1⟩ hs
    · omega
  rcases h2 with ⟨a1, a2, a3⟩ | ⟨a1, a2, a3, a4⟩
  · exact Or.inl ⟨a1, a2, fun t t1 t2 t3 => a3 t t1 t2 (key t t2 t3)⟩
  · exact Or.inr ⟨a1, a2, by unfold prb at *; omega, fun t t1 t2 t3 => a4 t t1 t2 (key t t2 t3)⟩
theorem bInv_keep {V El top a s b l} (h : bInv V El top a s b l) (ht : top ≤ 256) (hs : s < top) (hVn : ∀ t, 0 ≤ (V t).toInt) (hVb : (V s).toInt ≤ 100000000) (hle : l ≤ V s) (hc : cnb s 0 8 = a) : bInv V El top a (s + 1) b l := by
  obtain ⟨h1, h2⟩ := h
  refine ⟨h1, ?_⟩
  rw [ti_le] at hle
  rcases h2 with ⟨a1, a2, a3⟩ | ⟨a1, a2, a3, a4⟩
  · rw [a1, NBt] at hle; omega
  · refine Or.inr ⟨a1, a2, by unfold prb at *; omega, fun t t1 t2 t3 => ?_⟩
    by_cases e : t = s
    · subst e
      rw [a2] at hle
      have c1 := cnb_le (s := b) 8 0
      have c2 := cnb_le (s := t) 8 0
      unfold Kb prb at *
      omega
    · exact a4 t t1 t2 (by unfold prb at *; omega)
theorem bInv_new {V El top a s b l} (h : bInv V El top a s b l) (ht : top ≤ 256) (hs : s < top) (hlt : V s < l) (hc : cnb s 0 8 = a) (he : El s) : bInv V El top a (s + 1) s (V s) := by
  obtain ⟨h1, h2⟩ := h
  refine ⟨hs, Or.inr ⟨he, rfl, by unfold prb; omega, fun t t1 t2 t3 => ?_⟩⟩
  by_cases e : t = s
  · subst e; exact Int.le_refl _
  · have hp : prb a s t := by unfold prb at *; omega
    rcases h2 with ⟨a1, a2, a3⟩ | ⟨a1, a2, a3, a4⟩
    · exact absurd hp (a3 t t1 t2)
    · have q := a4 t t1 t2 hp
      rw [a2, ti_lt] at hlt
      have c1 := cnb_le (s := b) 8 0
      have c2 := cnb_le (s := s) 8 0
      unfold Kb at *
      omega
theorem bInv_row {V El top a b l} (h : bInv V El top a top b l) : bInv V El top (a + 1) 0 b l := by
  obtain ⟨h1, h2⟩ := h
  have key : ∀ t, t < top → prb (a + 1) 0 t → prb a top t := by intro t ht hp; unfold prb at *; omega
  refine ⟨h1, ?_⟩
  rcases h2 with ⟨a1, a2, a3⟩ | ⟨a1, a2, a3, a4⟩
  · exact Or.inl ⟨a1, a2, fun t t1 t2 t3 => a3 t t1 t2 (key t t1 t3)⟩
  · exact Or.inr ⟨a1, a2, by unfold prb at *; omega, fun t t1 t2 t3 => a4 t t1 t2 (key t t1 t3)⟩
theorem bInv_zero {V El top a s b l} (h : bInv V El top a s b l) (ht : top ≤ 256) (hVn : ∀ t, 0 ≤ (V t).toInt) (hl : l ≤ 0) : bInv V El top (a + 1) 0 b l := by
  obtain ⟨h1, h2⟩ := h
  refine ⟨h1, ?_⟩
  rw [ti_le, tl0] at hl
  rcases h2 with ⟨a1, a2, a3⟩ | ⟨a1, a2, a3, a4⟩
  · rw [a1, NBt] at hl; omega
  · refine Or.inr ⟨a1, a2, by unfold prb at *; omega, fun t t1 t2 t3 => ?_⟩
    by_cases hp : prb a s t
    · exact a4 t t1 t2 hp
    · have v0 := hVn t
      rw [a2] at hl
      have c1 := cnb_le (s := b) 8 0
      have c2 := cnb_le (s := t) 8 0
      unfold Kb prb at *
      omega

/-! the class's rows of one State, and its levels, as functions -/
theorem in_T {j n : Nat} (h : j < n) (h2 : n ≤ 2147483648) : vp_in (nI j) n = True := eq_true (in_nI h (by omega))
theorem nI_s1 {i : Nat} : nI i + 1 = nI (i + 1) := nI_add i 1
theorem ub_same {α : Type} {f : Nat → α} {k : Nat} {v : α} : ub f k v k = v := by rw [ub_eq, if_pos rfl]
theorem ub_ne {α : Type} {f : Nat → α} {k j : Nat} {v : α} (h : Nat.beq j k = false) : ub f k v j = f j := by
  show (bif Nat.beq j k then v else f j) = f j
  rw [h]; rfl
theorem ub_ub {α : Type} {f : Nat → α} {k : Nat} {v v' : α} : ub (ub f k v) k v' = ub f k v' := by
  funext j
  by_cases h : j = k
  · subst h; rw [ub_same, ub_same]
  · rw [ub_eq, ub_eq, ub_eq, if_neg h, if_neg h, if_neg h]
theorem ub_comm {α : Type} {f : Nat → α} {k k' : Nat} {v v' : α} (h : Nat.blt k' k = true) : ub (ub f k v) k' v' = ub (ub f k' v') k v := by
  have hn : k' ≠ k := by have := Nat.blt_eq.mp h; omega
  funext j
  by_cases h1 : j = k
  · subst h1; rw [ub_eq, if_neg (Ne.symm hn), ub_same, ub_same]
  · by_cases h2 : j = k'
    · subst h2; rw [ub_same, ub_eq, if_neg h1, ub_same]
    · rw [ub_eq, if_neg h2, ub_eq, if_neg h1, ub_eq, if_neg h1, ub_eq, if_neg h2]
def kOff (j : Nat) : Bool := !(Nat.beq j 30) && !(Nat.ble 41 j && Nat.ble j 52)
def kW (w : PW) (g : Nat) (σ : Nat → Nat → Int32) (L : Nat → Int32) : PW :=
  (fun j g' => bif Nat.beq j 30 && Nat.beq g' 0 then L else bif Nat.ble 41 j && Nat.ble j 52 && Nat.beq g' g then σ (j - 41) else w.1 j g', w.2)
theorem gk_row {w g σ L} {j : Nat} (h : (Nat.ble 41 j && Nat.ble j 52) = true) : gI (kW w g σ L) (g, j) = σ (j - 41) := by
  have h1 : Nat.beq j 30 = false := by
    cases hb : Nat.beq j 30 with
    | false => rfl
    | true => rw [Nat.eq_of_beq_eq_true hb] at h; cases h
  show (bif Nat.beq j 30 && Nat.beq g 0 then L else bif Nat.ble 41 j && Nat.ble j 52 && Nat.beq g g then σ (j - 41) else w.1 j g) = _
  rw [h1, h, Nat.beq_refl]; rfl
theorem gk_30 {w g σ L} : gI (kW w g σ L) (0, 30) = L := rfl
theorem gk_off {w g σ L} {g' j : Nat} (h : kOff j = true) : gI (kW w g σ L) (g', j) = gI w (g', j) := by
  unfold kOff at h
  have h1 : Nat.beq j 30 = false := by revert h; cases Nat.beq j 30 <;> simp
  have h2 : (Nat.ble 41 j && Nat.ble j 52) = false := by revert h; cases (Nat.ble 41 j && Nat.ble j 52) <;> simp
  show (bif Nat.beq j 30 && Nat.beq g' 0 then L else bif Nat.ble 41 j && Nat.ble j 52 && Nat.beq g' g then σ (j - 41) else w.1 j g') = _
  rw [h1, h2]; rfl
theorem gkL {w g σ L} {o : Ob} : gL (kW w g σ L) o = gL w o := rfl
theorem ak_row {w g σ L} {j : Nat} {f : Nat → Int32} (h : (Nat.ble 41 j && Nat.ble j 52) = true) : aI (kW w g σ L) (g, j) f = kW w g (ub σ (j - 41) f) L := by
  refine Prod.ext ?_ rfl
  funext j' g'
  show (bif Nat.beq j' j then (fun g'' => bif Nat.beq g'' g then f else (kW w g σ L).1 j' g'') else (kW w g σ L).1 j') g' = _
  by_cases hj : j' = j
  · subst hj
    rw [beq_t, cond_true]
    by_cases hg : g' = g
    · subst hg
      rw [beq_t, cond_true]
      exact ((gk_row (w := w) (g := g') (σ := ub σ (j' - 41) f) (L := L) h).trans ub_same).symm
    · show (bif Nat.beq g' g then f else (kW w g σ L).1 j' g') = (bif Nat.beq j' 30 && Nat.beq g' 0 then L else bif Nat.ble 41 j' && Nat.ble j' 52 && Nat.beq g' g then ub σ (j' - 41) f (j' - 41) else w.1 j' g')
      rw [beq_f hg, cond_false]
      show (bif Nat.beq j' 30 && Nat.beq g' 0 then L else bif Nat.ble 41 j' && Nat.ble j' 52 && Nat.beq g' g then σ (j' - 41) else w.1 j' g') = _
      rw [beq_f hg, Bool.and_false]; rfl
  · rw [beq_f hj, cond_false]
    show (bif Nat.beq j' 30 && Nat.beq g' 0 then L else bif Nat.ble 41 j' && Nat.ble j' 52 && Nat.beq g' g then σ (j' - 41) else w.1 j' g') = (bif Nat.beq j' 30 && Nat.beq g' 0 then L else bif Nat.ble 41 j' && Nat.ble j' 52 && Nat.beq g' g then ub σ (j - 41) f (j' - 41) else w.1 j' g')
    cases hb : (Nat.ble 41 j' && Nat.ble j' 52) with
    | false => rfl
    | true =>
      rw [ub_eq, if_neg]
      intro he
      simp only [Bool.and_eq_true, Nat.ble_eq] at hb h
      omega
theorem ak_30 {w g σ L} {f : Nat → Int32} : aI (kW w g σ L) (0, 30) f = kW w g σ f := by
  refine Prod.ext ?_ rfl
  funext j' g'
  show (bif Nat.beq j' 30 then (fun g'' => bif Nat.beq g'' 0 then f else (kW w g σ L).1 j' g'') else (kW w g σ L).1 j') g' = (bif Nat.beq j' 30 && Nat.beq g' 0 then f else bif Nat.ble 41 j' && Nat.ble j' 52 && Nat.beq g' g then σ (j' - 41) else w.1 j' g')
  by_cases hj : j' = 30
  · subst hj
    by_cases hg : g' = 0
    · subst hg; rfl
    · show (bif Nat.beq g' 0 then f else (kW w g σ L).1 30 g') = _
      rw [beq_f hg, cond_false]
      show (bif Nat.beq 30 30 && Nat.beq g' 0 then L else bif Nat.ble 41 30 && Nat.ble 30 52 && Nat.beq g' g then σ (30 - 41) else w.1 30 g') = _
      rw [beq_f hg]; rfl
  · rw [beq_f hj]
    show (bif Nat.beq j' 30 && Nat.beq g' 0 then L else bif Nat.ble 41 j' && Nat.ble j' 52 && Nat.beq g' g then σ (j' - 41) else w.1 j' g') = _
    rw [beq_f hj]; rfl
theorem ak_off {w g σ L} {g' j : Nat} {f : Nat → Int32} (h : kOff j = true) : aI (kW w g σ L) (g', j) f = kW (aI w (g', j) f) g σ L := by
  unfold kOff at h
  have h1 : Nat.beq j 30 = false := by revert h; cases Nat.beq j 30 <;> simp
  have h2 : (Nat.ble 41 j && Nat.ble j 52) = false := by revert h; cases (Nat.ble 41 j && Nat.ble j 52) <;> simp
  refine Prod.ext ?_ rfl
  funext j' g''
  show (bif Nat.beq j' j then (fun x => bif Nat.beq x g' then f else (kW w g σ L).1 j' x) else (kW w g σ L).1 j') g'' = (bif Nat.beq j' 30 && Nat.beq g'' 0 then L else bif Nat.ble 41 j' && Nat.ble j' 52 && Nat.beq g'' g then σ (j' - 41) else (bif Nat.beq j' j then (fun x => bif Nat.beq x g' then f else w.1 j' x) else w.1 j') g'')
  by_cases hj : j' = j
  · subst hj
    rw [h1, h2, beq_t]
    simp only [cond_true, cond_false, Bool.false_and]
    cases Nat.beq g'' g' with
    | true => rfl
    | false => exact congrFun (gk_off (w := w) (g := g) (σ := σ) (L := L) (g' := g'') (j := j') (by unfold kOff; rw [h1, h2]; rfl)) |> fun e => funext e
  · rw [beq_f hj]; rfl
theorem sk_30 {w g σ L} {i : Nat} {v : Int32} : sI (kW w g σ L) (0, 30) i v = kW w g σ (ub L i v) := by
  unfold sI; rw [ak_30, gk_30]
theorem sk_off {w g σ L} {g' j i : Nat} {v : Int32} (h : kOff j = true) : sI (kW w g σ L) (g', j) i v = kW (sI w (g', j) i v) g σ L := by
  unfold sI; rw [gk_off h, ak_off h]
theorem skL {w g σ L} {o : Ob} {i : Nat} {v : Int64} : sL (kW w g σ L) o i v = kW (sL w o i v) g σ L := rfl
theorem akL {w g σ L} {o : Ob} {f : Nat → Int64} : aL (kW w g σ L) o f = kW (aL w o f) g σ L := rfl
theorem kW_kW {w g σ L σ' L'} : kW (kW w g σ L) g σ' L' = kW w g σ' L' := by
  refine Prod.ext ?_ rfl
  funext j g'
  show (bif Nat.beq j 30 && Nat.beq g' 0 then L' else bif Nat.ble 41 j && Nat.ble j 52 && Nat.beq g' g then σ' (j - 41) else (bif Nat.beq j 30 && Nat.beq g' 0 then L else bif Nat.ble 41 j && Nat.ble j 52 && Nat.beq g' g then σ (j - 41) else w.1 j g')) = (bif Nat.beq j 30 && Nat.beq g' 0 then L' else bif Nat.ble 41 j && Nat.ble j 52 && Nat.beq g' g then σ' (j - 41) else w.1 j g')
  cases (Nat.beq j 30 && Nat.beq g' 0) <;> cases (Nat.ble 41 j && Nat.ble j 52 && Nat.beq g' g) <;> rfl
theorem kW_self {w : PW} {g : Nat} : kW w g (fun f => gI w (g, 41 + f)) (gI w (0, 30)) = w := by
  refine Prod.ext ?_ rfl
  funext j g'
  show (bif Nat.beq j 30 && Nat.beq g' 0 then gI w (0, 30) else bif Nat.ble 41 j && Nat.ble j 52 && Nat.beq g' g then gI w (g, 41 + (j - 41)) else w.1 j g') = w.1 j g'
  cases h1 : (Nat.beq j 30 && Nat.beq g' 0) with
  | true =>
    simp only [Bool.and_eq_true] at h1
    rw [Nat.eq_of_beq_eq_true h1.1, Nat.eq_of_beq_eq_true h1.2]; rfl
  | false =>
    cases h2 : (Nat.ble 41 j && Nat.ble j 52 && Nat.beq g' g) with
    | false => rfl
    | true =>
      simp only [Bool.and_eq_true, Nat.ble_eq] at h2
      rw [Nat.eq_of_beq_eq_true h2.2, show 41 + (j - 41) = j by omega]; rfl
theorem gk_0 {w g σ L} : gI (kW w g σ L) (g, 41) = σ 0 := gk_row rfl
theorem sk_0 {w g σ L} {i : Nat} {v : Int32} : sI (kW w g σ L) (g, 41) i v = kW w g (ub σ 0 (ub (σ 0) i v)) L := by unfold sI; rw [gk_0]; exact ak_row rfl
theorem ak_0 {w g σ L} {f : Nat → Int32} : aI (kW w g σ L) (g, 41) f = kW w g (ub σ 0 f) L := ak_row rfl
theorem gk_1 {w g σ L} : gI (kW w g σ L) (g, 42) = σ 1 := gk_row rfl
theorem sk_1 {w g σ L} {i : Nat} {v : Int32} : sI (kW w g σ L) (g, 42) i v = kW w g (ub σ 1 (ub (σ 1) i v)) L := by unfold sI; rw [gk_1]; exact ak_row rfl
theorem ak_1 {w g σ L} {f : Nat → Int32} : aI (kW w g σ L) (g, 42) f = kW w g (ub σ 1 f) L := ak_row rfl
theorem gk_2 {w g σ L} : gI (kW w g σ L) (g, 43) = σ 2 := gk_row rfl
theorem sk_2 {w g σ L} {i : Nat} {v : Int32} : sI (kW w g σ L) (g, 43) i v = kW w g (ub σ 2 (ub (σ 2) i v)) L := by unfold sI; rw [gk_2]; exact ak_row rfl
theorem ak_2 {w g σ L} {f : Nat → Int32} : aI (kW w g σ L) (g, 43) f = kW w g (ub σ 2 f) L := ak_row rfl
theorem gk_3 {w g σ L} : gI (kW w g σ L) (g, 44) = σ 3 := gk_row rfl
theorem sk_3 {w g σ L} {i : Nat} {v : Int32} : sI (kW w g σ L) (g, 44) i v = kW w g (ub σ 3 (ub (σ 3) i v)) L := by unfold sI; rw [gk_3]; exact ak_row rfl
theorem ak_3 {w g σ L} {f : Nat → Int32} : aI (kW w g σ L) (g, 44) f = kW w g (ub σ 3 f) L := ak_row rfl
theorem gk_4 {w g σ L} : gI (kW w g σ L) (g, 45) = σ 4 := gk_row rfl
theorem sk_4 {w g σ L} {i : Nat} {v : Int32} : sI (kW w g σ L) (g, 45) i v = kW w g (ub σ 4 (ub (σ 4) i v)) L := by unfold sI; rw [gk_4]; exact ak_row rfl
theorem ak_4 {w g σ L} {f : Nat → Int32} : aI (kW w g σ L) (g, 45) f = kW w g (ub σ 4 f) L := ak_row rfl
theorem gk_5 {w g σ L} : gI (kW w g σ L) (g, 46) = σ 5 := gk_row rfl
theorem sk_5 {w g σ L} {i : Nat} {v : Int32} : sI (kW w g σ L) (g, 46) i v = kW w g (ub σ 5 (ub (σ 5) i v)) L := by unfold sI; rw [gk_5]; exact ak_row rfl
theorem ak_5 {w g σ L} {f : Nat → Int32} : aI (kW w g σ L) (g, 46) f = kW w g (ub σ 5 f) L := ak_row rfl
theorem gk_6 {w g σ L} : gI (kW w g σ L) (g, 47) = σ 6 := gk_row rfl
theorem sk_6 {w g σ L} {i : Nat} {v : Int32} : sI (kW w g σ L) (g, 47) i v = kW w g (ub σ 6 (ub (σ 6) i v)) L := by unfold sI; rw [gk_6]; exact ak_row rfl
theorem ak_6 {w g σ L} {f : Nat → Int32} : aI (kW w g σ L) (g, 47) f = kW w g (ub σ 6 f) L := ak_row rfl
theorem gk_7 {w g σ L} : gI (kW w g σ L) (g, 48) = σ 7 := gk_row rfl
theorem sk_7 {w g σ L} {i : Nat} {v : Int32} : sI (kW w g σ L) (g, 48) i v = kW w g (ub σ 7 (ub (σ 7) i v)) L := by unfold sI; rw [gk_7]; exact ak_row rfl
theorem ak_7 {w g σ L} {f : Nat → Int32} : aI (kW w g σ L) (g, 48) f = kW w g (ub σ 7 f) L := ak_row rfl
theorem gk_8 {w g σ L} : gI (kW w g σ L) (g, 49) = σ 8 := gk_row rfl
theorem sk_8 {w g σ L} {i : Nat} {v : Int32} : sI (kW w g σ L) (g, 49) i v = kW w g (ub σ 8 (ub (σ 8) i v)) L := by unfold sI; rw [gk_8]; exact ak_row rfl
theorem ak_8 {w g σ L} {f : Nat → Int32} : aI (kW w g σ L) (g, 49) f = kW w g (ub σ 8 f) L := ak_row rfl
theorem gk_9 {w g σ L} : gI (kW w g σ L) (g, 50) = σ 9 := gk_row rfl
theorem sk_9 {w g σ L} {i : Nat} {v : Int32} : sI (kW w g σ L) (g, 50) i v = kW w g (ub σ 9 (ub (σ 9) i v)) L := by unfold sI; rw [gk_9]; exact ak_row rfl
theorem ak_9 {w g σ L} {f : Nat → Int32} : aI (kW w g σ L) (g, 50) f = kW w g (ub σ 9 f) L := ak_row rfl
theorem gk_10 {w g σ L} : gI (kW w g σ L) (g, 51) = σ 10 := gk_row rfl
theorem sk_10 {w g σ L} {i : Nat} {v : Int32} : sI (kW w g σ L) (g, 51) i v = kW w g (ub σ 10 (ub (σ 10) i v)) L := by unfold sI; rw [gk_10]; exact ak_row rfl
theorem ak_10 {w g σ L} {f : Nat → Int32} : aI (kW w g σ L) (g, 51) f = kW w g (ub σ 10 f) L := ak_row rfl
theorem gk_11 {w g σ L} : gI (kW w g σ L) (g, 52) = σ 11 := gk_row rfl
theorem sk_11 {w g σ L} {i : Nat} {v : Int32} : sI (kW w g σ L) (g, 52) i v = kW w g (ub σ 11 (ub (σ 11) i v)) L := by unfold sI; rw [gk_11]; exact ak_row rfl
theorem ak_11 {w g σ L} {f : Nat → Int32} : aI (kW w g σ L) (g, 52) f = kW w g (ub σ 11 f) L := ak_row rfl
/-- a loop that counts up from 0 -/
theorem cnt {mi pc : Nat} {L : Int32 → LV} {L0 : LV} {Q : PQ} {w0 : PW} (R : Nat) (Wd : Nat → PW) (hL : L (nI 0) = L0) (h0 : Wd 0 = w0) (hx : Wp mi pc (L (nI R)) [] (Wd R) Q)
    (hs : ∀ i, i < R → Wp mi pc (L (nI (i + 1))) [] (Wd (i + 1)) Q → Wp mi pc (L (nI i)) [] (Wd i) Q) : Wp mi pc L0 [] w0 Q := by
  subst hL h0
  exact up_loop R Wd hx hs 0 (Nat.zero_le _)
theorem cntI {mi pc : Nat} {L : Int32 → LV} {L0 : LV} {Q : PQ} {w0 : PW} (R : Nat) (I : Nat → PW → Prop) (hL : L (nI 0) = L0) (h0 : I 0 w0) (hx : ∀ w, I R w → Wp mi pc (L (nI R)) [] w Q)
    (hs : ∀ i w, i < R → I i w → (∀ w', I (i + 1) w' → Wp mi pc (L (nI (i + 1))) [] w' Q) → Wp mi pc (L (nI i)) [] w Q) : Wp mi pc L0 [] w0 Q := by
  subst hL
  exact up_loopI R I hx hs 0 w0 (Nat.zero_le _) h0
theorem i_lt_le {a b : Int32} : (a < b) = ¬ (b ≤ a) := propext Int32.not_le.symm
theorem i_not_lt {a b : Int32} : (¬ a < b) ↔ b ≤ a := Int32.not_lt
theorem ub_self {α : Type} {f : Nat → α} {k : Nat} : ub f k (f k) = f := by
  funext j
  rw [ub_eq]
  by_cases h : j = k
  · subst h; rw [if_pos rfl]
  · rw [if_neg h]
theorem sI_self {w : PW} {o : Ob} {k : Nat} : sI w o k (gI w o k) = w := by unfold sI; rw [ub_self, aI_self]
theorem sI_sI {w : PW} {o : Ob} {k : Nat} {v v' : Int32} : sI (sI w o k v) o k v' = sI w o k v' := by
  unfold sI; rw [gI_aI, aI_aI, ub_ub]
theorem gI_sat {w : PW} {o : Ob} {k : Nat} {v : Int32} : gI (sI w o k v) o k = v := by rw [gI_s, ub_same]
theorem i10 : ((1 : Int32) = 0) = False := by decide
theorem i_ten : ((10 : Int32) = 0) = False := by decide
theorem i_fv : ((5 : Int32) = 0) = False := by decide
theorem i_fr : ((4 : Int32) = 0) = False := by decide
theorem i_m1 : ((-1 : Int32) < 0) = True := by decide
theorem i_m1' : ((0 : Int32) ≤ -1) = False := by decide
theorem nI_0le {i : Nat} (h : i < 2147483648) : ((0 : Int32) ≤ nI i) = True := by
  rw [ti_le, ti_nI (by omega)]
  exact eq_true (by show (0 : Int) ≤ _; omega)
theorem nI_nlt0 {i : Nat} (h : i < 2147483648) : (nI i < (0 : Int32)) = False := by
  rw [ti_lt, ti_nI (by omega)]
  exact eq_false (by show ¬ (_ : Int) < 0; omega)
theorem nI_pr {R : Nat} : nI R - 1 = nI R + (-1) := by rw [Int32.sub_eq_add_neg]
theorem nI_p1 {i : Nat} : nI (i + 1) + (-1) = nI i := by
  rw [← nI_s1, Int32.add_assoc, show (1 : Int32) + (-1) = 0 by decide, Int32.add_zero]
/-- a loop that counts down to 0 -/
theorem dnt {mi pc : Nat} {L : Int32 → LV} {L0 : LV} {Q : PQ} {w0 : PW} (R : Nat) (Wd : Nat → PW) (hL : L (nI R + (-1)) = L0) (h0 : Wd R = w0) (hx : Wp mi pc (L (-1)) [] (Wd 0) Q)
    (hs : ∀ i, i < R → Wp mi pc (L (nI i + (-1))) [] (Wd i) Q → Wp mi pc (L (nI i)) [] (Wd (i + 1)) Q) : Wp mi pc L0 [] w0 Q := by
  subst hL h0
  have h : ∀ n, n ≤ R → Wp mi pc (L (nI n + (-1))) [] (Wd n) Q := by
    intro n
    induction n with
    | zero => intro _; exact hx
    | succ n ih => intro hn; rw [nI_p1]; exact hs n (by omega) (ih (by omega))
  exact h R (Nat.le_refl _)
theorem nI_ml {a b : Nat} : nI a * nI b = nI (a * b) := (Int32.ofNat_mul a b).symm
theorem nI_ad {a b : Nat} : nI a + nI b = nI (a + b) := nI_add a b
theorem i_le0 {i : Nat} (h : i < 2147483648) : (nI i ≤ (0 : Int32)) = (i ≤ 0) := by
  rw [ti_le, ti_nI (by omega)]
  exact propext ⟨fun hh => by have : (i : Int) ≤ 0 := hh; omega, fun hh => by show (i : Int) ≤ 0; omega⟩
theorem i_0lt {i : Nat} (h : i < 2147483648) : ((0 : Int32) < nI i) = (0 < i) := by
  rw [ti_lt, ti_nI (by omega)]
  exact propext ⟨fun hh => by have : (0 : Int) < i := hh; omega, fun hh => by show (0 : Int) < i; omega⟩
theorem nI_m1 {i : Nat} : nI (i + 1) - 1 = nI i := by rw [nI_pr, nI_p1]
theorem gI_so {w : PW} {g g' i : Nat} {v : Int32} {j j' : Nat} (h : Nat.beq j j' = false) : gI (sI w (g', j') i v) (g, j) = gI w (g, j) := gI_off' h
theorem gI_ao {w : PW} {g g' : Nat} {f : Nat → Int32} {j j' : Nat} (h : Nat.beq j j' = false) : gI (aI w (g', j') f) (g, j) = gI w (g, j) := gI_off' h
theorem gI_gs {w : PW} {g g' i : Nat} {v : Int32} {j : Nat} (h : Nat.beq g g' = false) : gI (sI w (g', j) i v) (g, j) = gI w (g, j) := by
  show (bif Nat.beq j j then (fun x => bif Nat.beq x g' then ub (gI w (g', j)) i v else w.1 j x) else w.1 j) g = _
  rw [beq_t]
  show (bif Nat.beq g g' then ub (gI w (g', j)) i v else w.1 j g) = _
  rw [h]; rfl
theorem gI_ga {w : PW} {g g' : Nat} {f : Nat → Int32} {j : Nat} (h : Nat.beq g g' = false) : gI (aI w (g', j) f) (g, j) = gI w (g, j) := by
  show (bif Nat.beq j j then (fun x => bif Nat.beq x g' then f else w.1 j x) else w.1 j) g = _
  rw [beq_t]
  show (bif Nat.beq g g' then f else w.1 j g) = _
  rw [h]; rfl
theorem gI_sN {w : PW} {o : Ob} {k j : Nat} {v : Int32} (h : Nat.beq j k = false) : gI (sI w o k v) o j = gI w o j := by rw [gI_s, ub_ne h]
theorem nI_ge0 {a : Nat} (h : a < 2147483648) : (0 : Int32) ≤ nI a := by
  rw [ti_le, ti_nI (by omega)]; show (0 : Int) ≤ a; omega
theorem cp_nI {a b n ls ld : Nat} (h : a + n ≤ ls) (h2 : b + n ≤ ld) (h3 : ls < 2147483648) (h4 : ld < 2147483648) : cpOK (nI a) (nI b) (nI n) ls ld := by
  refine ⟨nI_ge0 (by omega), nI_ge0 (by omega), nI_ge0 (by omega), ?_, ?_⟩
  · rw [cl_nI (by omega), cl_nI (by omega)]; exact h
  · rw [cl_nI (by omega), cl_nI (by omega)]; exact h2
theorem va_cpy_in {α : Type} {f g : Nat → α} {sp dp n k : Nat} (h : dp ≤ k) (h2 : k < dp + n) : va_cpy f g sp dp n k = f (sp + (k - dp)) := if_pos ⟨h, h2⟩
theorem va_cpy_out {α : Type} {f g : Nat → α} {sp dp n k : Nat} (h : ¬ (dp ≤ k ∧ k < dp + n)) : va_cpy f g sp dp n k = g k := if_neg h
theorem nI_sb {a b : Nat} (h : b ≤ a) : nI a - nI b = nI (a - b) := by
  have : nI a = nI (a - b) + nI b := by rw [nI_ad]; congr 1; omega
  rw [this]; grind
theorem i0_nI : (0 : Int32) = nI 0 := rfl
theorem cl0 : Int32.toNatClampNeg 0 = 0 := rfl

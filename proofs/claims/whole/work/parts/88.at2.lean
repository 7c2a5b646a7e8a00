/-! IceOut.at: it answers, or throws -/
theorem da_0 : decode cX9_at 0 = .ok (.iload_n 1, 1) := by decide +kernel
theorem da_1 : decode cX9_at 1 = .ok (.invokestatic 139, 3) := by decide +kernel
theorem da_4 : decode cX9_at 4 = .ok (.ifCond .ne 11, 3) := by decide +kernel
theorem da_7 : decode cX9_at 7 = .ok (.new 326, 3) := by decide +kernel
theorem da_10 : decode cX9_at 10 = .ok (.dup, 1) := by decide +kernel
theorem da_11 : decode cX9_at 11 = .ok (.invokespecial 328, 3) := by decide +kernel
theorem da_14 : decode cX9_at 14 = .ok (.athrow, 1) := by decide +kernel
theorem da_15 : decode cX9_at 15 = .ok (.aload_n 0, 1) := by decide +kernel
theorem da_16 : decode cX9_at 16 = .ok (.getfield 76, 3) := by decide +kernel
theorem da_19 : decode cX9_at 19 = .ok (.iload_n 1, 1) := by decide +kernel
theorem da_20 : decode cX9_at 20 = .ok (.aaload, 1) := by decide +kernel
theorem da_21 : decode cX9_at 21 = .ok (.astore_n 3, 1) := by decide +kernel
theorem da_22 : decode cX9_at 22 = .ok (.aload_n 3, 1) := by decide +kernel
theorem da_23 : decode cX9_at 23 = .ok (.invokevirtual 312, 3) := by decide +kernel
theorem da_26 : decode cX9_at 26 = .ok (.ifCond .eq 11, 3) := by decide +kernel
theorem da_29 : decode cX9_at 29 = .ok (.aload_n 3, 1) := by decide +kernel
theorem da_30 : decode cX9_at 30 = .ok (.iload_n 2, 1) := by decide +kernel
theorem da_31 : decode cX9_at 31 = .ok (.invokevirtual 315, 3) := by decide +kernel
theorem da_34 : decode cX9_at 34 = .ok (.ifCond .ne 11, 3) := by decide +kernel
theorem da_37 : decode cX9_at 37 = .ok (.new 329, 3) := by decide +kernel
theorem da_40 : decode cX9_at 40 = .ok (.dup, 1) := by decide +kernel
theorem da_41 : decode cX9_at 41 = .ok (.invokespecial 331, 3) := by decide +kernel
theorem da_44 : decode cX9_at 44 = .ok (.athrow, 1) := by decide +kernel
theorem da_45 : decode cX9_at 45 = .ok (.aload_n 3, 1) := by decide +kernel
theorem da_46 : decode cX9_at 46 = .ok (.getfield 318, 3) := by decide +kernel
theorem da_49 : decode cX9_at 49 = .ok (.iload_n 2, 1) := by decide +kernel
theorem da_50 : decode cX9_at 50 = .ok (.laload, 1) := by decide +kernel
theorem da_51 : decode cX9_at 51 = .ok (.lreturn, 1) := by decide +kernel
def atK (w : PW) (a b : Int32) : Nat := if (0 : Int32) ≤ a ∧ a ≤ 5 then (if ((1 : Int32) ≤ gI w (a.toNatClampNeg, 70) 0 ∧ gI w (a.toNatClampNeg, 70) 0 ≤ 4) ∧ ((0 : Int32) ≤ b ∧ b < gI w (a.toNatClampNeg, 70) 1) then 0 else 2) else 1
def atV (w : PW) (a b : Int32) : Int64 := gL w (a.toNatClampNeg, 71) b.toNatClampNeg
def atX (E : String) : Nat := if E = xIA then 1 else 2
theorem mfR {l : Launch} (h : l.flags = flags0) : l.stackTraces = false := by unfold Launch.stackTraces; rw [h]; decide +kernel
set_option maxHeartbeats 4000000 in
set_option maxRecDepth 100000 in
theorem k_at (l : Launch) (hflags : l.flags = flags0) (D : va_G) (cI cZ cJ cW cP : ClassId) (ad : AD) (sz : Nat) (w : PW) (a b : Int32) (h100 : atK w a b = 0 → vp_in b 100) : vx_Met l yX9_at (Cond.code yX9_at cX9_at 4 (some .long) :: gT) { frames := 7, cells := 1, slots := 6, locals := 200 } (va_Pc [.ref (ad (0, 0)), .int a, .int b] (fun U => U.heap.size = sz ∧ va_P D vwCl (wsOf ad cI cZ cJ cW cP w) U.heap ∧ va_K D vwCl (tysOf cI cZ cJ cW cP) U ∧ va_D (fun _ => True) (wsOf ad cI cZ cJ cW cP w) ∧ hZs ad (va_A (wsOf ad cI cZ cJ cW cP w) sz) U ∧ xZ (va_A (wsOf ad cI cZ cJ cW cP w) sz) U ∧ xN U)) (va_Ql (fun x (_ : Unit) => atK w a b = 0 ∧ x = atV w a b) (fun _ t => va_P D vwCl (wsOf ad cI cZ cJ cW cP w) t.heap ∧ va_K D vwCl (tysOf cI cZ cJ cW cP) t ∧ va_D (va_A (wsOf ad cI cZ cJ cW cP w) sz) (wsOf ad cI cZ cJ cW cP w)) (va_A (wsOf ad cI cZ cJ cW cP w) sz)) (vx_X (fun _ : Unit => True) (fun E _ t => (E = xIA ∧ atK w a b = 1 ∨ E = xIS ∧ atK w a b = 2) ∧ va_P D vwCl (wsOf ad cI cZ cJ cW cP w) t.heap ∧ va_K D vwCl (tysOf cI cZ cJ cW cP) t ∧ va_D (va_A (wsOf ad cI cZ cJ cW cP w) sz) (wsOf ad cI cZ cJ cW cP w)) (va_A (wsOf ad cI cZ cJ cW cP w) sz)) 1 6 (va_A (wsOf ad cI cZ cJ cW cP w) sz) := by
  refine vx_ofW (cc := cX9_at) (maxL := 4) (ret := some .long) (by decide) rfl ?_
  intro p e s m args below meth c s₁ BB hml hnt hv
  obtain ⟨rfl, hsz, hP, hK, hD0, hZ, hXZ, hXN⟩ := hv
  have hx := BB.exec
  have hb := BB.bytes
  have hr := BB.returns
  have hts0 := atoms_spec (ws := Cond.code yX9_at cX9_at 4 (some .long) :: gT) BB.pre
  have hts : ∀ w ∈ gT, w.before _ s = true := fun w hw => hts0 w (List.mem_cons_of_mem _ hw)
  have hown : s.vm.findClass RX9 = some m.cls := findClass_of_methodNamed BB.named
  have hlocks := BB.notSynchronized
  subst hsz
  have hD := hD0.self (sz := s.heap.size)
  generalize hAe : va_A (wsOf ad cI cZ cJ cW cP w) s.heap.size = A at hD hZ hXZ ⊢
  have hA : ∀ q : Nat, s.heap.size ≤ q → A q := fun q h => by rw [← hAe]; exact Or.inr h
  have hS : va_S A s.heap s.heap [] := va_S.rf
  have hl := lv_entry ([.ref (ad (0, 0)), .int a, .int b]) (n := 4) (Nat.le_of_ble_eq_true rfl)
  rw [lg_entry_eq]
  generalize (lg_sl ([.ref (ad (0, 0)), .int a, .int b]) ++ List.replicate (4 - (lg_sl ([.ref (ad (0, 0)), .int a, .int b])).length) Slot.unset).toArray = ls at hl ⊢
  have hl : lv_has ls 4 [(0, .ref (ad (0, 0))), (1, .int a), (2, .int b)] := hl
  have hout : ∀ (n : Nat), ∀ x ∈ c.exceptionTable.toList, covers x n = false := fun n x hx => (hnt x hx).elim
  have wX : ∀ (H : Heap) (t : State) (A' : Nat → Prop), va_P D vwCl (wsOf ad cI cZ cJ cW cP w) H → va_D A (wsOf ad cI cZ cJ cW cP w) → s.vm.Alike t.vm → (∀ q : Nat, q < H.size → t.heap[q]? = H[q]?) → va_P D vwCl (wsOf ad cI cZ cJ cW cP w) t.heap ∧ va_K D vwCl (tysOf cI cZ cJ cW cP) t ∧ va_D A (wsOf ad cI cZ cJ cW cP w) := fun H t _ hP hD hvm hq => ⟨hP.kept (fun k x hx => hq x.1 ((hP k x hx).lt)), va_K.moved hvm hK, hD⟩
  refine lv_iload_n hx hb da_0 rfl (lv_at hl 1 rfl) ?_
  rw [← List.append_nil (wsOf ad cI cZ cJ cW cP w)] at hP hD
  refine b_methSI (mi := 98) (as := [vI a]) (rest := []) (k := fun x w' => x = bb ((0 : Int32) ≤ a ∧ a ≤ 5) ∧ w' = w) (X := []) (own := RX9) (cW := cW) (cP := cP) (ad := ad) (s_hasTape ⟨rfl, rfl⟩) (by decide) (by decide) (Or.inr (by decide)) ⟨trivial, trivial⟩ (show 1 ≤ mM 98 by decide) (show 1 = mN 98 by decide) hx hb hml hown hts hK hZ hP hD hS hA (in_gT (List.mem_of_getElem? (i := 563) (by decide +kernel)) rfl) ⟨by decide +kernel, by decide +kernel⟩ hl.1 (Nat.le_of_ble_eq_true rfl) da_1 ⟨Nat.le_of_ble_eq_true rfl, Nat.le_of_ble_eq_true rfl⟩ (fun x w' H locs hk hP hD hS => ?_)
  obtain ⟨rfl, hwe⟩ := hk
  rw [hwe] at hP hD
  rw [List.append_nil] at hP hD
  refine lv_if_ne (tgt := 15) hx hb da_4 (by decide) (fun c1 => ?_) (fun c1 => ?_)
  rotate_left
  · have ha : ¬ ((0 : Int32) ≤ a ∧ a ≤ 5) := bb_0.mp c1
    have hk1 : atK w a b = 1 := if_neg ha
    refine vx_throw0 (A := A) (own := RX9) (cls := xIA) (names := xNm) (ik := 326) (ic := 328) hx hb (mfR hflags) hown (by decide +kernel) (by decide +kernel) (hts _ (in_gT (List.mem_of_getElem? (i := 961) (by decide +kernel)) rfl)) (hts _ (in_gT (List.mem_of_getElem? (i := 77) (by decide +kernel)) rfl)) (x_IA hts hXN) xo_IA hXZ.1 hXZ.2 hS (hl.1.trans hml.symm) da_7 da_10 da_11 da_14 (hout _) (Nat.le_of_ble_eq_true rfl) (Nat.le_of_ble_eq_true rfl) (Nat.le_of_ble_eq_true rfl) (Nat.le_of_ble_eq_true rfl) hlocks (fun t hvm hz hq => ⟨(), trivial, ⟨Or.inl ⟨rfl, hk1⟩, wX _ t A hP hD hvm hq⟩, ⟨Nat.le_trans hS.1 hz, fun q h1 h2 => (hq q (Nat.lt_of_lt_of_le h1 hS.1)).trans (hS.2.1 q h1 h2)⟩⟩) hS.2.2 (Nat.le_refl _) (Nat.le_refl _)
  have ha : (0 : Int32) ≤ a ∧ a ≤ 5 := Decidable.not_not.mp (fun h => c1 (bb_0.mpr h))
  obtain ⟨dd, hd1, hd2, rfl⟩ := b_rng ha tl0 tl5 (by omega)
  have hdd : dd < 6 := by omega
  have ecl : (nI dd).toNatClampNeg = dd := cl_nI (by omega)
  have hk2 : atK w (nI dd) b = if ((1 : Int32) ≤ gI w (dd, 70) 0 ∧ gI w (dd, 70) 0 ≤ 4) ∧ ((0 : Int32) ≤ b ∧ b < gI w (dd, 70) 1) then 0 else 2 := by
    unfold atK; rw [if_pos ha, ecl]
  obtain ⟨q0, -, hq0⟩ := ws_at (ad := ad) (cI := cI) (cZ := cZ) (cJ := cJ) (cW := cW) (cP := cP) (w := w) (o := (0, 0)) (by decide +kernel)
  obtain ⟨q1, -, hq1⟩ := ws_at (ad := ad) (cI := cI) (cZ := cZ) (cJ := cJ) (cW := cW) (cP := cP) (w := w) (o := (0, 32)) (by decide +kernel)
  have o70 : ((dd, 70) : Ob) ∈ objs := by
    rcases (show dd = 0 ∨ dd = 1 ∨ dd = 2 ∨ dd = 3 ∨ dd = 4 ∨ dd = 5 by omega) with rfl | rfl | rfl | rfl | rfl | rfl <;> decide +kernel
  have o71 : ((dd, 71) : Ob) ∈ objs := by
    rcases (show dd = 0 ∨ dd = 1 ∨ dd = 2 ∨ dd = 3 ∨ dd = 4 ∨ dd = 5 by omega) with rfl | rfl | rfl | rfl | rfl | rfl <;> decide +kernel
  obtain ⟨q2, -, hq2⟩ := ws_at (ad := ad) (cI := cI) (cZ := cZ) (cJ := cJ) (cW := cW) (cP := cP) (w := w) o70
  obtain ⟨q3, -, hq3⟩ := ws_at (ad := ad) (cI := cI) (cZ := cZ) (cJ := cJ) (cW := cW) (cP := cP) (w := w) o71
  have g00 : cellOf ad cI cZ cJ cW cP w (0, 0) = .inr (9, [.ref (ad (0, 1)), .ref (ad (0, 13)), .ref (ad (0, 14)), .ref (ad (99, 54)), .ref (ad (0, 25)), .ref (ad (1, 40)), .ref (ad (2, 40)), .ref (ad (0, 29)), .ref (ad (0, 32)), .int (gI w (0, 0) 9), .int (gI w (0, 0) 10)]) := rfl
  have g32 : cellOf ad cI cZ cJ cW cP w (0, 32) = .inl (cP, 6, .inr (.inr (.inr (.inr (fun i => some (ad (i, 70))))))) := rfl
  have g70 : cellOf ad cI cZ cJ cW cP w (dd, 70) = .inr (7, [.int (gI w (dd, 70) 0), .int (gI w (dd, 70) 1), .int (gI w (dd, 70) 2), .ref (ad (dd, 71)), .ref (ad (3 + dd, 40))]) := rfl
  have g71 : cellOf ad cI cZ cJ cW cP w (dd, 71) = .inl (cJ, 100, .inr (.inl (gL w (dd, 71)))) := rfl
  rw [g00] at hq0
  rw [g32] at hq1
  rw [g70] at hq2
  rw [g71] at hq3
  refine lv_aload_n hx hb da_15 rfl (lv_at hl 0 rfl) ?_
  refine va_get (C := cR 9) (T := cT 9) (N := cN 9) (own := cR 9) (ref := cR 9) hx hb hts (fun w hw => fW_in (ci := 9) (by decide) hw) hown hK hP q0 hq0 (cl_at (ci := 9) (by decide)) 8 (by decide) (hts _ (in_gT (List.mem_of_getElem? (i := 495) (by decide +kernel)) rfl)) (fun _ h => h) (v := .ref (ad (0, 32))) rfl da_16 ?_
  refine lv_iload_n hx hb da_19 rfl (lv_at hl 1 rfl) ?_
  refine va_aldq hx hb hK hP q1 4 hq1 rfl (in_nI (by omega) (by omega)) da_20 ?_
  rw [ecl]
  refine lv_astore_n (x := ad (dd, 70)) (lv' := [(3, .ref (ad (dd, 70))), (0, .ref (ad (0, 0))), (1, .int (nI dd)), (2, .int b)]) hx hb da_21 rfl hl (by decide) rfl (fun ls hl => ?_)
  refine lv_aload_n hx hb da_22 rfl (lv_at hl 0 rfl) ?_
  rw [← List.append_nil (wsOf ad cI cZ cJ cW cP w)] at hP hD
  refine b_methI (mi := 49) (o := (dd, 70)) (as := []) (rest := []) (k := fun x w2 => x = bb ((1 : Int32) ≤ gI w (dd, 70) 0 ∧ gI w (dd, 70) 0 ≤ 4) ∧ w2 = w) (X := []) (own := RX9) (cW := cW) (cP := cP) (ad := ad) (s_X7_isRow (dd, 70) rfl ⟨rfl, rfl⟩) (by decide) (by decide) (Or.inr (by decide)) rfl rfl (show (7 : Nat) < 11 by decide) o70 trivial (show 1 ≤ mM 49 by decide) (show 1 = mN 49 by decide) hx hb hml hown hts hK hZ hP hD hS hA (in_gT (List.mem_of_getElem? (i := 927) (by decide +kernel)) rfl) ⟨by decide +kernel, by decide +kernel⟩ hl.1 (Nat.le_of_ble_eq_true rfl) da_23 ⟨Nat.le_of_ble_eq_true rfl, Nat.le_of_ble_eq_true rfl⟩ (fun x w2 H locs hk hP hD hS => ?_)
  obtain ⟨rfl, hwe⟩ := hk
  rw [hwe] at hP hD
  rw [List.append_nil] at hP hD
  refine lv_if_eq (tgt := 37) hx hb da_26 (by decide) (fun c2 => ?_) (fun c2 => ?_)
  · have hk3 : atK w (nI dd) b = 2 := by rw [hk2, if_neg (fun h => bb_0.mp c2 h.1)]
    refine vx_throw0 (A := A) (own := RX9) (cls := xIS) (names := xNm) (ik := 329) (ic := 331) hx hb (mfR hflags) hown (by decide +kernel) (by decide +kernel) (hts _ (in_gT (List.mem_of_getElem? (i := 1023) (by decide +kernel)) rfl)) (hts _ (in_gT (List.mem_of_getElem? (i := 78) (by decide +kernel)) rfl)) (x_IS hts hXN) xo_IS hXZ.1 hXZ.2 hS (hl.1.trans hml.symm) da_37 da_40 da_41 da_44 (hout _) (Nat.le_of_ble_eq_true rfl) (Nat.le_of_ble_eq_true rfl) (Nat.le_of_ble_eq_true rfl) (Nat.le_of_ble_eq_true rfl) hlocks (fun t hvm hz hq => ⟨(), trivial, ⟨Or.inr ⟨rfl, hk3⟩, wX _ t A hP hD hvm hq⟩, ⟨Nat.le_trans hS.1 hz, fun q h1 h2 => (hq q (Nat.lt_of_lt_of_le h1 hS.1)).trans (hS.2.1 q h1 h2)⟩⟩) hS.2.2 (Nat.le_refl _) (Nat.le_refl _)
  refine lv_aload_n hx hb da_29 rfl (lv_at hl 0 rfl) ?_
  refine lv_iload_n hx hb da_30 rfl (lv_at hl 3 rfl) ?_
  rw [← List.append_nil (wsOf ad cI cZ cJ cW cP w)] at hP hD
  refine b_methI (mi := 50) (o := (dd, 70)) (as := [vI b]) (rest := []) (k := fun x w3 => x = bb ((0 : Int32) ≤ b ∧ b < gI w (dd, 70) 1) ∧ w3 = w) (X := []) (own := RX9) (cW := cW) (cP := cP) (ad := ad) (s_X7_hasPlace (dd, 70) b rfl ⟨rfl, rfl⟩) (by decide) (by decide) (Or.inr (by decide)) rfl rfl (show (7 : Nat) < 11 by decide) o70 ⟨trivial, trivial⟩ (show 2 ≤ mM 50 by decide) (show 2 = mN 50 by decide) hx hb hml hown hts hK hZ hP hD hS hA (in_gT (List.mem_of_getElem? (i := 931) (by decide +kernel)) rfl) ⟨by decide +kernel, by decide +kernel⟩ hl.1 (Nat.le_of_ble_eq_true rfl) da_31 ⟨Nat.le_of_ble_eq_true rfl, Nat.le_of_ble_eq_true rfl⟩ (fun x w3 H locs hk hP hD hS => ?_)
  obtain ⟨rfl, hwe⟩ := hk
  rw [hwe] at hP hD
  rw [List.append_nil] at hP hD
  refine lv_if_ne (tgt := 45) hx hb da_34 (by decide) (fun c3 => ?_) (fun c3 => ?_)
  rotate_left
  · have hk3 : atK w (nI dd) b = 2 := by rw [hk2, if_neg (fun h => bb_0.mp c3 h.2)]
    refine vx_throw0 (A := A) (own := RX9) (cls := xIS) (names := xNm) (ik := 329) (ic := 331) hx hb (mfR hflags) hown (by decide +kernel) (by decide +kernel) (hts _ (in_gT (List.mem_of_getElem? (i := 1023) (by decide +kernel)) rfl)) (hts _ (in_gT (List.mem_of_getElem? (i := 78) (by decide +kernel)) rfl)) (x_IS hts hXN) xo_IS hXZ.1 hXZ.2 hS (hl.1.trans hml.symm) da_37 da_40 da_41 da_44 (hout _) (Nat.le_of_ble_eq_true rfl) (Nat.le_of_ble_eq_true rfl) (Nat.le_of_ble_eq_true rfl) (Nat.le_of_ble_eq_true rfl) hlocks (fun t hvm hz hq => ⟨(), trivial, ⟨Or.inr ⟨rfl, hk3⟩, wX _ t A hP hD hvm hq⟩, ⟨Nat.le_trans hS.1 hz, fun q h1 h2 => (hq q (Nat.lt_of_lt_of_le h1 hS.1)).trans (hS.2.1 q h1 h2)⟩⟩) hS.2.2 (Nat.le_refl _) (Nat.le_refl _)
  have hr1 := Decidable.not_not.mp (fun h => c2 (bb_0.mpr h))
  have hr2 := Decidable.not_not.mp (fun h => c3 (bb_0.mpr h))
  have hk0 : atK w (nI dd) b = 0 := by rw [hk2, if_pos ⟨hr1, hr2⟩]
  refine lv_aload_n hx hb da_45 rfl (lv_at hl 0 rfl) ?_
  refine va_get (C := cR 7) (T := cT 7) (N := cN 7) (own := cR 9) (ref := cR 7) hx hb hts (fun w hw => fW_in (ci := 7) (by decide) hw) hown hK hP q2 hq2 (cl_at (ci := 7) (by decide)) 3 (by decide) (hts _ (in_gT (List.mem_of_getElem? (i := 440) (by decide +kernel)) rfl)) (fun _ h => h) (v := .ref (ad (dd, 71))) rfl da_46 ?_
  refine lv_iload_n hx hb da_49 rfl (lv_at hl 3 rfl) ?_
  refine va_lald hx hb hK hP q3 2 hq3 rfl (h100 hk0) da_50 ?_
  refine vx_ret ?_
  refine W.widen (k := 1) (n := 6) (Nat.le_of_ble_eq_true rfl) (Nat.le_of_ble_eq_true rfl) ?_
  exact W.lret hx hb hr (fun t ht hW => ⟨⟨_, (), rfl, ⟨hk0, by unfold atV; rw [ecl]⟩, by rw [ht]; exact hP, va_K.moved hW.alike hK, hD⟩, hS.F ht⟩) hS.2.2 da_51

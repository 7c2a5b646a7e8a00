/-! constructors: Weather, Acts, Book, Stepper -/
theorem dk8_0 : decode cX8_init 0 = .ok (.aload_n 0, 1) := by decide +kernel
theorem dk8_1 : decode cX8_init 1 = .ok (.invokespecial 3, 3) := by decide +kernel
theorem dk8_4 : decode cX8_init 4 = .ok (.aload_n 0, 1) := by decide +kernel
theorem dk8_5 : decode cX8_init 5 = .ok (.bipush 64, 2) := by decide +kernel
theorem dk8_7 : decode cX8_init 7 = .ok (.newarray .int, 2) := by decide +kernel
theorem dk8_9 : decode cX8_init 9 = .ok (.putfield 9, 3) := by decide +kernel
theorem dk8_12 : decode cX8_init 12 = .ok (.aload_n 0, 1) := by decide +kernel
theorem dk8_13 : decode cX8_init 13 = .ok (.bipush 64, 2) := by decide +kernel
theorem dk8_15 : decode cX8_init 15 = .ok (.newarray .int, 2) := by decide +kernel
theorem dk8_17 : decode cX8_init 17 = .ok (.putfield 15, 3) := by decide +kernel
theorem dk8_20 : decode cX8_init 20 = .ok (.aload_n 0, 1) := by decide +kernel
theorem dk8_21 : decode cX8_init 21 = .ok (.iconst 1, 1) := by decide +kernel
theorem dk8_22 : decode cX8_init 22 = .ok (.putfield 18, 3) := by decide +kernel
theorem dk8_25 : decode cX8_init 25 = .ok (.return_, 1) := by decide +kernel
set_option maxHeartbeats 4000000 in
set_option maxRecDepth 100000 in
theorem k_X8 (l : Launch) (D : va_G) (cI cZ cJ cW cP : ClassId) (h0 sz : Nat) (g : Nat) : Met l yX8_init (Cond.code yX8_init cX8_init 1 none :: gT) { frames := 1, cells := 2, slots := 128, locals := 16 } (va_Pc [.ref h0] (fun U => U.heap.size = sz ∧ va_P D vwCl [(h0, .inr (8, [.null, .null, .int 0]))] U.heap ∧ va_K D vwCl (KT cI cZ cJ) U ∧ va_D (fun _ => True) [(h0, .inr (8, [.null, .null, .int 0]))])) (va_Qv (fun ad : AD => ad (g, 80) = h0) (fun ad t => va_P D vwCl (WS ad cI cZ cJ cW cP z0 [(g, 80), (g, 81), (g, 82)]) t.heap ∧ va_K D vwCl (KT cI cZ cJ) t ∧ va_D (va_A [(h0, .inr (8, [.null, .null, .int 0]))] sz) (WS ad cI cZ cJ cW cP z0 [(g, 80), (g, 81), (g, 82)])) (va_A [(h0, .inr (8, [.null, .null, .int 0]))] sz)) 2 128 (va_A [(h0, .inr (8, [.null, .null, .int 0]))] sz) := by
  refine Met.ofW (cc := cX8_init) (maxL := 1) (ret := none) (by decide) rfl ?_
  intro p e s m args below meth c s₁ B hml hv
  obtain ⟨rfl, hsz, hP, hK, hD0⟩ := hv
  have hx := B.exec
  have hb := B.bytes
  have hr := B.returns
  have hts0 := atoms_spec (ws := Cond.code yX8_init cX8_init 1 none :: gT) B.pre
  have hts : ∀ w ∈ gT, w.before _ s = true := fun w hw => hts0 w (List.mem_cons_of_mem _ hw)
  have hown : s.vm.findClass (cR 8) = some m.cls := findClass_of_methodNamed B.named
  have hlocks := B.notSynchronized
  have hin : meth.name = "<init>" := (name_of_methodNamed B.named B.method).1
  subst hsz
  have hD := hD0.self (sz := s.heap.size)
  generalize hAe : va_A [(h0, .inr (8, [.null, .null, .int 0]))] s.heap.size = A at hD ⊢
  have hA : ∀ q : Nat, s.heap.size ≤ q → A q := fun q h => by rw [← hAe]; exact Or.inr h
  have hS : va_S A s.heap s.heap [] := va_S.rf
  have hP : va_P D vwCl [(h0, .inr (8, [.null, .null, .int 0]))] s.heap := hP
  have hl := lv_entry ([.ref h0]) (n := 1) (Nat.le_of_ble_eq_true rfl)
  rw [lg_entry_eq]
  generalize (lg_sl ([.ref h0]) ++ List.replicate (1 - (lg_sl ([.ref h0])).length) Slot.unset).toArray = ls at hl ⊢
  have hl : lv_has ls 1 [(0, .ref h0)] := hl
  refine lv_aload_n hx hb dk8_0 rfl (lv_at hl 0 rfl) ?_
  refine W.objInit hx hb hown (hts _ (in_gT (List.mem_of_getElem? (i := 171) (by decide +kernel)) rfl)) (hts _ (in_gT (List.mem_of_getElem? (i := 85) (by decide +kernel)) rfl)) (hts _ objc_gT) rfl (by rw [hml]; exact hl.1) rfl dk8_1 (Nat.le_of_ble_eq_true rfl) (Nat.le_of_ble_eq_true rfl) ?_
  refine W.eq (g2 := F0 m 4 ls []) rfl ?_
  refine lv_aload_n hx hb dk8_4 rfl (lv_at hl 0 rfl) ?_
  refine lv_bipush (v := nI 64) hx hb dk8_5 (by decide +kernel) ?_
  refine b_arrI (ci := 8) (N := 64) hx hb hts hown hin (by decide) hK hP hD hS hA 0 (by decide) (in_gT (List.mem_of_getElem? (i := 172) (by decide +kernel)) rfl) rfl rfl (by decide +kernel) (Nat.le_of_ble_eq_true rfl) (by decide) (Nat.le_of_ble_eq_true rfl) (Nat.le_of_ble_eq_true rfl) dk8_7 dk8_9 (fun q1 H locs hP hD hS => ?_)
  refine lv_aload_n hx hb dk8_12 rfl (lv_at hl 0 rfl) ?_
  refine lv_bipush (v := nI 64) hx hb dk8_13 (by decide +kernel) ?_
  refine b_arrI (ci := 8) (N := 64) hx hb hts hown hin (by decide) hK hP hD hS hA 1 (by decide) (in_gT (List.mem_of_getElem? (i := 173) (by decide +kernel)) rfl) rfl rfl (by decide +kernel) (Nat.le_of_ble_eq_true rfl) (by decide) (Nat.le_of_ble_eq_true rfl) (Nat.le_of_ble_eq_true rfl) dk8_15 dk8_17 (fun q2 H locs hP hD hS => ?_)
  refine lv_aload_n hx hb dk8_20 rfl (lv_at hl 0 rfl) ?_
  refine lv_iconst (v := 1) hx hb dk8_21 (by decide +kernel) ?_
  refine va_put (C := cR 8) (T := cT 8) (N := cN 8) (own := cR 8) (ref := cR 8) hx hb hts (fun w hw => fW_in (ci := 8) (by decide) hw) (tyF 8) (tyF_ok (ci := 8) (by decide)) (nmF (ci := 8) (by decide)) hown hK hP hD hS 0 rfl (cl_at (ci := 8) (by decide)) 2 (by decide) (hts _ (in_gT (List.mem_of_getElem? (i := 174) (by decide +kernel)) rfl)) (fun _ h => h) rfl (ty := .int) (v := .int 1) (by decide +kernel) rfl rfl (Nat.le_of_ble_eq_true rfl) dk8_22 (fun H locs hP hD hS => ?_)
  refine W.widen (k := 2) (n := 128) (Nat.le_of_ble_eq_true rfl) (Nat.le_of_ble_eq_true rfl) ?_
  exact W.vret hx hb hr (fun t ht hW => ⟨⟨adL [h0, q1, q2] 80, rfl, rfl, by rw [ht]; exact hP, va_K.moved hW.alike hK, hD⟩, hS.F ht⟩) hS.2.2 dk8_25
theorem dk0_0 : decode cX0_init 0 = .ok (.aload_n 0, 1) := by decide +kernel
theorem dk0_1 : decode cX0_init 1 = .ok (.invokespecial 1, 3) := by decide +kernel
theorem dk0_4 : decode cX0_init 4 = .ok (.aload_n 0, 1) := by decide +kernel
theorem dk0_5 : decode cX0_init 5 = .ok (.iload_n 1, 1) := by decide +kernel
theorem dk0_6 : decode cX0_init 6 = .ok (.newarray .int, 2) := by decide +kernel
theorem dk0_8 : decode cX0_init 8 = .ok (.putfield 7, 3) := by decide +kernel
theorem dk0_11 : decode cX0_init 11 = .ok (.aload_n 0, 1) := by decide +kernel
theorem dk0_12 : decode cX0_init 12 = .ok (.iload_n 1, 1) := by decide +kernel
theorem dk0_13 : decode cX0_init 13 = .ok (.newarray .int, 2) := by decide +kernel
theorem dk0_15 : decode cX0_init 15 = .ok (.putfield 13, 3) := by decide +kernel
theorem dk0_18 : decode cX0_init 18 = .ok (.aload_n 0, 1) := by decide +kernel
theorem dk0_19 : decode cX0_init 19 = .ok (.iload_n 1, 1) := by decide +kernel
theorem dk0_20 : decode cX0_init 20 = .ok (.newarray .int, 2) := by decide +kernel
theorem dk0_22 : decode cX0_init 22 = .ok (.putfield 16, 3) := by decide +kernel
theorem dk0_25 : decode cX0_init 25 = .ok (.return_, 1) := by decide +kernel
set_option maxHeartbeats 4000000 in
set_option maxRecDepth 100000 in
theorem k_X0 (l : Launch) (D : va_G) (cI cZ cJ cW cP : ClassId) (h0 sz : Nat) (g : Nat) (hN : len g 55 ≤ 40) : Met l yX0_init (Cond.code yX0_init cX0_init 2 none :: gT) { frames := 1, cells := 3, slots := 120, locals := 16 } (va_Pc [.ref h0, .int (nI (len g 55))] (fun U => U.heap.size = sz ∧ va_P D vwCl [(h0, .inr (0, [.null, .null, .null, .int 0]))] U.heap ∧ va_K D vwCl (KT cI cZ cJ) U ∧ va_D (fun _ => True) [(h0, .inr (0, [.null, .null, .null, .int 0]))])) (va_Qv (fun ad : AD => ad (g, 54) = h0) (fun ad t => va_P D vwCl (WS ad cI cZ cJ cW cP z0 [(g, 54), (g, 55), (g, 56), (g, 57)]) t.heap ∧ va_K D vwCl (KT cI cZ cJ) t ∧ va_D (va_A [(h0, .inr (0, [.null, .null, .null, .int 0]))] sz) (WS ad cI cZ cJ cW cP z0 [(g, 54), (g, 55), (g, 56), (g, 57)])) (va_A [(h0, .inr (0, [.null, .null, .null, .int 0]))] sz)) 3 120 (va_A [(h0, .inr (0, [.null, .null, .null, .int 0]))] sz) := by
  refine Met.ofW (cc := cX0_init) (maxL := 2) (ret := none) (by decide) rfl ?_
  intro p e s m args below meth c s₁ B hml hv
  obtain ⟨rfl, hsz, hP, hK, hD0⟩ := hv
  have hx := B.exec
  have hb := B.bytes
  have hr := B.returns
  have hts0 := atoms_spec (ws := Cond.code yX0_init cX0_init 2 none :: gT) B.pre
  have hts : ∀ w ∈ gT, w.before _ s = true := fun w hw => hts0 w (List.mem_cons_of_mem _ hw)
  have hown : s.vm.findClass (cR 0) = some m.cls := findClass_of_methodNamed B.named
  have hlocks := B.notSynchronized
  have hin : meth.name = "<init>" := (name_of_methodNamed B.named B.method).1
  subst hsz
  have hD := hD0.self (sz := s.heap.size)
  generalize hAe : va_A [(h0, .inr (0, [.null, .null, .null, .int 0]))] s.heap.size = A at hD ⊢
  have hA : ∀ q : Nat, s.heap.size ≤ q → A q := fun q h => by rw [← hAe]; exact Or.inr h
  have hS : va_S A s.heap s.heap [] := va_S.rf
  have hP : va_P D vwCl [(h0, .inr (0, [.null, .null, .null, .int 0]))] s.heap := hP
  have hl := lv_entry ([.ref h0, .int (nI (len g 55))]) (n := 2) (Nat.le_of_ble_eq_true rfl)
  rw [lg_entry_eq]
  generalize (lg_sl ([.ref h0, .int (nI (len g 55))]) ++ List.replicate (2 - (lg_sl ([.ref h0, .int (nI (len g 55))])).length) Slot.unset).toArray = ls at hl ⊢
  have hl : lv_has ls 2 [(0, .ref h0), (1, .int (nI (len g 55)))] := hl
  refine lv_aload_n hx hb dk0_0 rfl (lv_at hl 0 rfl) ?_
  refine W.objInit hx hb hown (hts _ (in_gT (List.mem_of_getElem? (i := 223) (by decide +kernel)) rfl)) (hts _ (in_gT (List.mem_of_getElem? (i := 85) (by decide +kernel)) rfl)) (hts _ objc_gT) rfl (by rw [hml]; exact hl.1) rfl dk0_1 (Nat.le_of_ble_eq_true rfl) (Nat.le_of_ble_eq_true rfl) ?_
  refine W.eq (g2 := F0 m 4 ls []) rfl ?_
  refine lv_aload_n hx hb dk0_4 rfl (lv_at hl 0 rfl) ?_
  refine lv_iload_n hx hb dk0_5 rfl (lv_at hl 1 rfl) ?_
  refine b_arrI (ci := 0) (N := len g 55) hx hb hts hown hin (by decide) hK hP hD hS hA 0 (by decide) (in_gT (List.mem_of_getElem? (i := 224) (by decide +kernel)) rfl) rfl rfl (by decide +kernel) (Nat.le_of_ble_eq_true rfl) (by omega) (Nat.le_of_ble_eq_true rfl) (by show 0 + len g 55 ≤ 120; omega) dk0_6 dk0_8 (fun q1 H locs hP hD hS => ?_)
  refine lv_aload_n hx hb dk0_11 rfl (lv_at hl 0 rfl) ?_
  refine lv_iload_n hx hb dk0_12 rfl (lv_at hl 1 rfl) ?_
  refine b_arrI (ci := 0) (N := len g 55) hx hb hts hown hin (by decide) hK hP hD hS hA 1 (by decide) (in_gT (List.mem_of_getElem? (i := 226) (by decide +kernel)) rfl) rfl rfl (by decide +kernel) (Nat.le_of_ble_eq_true rfl) (by omega) (Nat.le_of_ble_eq_true rfl) (by show 0 + len g 55 + len g 55 ≤ 120; omega) dk0_13 dk0_15 (fun q2 H locs hP hD hS => ?_)
  refine lv_aload_n hx hb dk0_18 rfl (lv_at hl 0 rfl) ?_
  refine lv_iload_n hx hb dk0_19 rfl (lv_at hl 1 rfl) ?_
  refine b_arrI (ci := 0) (N := len g 55) hx hb hts hown hin (by decide) hK hP hD hS hA 2 (by decide) (in_gT (List.mem_of_getElem? (i := 229) (by decide +kernel)) rfl) rfl rfl (by decide +kernel) (Nat.le_of_ble_eq_true rfl) (by omega) (Nat.le_of_ble_eq_true rfl) (by show 0 + len g 55 + len g 55 + len g 55 ≤ 120; omega) dk0_20 dk0_22 (fun q3 H locs hP hD hS => ?_)
  refine W.widen (k := 3) (n := 120) (Nat.le_of_ble_eq_true rfl) (by omega) ?_
  exact W.vret hx hb hr (fun t ht hW => ⟨⟨adL [h0, q1, q2, q3] 54, rfl, rfl, by rw [ht]; exact hP, va_K.moved hW.alike hK, hD⟩, hS.F ht⟩) hS.2.2 dk0_25
theorem dk1_0 : decode cX1_init 0 = .ok (.aload_n 0, 1) := by decide +kernel
theorem dk1_1 : decode cX1_init 1 = .ok (.invokespecial 3, 3) := by decide +kernel
theorem dk1_4 : decode cX1_init 4 = .ok (.aload_n 0, 1) := by decide +kernel
theorem dk1_5 : decode cX1_init 5 = .ok (.bipush 40, 2) := by decide +kernel
theorem dk1_7 : decode cX1_init 7 = .ok (.newarray .int, 2) := by decide +kernel
theorem dk1_9 : decode cX1_init 9 = .ok (.putfield 9, 3) := by decide +kernel
theorem dk1_12 : decode cX1_init 12 = .ok (.aload_n 0, 1) := by decide +kernel
theorem dk1_13 : decode cX1_init 13 = .ok (.bipush 40, 2) := by decide +kernel
theorem dk1_15 : decode cX1_init 15 = .ok (.newarray .int, 2) := by decide +kernel
theorem dk1_17 : decode cX1_init 17 = .ok (.putfield 15, 3) := by decide +kernel
theorem dk1_20 : decode cX1_init 20 = .ok (.aload_n 0, 1) := by decide +kernel
theorem dk1_21 : decode cX1_init 21 = .ok (.bipush 40, 2) := by decide +kernel
theorem dk1_23 : decode cX1_init 23 = .ok (.newarray .int, 2) := by decide +kernel
theorem dk1_25 : decode cX1_init 25 = .ok (.putfield 18, 3) := by decide +kernel
theorem dk1_28 : decode cX1_init 28 = .ok (.aload_n 0, 1) := by decide +kernel
theorem dk1_29 : decode cX1_init 29 = .ok (.iload_n 1, 1) := by decide +kernel
theorem dk1_30 : decode cX1_init 30 = .ok (.iconst 1, 1) := by decide +kernel
theorem dk1_31 : decode cX1_init 31 = .ok (.iadd, 1) := by decide +kernel
theorem dk1_32 : decode cX1_init 32 = .ok (.bipush 24, 2) := by decide +kernel
theorem dk1_34 : decode cX1_init 34 = .ok (.imul, 1) := by decide +kernel
theorem dk1_35 : decode cX1_init 35 = .ok (.newarray .int, 2) := by decide +kernel
theorem dk1_37 : decode cX1_init 37 = .ok (.putfield 21, 3) := by decide +kernel
theorem dk1_40 : decode cX1_init 40 = .ok (.aload_n 0, 1) := by decide +kernel
theorem dk1_41 : decode cX1_init 41 = .ok (.iload_n 1, 1) := by decide +kernel
theorem dk1_42 : decode cX1_init 42 = .ok (.iconst 1, 1) := by decide +kernel
theorem dk1_43 : decode cX1_init 43 = .ok (.iadd, 1) := by decide +kernel
theorem dk1_44 : decode cX1_init 44 = .ok (.bipush 24, 2) := by decide +kernel
theorem dk1_46 : decode cX1_init 46 = .ok (.imul, 1) := by decide +kernel
theorem dk1_47 : decode cX1_init 47 = .ok (.newarray .int, 2) := by decide +kernel
theorem dk1_49 : decode cX1_init 49 = .ok (.putfield 24, 3) := by decide +kernel
theorem dk1_52 : decode cX1_init 52 = .ok (.aload_n 0, 1) := by decide +kernel
theorem dk1_53 : decode cX1_init 53 = .ok (.iload_n 1, 1) := by decide +kernel
theorem dk1_54 : decode cX1_init 54 = .ok (.iconst 1, 1) := by decide +kernel
theorem dk1_55 : decode cX1_init 55 = .ok (.iadd, 1) := by decide +kernel
theorem dk1_56 : decode cX1_init 56 = .ok (.bipush 24, 2) := by decide +kernel
theorem dk1_58 : decode cX1_init 58 = .ok (.imul, 1) := by decide +kernel
theorem dk1_59 : decode cX1_init 59 = .ok (.newarray .int, 2) := by decide +kernel
theorem dk1_61 : decode cX1_init 61 = .ok (.putfield 27, 3) := by decide +kernel
theorem dk1_64 : decode cX1_init 64 = .ok (.return_, 1) := by decide +kernel
theorem bk_n {nh n : Nat} (h : (nh + 1) * 24 = n) : (nI nh + nI 1) * nI 24 = nI n := by rw [nI_ad, nI_ml, h]
def adB (l : List Nat) : AD := fun o => l.getD (match o.2 with | 62 => 0 | 66 => 1 | 67 => 2 | 68 => 3 | 63 => 4 | 64 => 5 | _ => 6) 0
set_option maxHeartbeats 4000000 in
set_option maxRecDepth 100000 in
theorem k_X1 (l : Launch) (D : va_G) (cI cZ cJ cW cP : ClassId) (h0 sz : Nat) (g nh : Nat) (hN : len g 63 ≤ 9528) (hh : (nh + 1) * 24 = len g 63) : Met l yX1_init (Cond.code yX1_init cX1_init 2 none :: gT) { frames := 1, cells := 6, slots := 28704, locals := 16 } (va_Pc [.ref h0, .int (nI nh)] (fun U => U.heap.size = sz ∧ va_P D vwCl [(h0, .inr (1, [.null, .null, .null, .null, .null, .null, .int 0]))] U.heap ∧ va_K D vwCl (KT cI cZ cJ) U ∧ va_D (fun _ => True) [(h0, .inr (1, [.null, .null, .null, .null, .null, .null, .int 0]))])) (va_Qv (fun ad : AD => ad (g, 62) = h0) (fun ad t => va_P D vwCl (WS ad cI cZ cJ cW cP z0 [(g, 62), (g, 66), (g, 67), (g, 68), (g, 63), (g, 64), (g, 65)]) t.heap ∧ va_K D vwCl (KT cI cZ cJ) t ∧ va_D (va_A [(h0, .inr (1, [.null, .null, .null, .null, .null, .null, .int 0]))] sz) (WS ad cI cZ cJ cW cP z0 [(g, 62), (g, 66), (g, 67), (g, 68), (g, 63), (g, 64), (g, 65)])) (va_A [(h0, .inr (1, [.null, .null, .null, .null, .null, .null, .int 0]))] sz)) 6 28704 (va_A [(h0, .inr (1, [.null, .null, .null, .null, .null, .null, .int 0]))] sz) := by
  refine Met.ofW (cc := cX1_init) (maxL := 2) (ret := none) (by decide) rfl ?_
  intro p e s m args below meth c s₁ B hml hv
  obtain ⟨rfl, hsz, hP, hK, hD0⟩ := hv
  have hx := B.exec
  have hb := B.bytes
  have hr := B.returns
  have hts0 := atoms_spec (ws := Cond.code yX1_init cX1_init 2 none :: gT) B.pre
  have hts : ∀ w ∈ gT, w.before _ s = true := fun w hw => hts0 w (List.mem_cons_of_mem _ hw)
  have hown : s.vm.findClass (cR 1) = some m.cls := findClass_of_methodNamed B.named
  have hlocks := B.notSynchronized
  have hin : meth.name = "<init>" := (name_of_methodNamed B.named B.method).1
  subst hsz
  have hD := hD0.self (sz := s.heap.size)
  generalize hAe : va_A [(h0, .inr (1, [.null, .null, .null, .null, .null, .null, .int 0]))] s.heap.size = A at hD ⊢
  have hA : ∀ q : Nat, s.heap.size ≤ q → A q := fun q h => by rw [← hAe]; exact Or.inr h
  have hS : va_S A s.heap s.heap [] := va_S.rf
  have hP : va_P D vwCl [(h0, .inr (1, [.null, .null, .null, .null, .null, .null, .int 0]))] s.heap := hP
  have hl := lv_entry ([.ref h0, .int (nI nh)]) (n := 2) (Nat.le_of_ble_eq_true rfl)
  rw [lg_entry_eq]
  generalize (lg_sl ([.ref h0, .int (nI nh)]) ++ List.replicate (2 - (lg_sl ([.ref h0, .int (nI nh)])).length) Slot.unset).toArray = ls at hl ⊢
  have hl : lv_has ls 2 [(0, .ref h0), (1, .int (nI nh))] := hl
  refine lv_aload_n hx hb dk1_0 rfl (lv_at hl 0 rfl) ?_
  refine W.objInit hx hb hown (hts _ (in_gT (List.mem_of_getElem? (i := 272) (by decide +kernel)) rfl)) (hts _ (in_gT (List.mem_of_getElem? (i := 85) (by decide +kernel)) rfl)) (hts _ objc_gT) rfl (by rw [hml]; exact hl.1) rfl dk1_1 (Nat.le_of_ble_eq_true rfl) (Nat.le_of_ble_eq_true rfl) ?_
  refine W.eq (g2 := F0 m 4 ls []) rfl ?_
  refine lv_aload_n hx hb dk1_4 rfl (lv_at hl 0 rfl) ?_
  refine lv_bipush (v := nI 40) hx hb dk1_5 (by decide +kernel) ?_
  refine b_arrI (ci := 1) (N := 40) hx hb hts hown hin (by decide) hK hP hD hS hA 3 (by decide) (in_gT (List.mem_of_getElem? (i := 276) (by decide +kernel)) rfl) rfl rfl (by decide +kernel) (Nat.le_of_ble_eq_true rfl) (by decide) (Nat.le_of_ble_eq_true rfl) (Nat.le_of_ble_eq_true rfl) dk1_7 dk1_9 (fun q1 H locs hP hD hS => ?_)
  refine lv_aload_n hx hb dk1_12 rfl (lv_at hl 0 rfl) ?_
  refine lv_bipush (v := nI 40) hx hb dk1_13 (by decide +kernel) ?_
  refine b_arrI (ci := 1) (N := 40) hx hb hts hown hin (by decide) hK hP hD hS hA 4 (by decide) (in_gT (List.mem_of_getElem? (i := 277) (by decide +kernel)) rfl) rfl rfl (by decide +kernel) (Nat.le_of_ble_eq_true rfl) (by decide) (Nat.le_of_ble_eq_true rfl) (Nat.le_of_ble_eq_true rfl) dk1_15 dk1_17 (fun q2 H locs hP hD hS => ?_)
  refine lv_aload_n hx hb dk1_20 rfl (lv_at hl 0 rfl) ?_
  refine lv_bipush (v := nI 40) hx hb dk1_21 (by decide +kernel) ?_
  refine b_arrI (ci := 1) (N := 40) hx hb hts hown hin (by decide) hK hP hD hS hA 5 (by decide) (in_gT (List.mem_of_getElem? (i := 278) (by decide +kernel)) rfl) rfl rfl (by decide +kernel) (Nat.le_of_ble_eq_true rfl) (by decide) (Nat.le_of_ble_eq_true rfl) (Nat.le_of_ble_eq_true rfl) dk1_23 dk1_25 (fun q3 H locs hP hD hS => ?_)
  refine lv_aload_n hx hb dk1_28 rfl (lv_at hl 0 rfl) ?_
  refine lv_iload_n hx hb dk1_29 rfl (lv_at hl 1 rfl) ?_
  refine lv_iconst (v := nI 1) hx hb dk1_30 (by decide +kernel) ?_
  refine lv_iadd hx hb dk1_31 ?_
  refine lv_bipush (v := nI 24) hx hb dk1_32 (by decide +kernel) ?_
  refine lv_imul hx hb dk1_34 ?_
  refine W.eq (g2 := F0 m 35 ls [.int (nI (len g 63)), .ref h0]) (by rw [bk_n hh]) ?_
  refine b_arrI (ci := 1) (N := len g 63) hx hb hts hown hin (by decide) hK hP hD hS hA 0 (by decide) (in_gT (List.mem_of_getElem? (i := 273) (by decide +kernel)) rfl) rfl rfl (by decide +kernel) (Nat.le_of_ble_eq_true rfl) (by omega) (Nat.le_of_ble_eq_true rfl) (by show 0 + 40 + 40 + 40 + len g 63 ≤ 28704; omega) dk1_35 dk1_37 (fun q4 H locs hP hD hS => ?_)
  refine lv_aload_n hx hb dk1_40 rfl (lv_at hl 0 rfl) ?_
  refine lv_iload_n hx hb dk1_41 rfl (lv_at hl 1 rfl) ?_
  refine lv_iconst (v := nI 1) hx hb dk1_42 (by decide +kernel) ?_
  refine lv_iadd hx hb dk1_43 ?_
  refine lv_bipush (v := nI 24) hx hb dk1_44 (by decide +kernel) ?_
  refine lv_imul hx hb dk1_46 ?_
  refine W.eq (g2 := F0 m 47 ls [.int (nI (len g 63)), .ref h0]) (by rw [bk_n hh]) ?_
  refine b_arrI (ci := 1) (N := len g 63) hx hb hts hown hin (by decide) hK hP hD hS hA 1 (by decide) (in_gT (List.mem_of_getElem? (i := 274) (by decide +kernel)) rfl) rfl rfl (by decide +kernel) (Nat.le_of_ble_eq_true rfl) (by omega) (Nat.le_of_ble_eq_true rfl) (by show 0 + 40 + 40 + 40 + len g 63 + len g 63 ≤ 28704; omega) dk1_47 dk1_49 (fun q5 H locs hP hD hS => ?_)
  refine lv_aload_n hx hb dk1_52 rfl (lv_at hl 0 rfl) ?_
  refine lv_iload_n hx hb dk1_53 rfl (lv_at hl 1 rfl) ?_
  refine lv_iconst (v := nI 1) hx hb dk1_54 (by decide +kernel) ?_
  refine lv_iadd hx hb dk1_55 ?_
  refine lv_bipush (v := nI 24) hx hb dk1_56 (by decide +kernel) ?_
  refine lv_imul hx hb dk1_58 ?_
  refine W.eq (g2 := F0 m 59 ls [.int (nI (len g 63)), .ref h0]) (by rw [bk_n hh]) ?_
  refine b_arrI (ci := 1) (N := len g 63) hx hb hts hown hin (by decide) hK hP hD hS hA 2 (by decide) (in_gT (List.mem_of_getElem? (i := 275) (by decide +kernel)) rfl) rfl rfl (by decide +kernel) (Nat.le_of_ble_eq_true rfl) (by omega) (Nat.le_of_ble_eq_true rfl) (by show 0 + 40 + 40 + 40 + len g 63 + len g 63 + len g 63 ≤ 28704; omega) dk1_59 dk1_61 (fun q6 H locs hP hD hS => ?_)
  refine W.widen (k := 6) (n := 28704) (Nat.le_of_ble_eq_true rfl) (by omega) ?_
  exact W.vret hx hb hr (fun t ht hW => ⟨⟨adB [h0, q1, q2, q3, q4, q5, q6], rfl, rfl, by rw [ht]; exact hP, va_K.moved hW.alike hK, hD⟩, hS.F ht⟩) hS.2.2 dk1_64
theorem dk6_0 : decode cX6_init 0 = .ok (.aload_n 0, 1) := by decide +kernel
theorem dk6_1 : decode cX6_init 1 = .ok (.invokespecial 3, 3) := by decide +kernel
theorem dk6_4 : decode cX6_init 4 = .ok (.aload_n 0, 1) := by decide +kernel
theorem dk6_5 : decode cX6_init 5 = .ok (.bipush 25, 2) := by decide +kernel
theorem dk6_7 : decode cX6_init 7 = .ok (.newarray .int, 2) := by decide +kernel
theorem dk6_9 : decode cX6_init 9 = .ok (.putfield 9, 3) := by decide +kernel
theorem dk6_12 : decode cX6_init 12 = .ok (.aload_n 0, 1) := by decide +kernel
theorem dk6_13 : decode cX6_init 13 = .ok (.bipush 8, 2) := by decide +kernel
theorem dk6_15 : decode cX6_init 15 = .ok (.newarray .boolean, 2) := by decide +kernel
theorem dk6_17 : decode cX6_init 17 = .ok (.putfield 15, 3) := by decide +kernel
theorem dk6_20 : decode cX6_init 20 = .ok (.aload_n 0, 1) := by decide +kernel
theorem dk6_21 : decode cX6_init 21 = .ok (.aload_n 1, 1) := by decide +kernel
theorem dk6_22 : decode cX6_init 22 = .ok (.putfield 19, 3) := by decide +kernel
theorem dk6_25 : decode cX6_init 25 = .ok (.aload_n 0, 1) := by decide +kernel
theorem dk6_26 : decode cX6_init 26 = .ok (.aload_n 2, 1) := by decide +kernel
theorem dk6_27 : decode cX6_init 27 = .ok (.putfield 23, 3) := by decide +kernel
theorem dk6_30 : decode cX6_init 30 = .ok (.return_, 1) := by decide +kernel
set_option maxHeartbeats 4000000 in
set_option maxRecDepth 100000 in
theorem k_X6 (l : Launch) (D : va_G) (cI cZ cJ cW cP : ClassId) (h0 sz : Nat) (r1 r2 : Nat) : Met l yX6_init (Cond.code yX6_init cX6_init 3 none :: gT) { frames := 1, cells := 2, slots := 33, locals := 16 } (va_Pc [.ref h0, .ref r1, .ref r2] (fun U => U.heap.size = sz ∧ va_P D vwCl [(h0, .inr (6, [.null, .null, .null, .null]))] U.heap ∧ va_K D vwCl (KT cI cZ cJ) U ∧ va_D (fun _ => True) [(h0, .inr (6, [.null, .null, .null, .null]))])) (va_Qv (fun ad : AD => ad (0, 29) = h0 ∧ ad (0, 1) = r1 ∧ ad (0, 14) = r2) (fun ad t => va_P D vwCl (WS ad cI cZ cJ cW cP z0 [(0, 29), (0, 30), (0, 31)]) t.heap ∧ va_K D vwCl (KT cI cZ cJ) t ∧ va_D (va_A [(h0, .inr (6, [.null, .null, .null, .null]))] sz) (WS ad cI cZ cJ cW cP z0 [(0, 29), (0, 30), (0, 31)])) (va_A [(h0, .inr (6, [.null, .null, .null, .null]))] sz)) 2 33 (va_A [(h0, .inr (6, [.null, .null, .null, .null]))] sz) := by
  refine Met.ofW (cc := cX6_init) (maxL := 3) (ret := none) (by decide) rfl ?_
  intro p e s m args below meth c s₁ B hml hv
  obtain ⟨rfl, hsz, hP, hK, hD0⟩ := hv
  have hx := B.exec
  have hb := B.bytes
  have hr := B.returns
  have hts0 := atoms_spec (ws := Cond.code yX6_init cX6_init 3 none :: gT) B.pre
  have hts : ∀ w ∈ gT, w.before _ s = true := fun w hw => hts0 w (List.mem_cons_of_mem _ hw)
  have hown : s.vm.findClass (cR 6) = some m.cls := findClass_of_methodNamed B.named
  have hlocks := B.notSynchronized
  have hin : meth.name = "<init>" := (name_of_methodNamed B.named B.method).1
  subst hsz
  have hD := hD0.self (sz := s.heap.size)
  generalize hAe : va_A [(h0, .inr (6, [.null, .null, .null, .null]))] s.heap.size = A at hD ⊢
  have hA : ∀ q : Nat, s.heap.size ≤ q → A q := fun q h => by rw [← hAe]; exact Or.inr h
  have hS : va_S A s.heap s.heap [] := va_S.rf
  have hP : va_P D vwCl [(h0, .inr (6, [.null, .null, .null, .null]))] s.heap := hP
  have hl := lv_entry ([.ref h0, .ref r1, .ref r2]) (n := 3) (Nat.le_of_ble_eq_true rfl)
  rw [lg_entry_eq]
  generalize (lg_sl ([.ref h0, .ref r1, .ref r2]) ++ List.replicate (3 - (lg_sl ([.ref h0, .ref r1, .ref r2])).length) Slot.unset).toArray = ls at hl ⊢
  have hl : lv_has ls 3 [(0, .ref h0), (1, .ref r1), (2, .ref r2)] := hl
  refine lv_aload_n hx hb dk6_0 rfl (lv_at hl 0 rfl) ?_
  refine W.objInit hx hb hown (hts _ (in_gT (List.mem_of_getElem? (i := 407) (by decide +kernel)) rfl)) (hts _ (in_gT (List.mem_of_getElem? (i := 85) (by decide +kernel)) rfl)) (hts _ objc_gT) rfl (by rw [hml]; exact hl.1) rfl dk6_1 (Nat.le_of_ble_eq_true rfl) (Nat.le_of_ble_eq_true rfl) ?_
  refine W.eq (g2 := F0 m 4 ls []) rfl ?_
  refine lv_aload_n hx hb dk6_4 rfl (lv_at hl 0 rfl) ?_
  refine lv_bipush (v := nI 25) hx hb dk6_5 (by decide +kernel) ?_
  refine b_arrI (ci := 6) (N := 25) hx hb hts hown hin (by decide) hK hP hD hS hA 2 (by decide) (in_gT (List.mem_of_getElem? (i := 410) (by decide +kernel)) rfl) rfl rfl (by decide +kernel) (Nat.le_of_ble_eq_true rfl) (by decide) (Nat.le_of_ble_eq_true rfl) (Nat.le_of_ble_eq_true rfl) dk6_7 dk6_9 (fun q1 H locs hP hD hS => ?_)
  refine lv_aload_n hx hb dk6_12 rfl (lv_at hl 0 rfl) ?_
  refine lv_bipush (v := nI 8) hx hb dk6_13 (by decide +kernel) ?_
  refine b_arrZ (ci := 6) (N := 8) hx hb hts hown hin (by decide) hK hP hD hS hA 3 (by decide) (in_gT (List.mem_of_getElem? (i := 411) (by decide +kernel)) rfl) rfl rfl (by decide +kernel) (Nat.le_of_ble_eq_true rfl) (by decide) (Nat.le_of_ble_eq_true rfl) (Nat.le_of_ble_eq_true rfl) dk6_15 dk6_17 (fun q2 H locs hP hD hS => ?_)
  refine lv_aload_n hx hb dk6_20 rfl (lv_at hl 0 rfl) ?_
  refine lv_aload_n hx hb dk6_21 rfl (lv_at hl 1 rfl) ?_
  refine b_put (ci := 6) (ty := .object "IceOut$River") hx hb hts hown hin (by decide) hK hP hD hS 0 (by decide) (in_gT (List.mem_of_getElem? (i := 408) (by decide +kernel)) rfl) rfl rfl (by decide +kernel) rfl rfl (Nat.le_of_ble_eq_true rfl) dk6_22 (fun H locs hP hD hS => ?_)
  refine lv_aload_n hx hb dk6_25 rfl (lv_at hl 0 rfl) ?_
  refine lv_aload_n hx hb dk6_26 rfl (lv_at hl 2 rfl) ?_
  refine b_put (ci := 6) (ty := .object "IceOut$Rules") hx hb hts hown hin (by decide) hK hP hD hS 1 (by decide) (in_gT (List.mem_of_getElem? (i := 409) (by decide +kernel)) rfl) rfl rfl (by decide +kernel) rfl rfl (Nat.le_of_ble_eq_true rfl) dk6_27 (fun H locs hP hD hS => ?_)
  refine W.widen (k := 2) (n := 33) (Nat.le_of_ble_eq_true rfl) (Nat.le_of_ble_eq_true rfl) ?_
  exact W.vret hx hb hr (fun t ht hW => ⟨⟨fun o => bif Nat.beq o.2 1 then r1 else bif Nat.beq o.2 14 then r2 else adL [h0, q1, q2] 29 o, rfl, ⟨rfl, rfl, rfl⟩, by rw [ht]; exact hP, va_K.moved hW.alike hK, hD⟩, hS.F ht⟩) hS.2.2 dk6_30

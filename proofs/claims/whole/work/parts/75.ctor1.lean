/-! constructors: those of arrays alone */ -/
theorem objc_gT : Cond.code objectInit ⟨#[0xb1]⟩ 1 none ∈ gT := in_gT (List.mem_of_getElem? (i := 86) (by decide +kernel)) rfl
/-- the world at birth -/
def z0 : PW := (fun j _ k => bif Nat.beq j 80 && Nat.beq k 2 then 1 else 0, fun _ _ _ => 0)
def adL (l : List Nat) (b : Nat) : AD := fun o => l.getD (o.2 - b) 0
theorem dk3_0 : decode cX3_init 0 = .ok (.aload_n 0, 1) := by decide +kernel
theorem dk3_1 : decode cX3_init 1 = .ok (.invokespecial 3, 3) := by decide +kernel
theorem dk3_4 : decode cX3_init 4 = .ok (.aload_n 0, 1) := by decide +kernel
theorem dk3_5 : decode cX3_init 5 = .ok (.bipush 24, 2) := by decide +kernel
theorem dk3_7 : decode cX3_init 7 = .ok (.newarray .int, 2) := by decide +kernel
theorem dk3_9 : decode cX3_init 9 = .ok (.putfield 9, 3) := by decide +kernel
theorem dk3_12 : decode cX3_init 12 = .ok (.aload_n 0, 1) := by decide +kernel
theorem dk3_13 : decode cX3_init 13 = .ok (.bipush 24, 2) := by decide +kernel
theorem dk3_15 : decode cX3_init 15 = .ok (.newarray .int, 2) := by decide +kernel
theorem dk3_17 : decode cX3_init 17 = .ok (.putfield 15, 3) := by decide +kernel
theorem dk3_20 : decode cX3_init 20 = .ok (.aload_n 0, 1) := by decide +kernel
theorem dk3_21 : decode cX3_init 21 = .ok (.bipush 24, 2) := by decide +kernel
theorem dk3_23 : decode cX3_init 23 = .ok (.newarray .int, 2) := by decide +kernel
theorem dk3_25 : decode cX3_init 25 = .ok (.putfield 18, 3) := by decide +kernel
theorem dk3_28 : decode cX3_init 28 = .ok (.aload_n 0, 1) := by decide +kernel
theorem dk3_29 : decode cX3_init 29 = .ok (.bipush 24, 2) := by decide +kernel
theorem dk3_31 : decode cX3_init 31 = .ok (.newarray .int, 2) := by decide +kernel
theorem dk3_33 : decode cX3_init 33 = .ok (.putfield 21, 3) := by decide +kernel
theorem dk3_36 : decode cX3_init 36 = .ok (.aload_n 0, 1) := by decide +kernel
theorem dk3_37 : decode cX3_init 37 = .ok (.bipush 24, 2) := by decide +kernel
theorem dk3_39 : decode cX3_init 39 = .ok (.newarray .int, 2) := by decide +kernel
theorem dk3_41 : decode cX3_init 41 = .ok (.putfield 24, 3) := by decide +kernel
theorem dk3_44 : decode cX3_init 44 = .ok (.aload_n 0, 1) := by decide +kernel
theorem dk3_45 : decode cX3_init 45 = .ok (.bipush 24, 2) := by decide +kernel
theorem dk3_47 : decode cX3_init 47 = .ok (.newarray .int, 2) := by decide +kernel
theorem dk3_49 : decode cX3_init 49 = .ok (.putfield 27, 3) := by decide +kernel
theorem dk3_52 : decode cX3_init 52 = .ok (.aload_n 0, 1) := by decide +kernel
theorem dk3_53 : decode cX3_init 53 = .ok (.bipush 24, 2) := by decide +kernel
theorem dk3_55 : decode cX3_init 55 = .ok (.newarray .int, 2) := by decide +kernel
theorem dk3_57 : decode cX3_init 57 = .ok (.putfield 30, 3) := by decide +kernel
theorem dk3_60 : decode cX3_init 60 = .ok (.aload_n 0, 1) := by decide +kernel
theorem dk3_61 : decode cX3_init 61 = .ok (.bipush 24, 2) := by decide +kernel
theorem dk3_63 : decode cX3_init 63 = .ok (.newarray .int, 2) := by decide +kernel
theorem dk3_65 : decode cX3_init 65 = .ok (.putfield 33, 3) := by decide +kernel
theorem dk3_68 : decode cX3_init 68 = .ok (.aload_n 0, 1) := by decide +kernel
theorem dk3_69 : decode cX3_init 69 = .ok (.bipush 24, 2) := by decide +kernel
theorem dk3_71 : decode cX3_init 71 = .ok (.newarray .int, 2) := by decide +kernel
theorem dk3_73 : decode cX3_init 73 = .ok (.putfield 36, 3) := by decide +kernel
theorem dk3_76 : decode cX3_init 76 = .ok (.aload_n 0, 1) := by decide +kernel
theorem dk3_77 : decode cX3_init 77 = .ok (.bipush 24, 2) := by decide +kernel
theorem dk3_79 : decode cX3_init 79 = .ok (.newarray .int, 2) := by decide +kernel
theorem dk3_81 : decode cX3_init 81 = .ok (.putfield 39, 3) := by decide +kernel
theorem dk3_84 : decode cX3_init 84 = .ok (.aload_n 0, 1) := by decide +kernel
theorem dk3_85 : decode cX3_init 85 = .ok (.bipush 24, 2) := by decide +kernel
theorem dk3_87 : decode cX3_init 87 = .ok (.newarray .boolean, 2) := by decide +kernel
theorem dk3_89 : decode cX3_init 89 = .ok (.putfield 42, 3) := by decide +kernel
theorem dk3_92 : decode cX3_init 92 = .ok (.return_, 1) := by decide +kernel
set_option maxHeartbeats 4000000 in
set_option maxRecDepth 100000 in
theorem k_X3 (l : Launch) (D : va_G) (cI cZ cJ cW cP : ClassId) (h0 sz : Nat) : Met l yX3_init (Cond.code yX3_init cX3_init 1 none :: gT) { frames := 1, cells := 11, slots := 264, locals := 16 } (va_Pc [.ref h0] (fun U => U.heap.size = sz ∧ va_P D vwCl [(h0, .inr (3, [.int 0, .int 0, .int 0, .null, .null, .null, .null, .null, .null, .null, .null, .null, .null, .null]))] U.heap ∧ va_K D vwCl (KT cI cZ cJ) U ∧ va_D (fun _ => True) [(h0, .inr (3, [.int 0, .int 0, .int 0, .null, .null, .null, .null, .null, .null, .null, .null, .null, .null, .null]))])) (va_Qv (fun ad : AD => ad (0, 1) = h0) (fun ad t => va_P D vwCl (WS ad cI cZ cJ cW cP z0 [(0, 1), (0, 2), (0, 3), (0, 4), (0, 5), (0, 6), (0, 7), (0, 8), (0, 9), (0, 10), (0, 11), (0, 12)]) t.heap ∧ va_K D vwCl (KT cI cZ cJ) t ∧ va_D (va_A [(h0, .inr (3, [.int 0, .int 0, .int 0, .null, .null, .null, .null, .null, .null, .null, .null, .null, .null, .null]))] sz) (WS ad cI cZ cJ cW cP z0 [(0, 1), (0, 2), (0, 3), (0, 4), (0, 5), (0, 6), (0, 7), (0, 8), (0, 9), (0, 10), (0, 11), (0, 12)])) (va_A [(h0, .inr (3, [.int 0, .int 0, .int 0, .null, .null, .null, .null, .null, .null, .null, .null, .null, .null, .null]))] sz)) 11 264 (va_A [(h0, .inr (3, [.int 0, .int 0, .int 0, .null, .null, .null, .null, .null, .null, .null, .null, .null, .null, .null]))] sz) := by
  refine Met.ofW (cc := cX3_init) (maxL := 1) (ret := none) (by decide) rfl ?_
  intro p e s m args below meth c s₁ B hml hv
  obtain ⟨rfl, hsz, hP, hK, hD0⟩ := hv
  have hx := B.exec
  have hb := B.bytes
  have hr := B.returns
  have hts0 := atoms_spec (ws := Cond.code yX3_init cX3_init 1 none :: gT) B.pre
  have hts : ∀ w ∈ gT, w.before _ s = true := fun w hw => hts0 w (List.mem_cons_of_mem _ hw)
  have hown : s.vm.findClass (cR 3) = some m.cls := findClass_of_methodNamed B.named
  have hlocks := B.notSynchronized
  have hin : meth.name = "<init>" := (name_of_methodNamed B.named B.method).1
  subst hsz
  have hD := hD0.self (sz := s.heap.size)
  generalize hAe : va_A [(h0, .inr (3, [.int 0, .int 0, .int 0, .null, .null, .null, .null, .null, .null, .null, .null, .null, .null, .null]))] s.heap.size = A at hD ⊢
  have hA : ∀ q : Nat, s.heap.size ≤ q → A q := fun q h => by rw [← hAe]; exact Or.inr h
  have hS : va_S A s.heap s.heap [] := va_S.rf
  have hP : va_P D vwCl [(h0, .inr (3, [.int 0, .int 0, .int 0, .null, .null, .null, .null, .null, .null, .null, .null, .null, .null, .null]))] s.heap := hP
  have hl := lv_entry ([.ref h0]) (n := 1) (Nat.le_of_ble_eq_true rfl)
  rw [lg_entry_eq]
  generalize (lg_sl ([.ref h0]) ++ List.replicate (1 - (lg_sl ([.ref h0])).length) Slot.unset).toArray = ls at hl ⊢
  have hl : lv_has ls 1 [(0, .ref h0)] := hl
  refine lv_aload_n hx hb dk3_0 rfl (lv_at hl 0 rfl) ?_
  refine W.objInit hx hb hown (hts _ (in_gT (List.mem_of_getElem? (i := 92) (by decide +kernel)) rfl)) (hts _ (in_gT (List.mem_of_getElem? (i := 85) (by decide +kernel)) rfl)) (hts _ objc_gT) rfl (by rw [hml]; exact hl.1) rfl dk3_1 (Nat.le_of_ble_eq_true rfl) (Nat.le_of_ble_eq_true rfl) ?_
  refine W.eq (g2 := F0 m 4 ls []) rfl ?_
  refine lv_aload_n hx hb dk3_4 rfl (lv_at hl 0 rfl) ?_
  refine lv_bipush (v := nI 24) hx hb dk3_5 (by decide +kernel) ?_
  refine b_arrI (ci := 3) (N := 24) hx hb hts hown hin (by decide) hK hP hD hS hA 3 (by decide) (in_gT (List.mem_of_getElem? (i := 103) (by decide +kernel)) rfl) rfl rfl (by decide +kernel) (Nat.le_of_ble_eq_true rfl) (by decide) (Nat.le_of_ble_eq_true rfl) (Nat.le_of_ble_eq_true rfl) dk3_7 dk3_9 (fun q1 H locs hP hD hS => ?_)
  refine lv_aload_n hx hb dk3_12 rfl (lv_at hl 0 rfl) ?_
  refine lv_bipush (v := nI 24) hx hb dk3_13 (by decide +kernel) ?_
  refine b_arrI (ci := 3) (N := 24) hx hb hts hown hin (by decide) hK hP hD hS hA 4 (by decide) (in_gT (List.mem_of_getElem? (i := 106) (by decide +kernel)) rfl) rfl rfl (by decide +kernel) (Nat.le_of_ble_eq_true rfl) (by decide) (Nat.le_of_ble_eq_true rfl) (Nat.le_of_ble_eq_true rfl) dk3_15 dk3_17 (fun q2 H locs hP hD hS => ?_)
  refine lv_aload_n hx hb dk3_20 rfl (lv_at hl 0 rfl) ?_
  refine lv_bipush (v := nI 24) hx hb dk3_21 (by decide +kernel) ?_
  refine b_arrI (ci := 3) (N := 24) hx hb hts hown hin (by decide) hK hP hD hS hA 5 (by decide) (in_gT (List.mem_of_getElem? (i := 108) (by decide +kernel)) rfl) rfl rfl (by decide +kernel) (Nat.le_of_ble_eq_true rfl) (by decide) (Nat.le_of_ble_eq_true rfl) (Nat.le_of_ble_eq_true rfl) dk3_23 dk3_25 (fun q3 H locs hP hD hS => ?_)
  refine lv_aload_n hx hb dk3_28 rfl (lv_at hl 0 rfl) ?_
  refine lv_bipush (v := nI 24) hx hb dk3_29 (by decide +kernel) ?_
  refine b_arrI (ci := 3) (N := 24) hx hb hts hown hin (by decide) hK hP hD hS hA 6 (by decide) (in_gT (List.mem_of_getElem? (i := 110) (by decide +kernel)) rfl) rfl rfl (by decide +kernel) (Nat.le_of_ble_eq_true rfl) (by decide) (Nat.le_of_ble_eq_true rfl) (Nat.le_of_ble_eq_true rfl) dk3_31 dk3_33 (fun q4 H locs hP hD hS => ?_)
  refine lv_aload_n hx hb dk3_36 rfl (lv_at hl 0 rfl) ?_
  refine lv_bipush (v := nI 24) hx hb dk3_37 (by decide +kernel) ?_
  refine b_arrI (ci := 3) (N := 24) hx hb hts hown hin (by decide) hK hP hD hS hA 7 (by decide) (in_gT (List.mem_of_getElem? (i := 113) (by decide +kernel)) rfl) rfl rfl (by decide +kernel) (Nat.le_of_ble_eq_true rfl) (by decide) (Nat.le_of_ble_eq_true rfl) (Nat.le_of_ble_eq_true rfl) dk3_39 dk3_41 (fun q5 H locs hP hD hS => ?_)
  refine lv_aload_n hx hb dk3_44 rfl (lv_at hl 0 rfl) ?_
  refine lv_bipush (v := nI 24) hx hb dk3_45 (by decide +kernel) ?_
  refine b_arrI (ci := 3) (N := 24) hx hb hts hown hin (by decide) hK hP hD hS hA 8 (by decide) (in_gT (List.mem_of_getElem? (i := 116) (by decide +kernel)) rfl) rfl rfl (by decide +kernel) (Nat.le_of_ble_eq_true rfl) (by decide) (Nat.le_of_ble_eq_true rfl) (Nat.le_of_ble_eq_true rfl) dk3_47 dk3_49 (fun q6 H locs hP hD hS => ?_)
  refine lv_aload_n hx hb dk3_52 rfl (lv_at hl 0 rfl) ?_
  refine lv_bipush (v := nI 24) hx hb dk3_53 (by decide +kernel) ?_
  refine b_arrI (ci := 3) (N := 24) hx hb hts hown hin (by decide) hK hP hD hS hA 9 (by decide) (in_gT (List.mem_of_getElem? (i := 119) (by decide +kernel)) rfl) rfl rfl (by decide +kernel) (Nat.le_of_ble_eq_true rfl) (by decide) (Nat.le_of_ble_eq_true rfl) (Nat.le_of_ble_eq_true rfl) dk3_55 dk3_57 (fun q7 H locs hP hD hS => ?_)
  refine lv_aload_n hx hb dk3_60 rfl (lv_at hl 0 rfl) ?_
  refine lv_bipush (v := nI 24) hx hb dk3_61 (by decide +kernel) ?_
  refine b_arrI (ci := 3) (N := 24) hx hb hts hown hin (by decide) hK hP hD hS hA 10 (by decide) (in_gT (List.mem_of_getElem? (i := 122) (by decide +kernel)) rfl) rfl rfl (by decide +kernel) (Nat.le_of_ble_eq_true rfl) (by decide) (Nat.le_of_ble_eq_true rfl) (Nat.le_of_ble_eq_true rfl) dk3_63 dk3_65 (fun q8 H locs hP hD hS => ?_)
  refine lv_aload_n hx hb dk3_68 rfl (lv_at hl 0 rfl) ?_
  refine lv_bipush (v := nI 24) hx hb dk3_69 (by decide +kernel) ?_
  refine b_arrI (ci := 3) (N := 24) hx hb hts hown hin (by decide) hK hP hD hS hA 11 (by decide) (in_gT (List.mem_of_getElem? (i := 125) (by decide +kernel)) rfl) rfl rfl (by decide +kernel) (Nat.le_of_ble_eq_true rfl) (by decide) (Nat.le_of_ble_eq_true rfl) (Nat.le_of_ble_eq_true rfl) dk3_71 dk3_73 (fun q9 H locs hP hD hS => ?_)
  refine lv_aload_n hx hb dk3_76 rfl (lv_at hl 0 rfl) ?_
  refine lv_bipush (v := nI 24) hx hb dk3_77 (by decide +kernel) ?_
  refine b_arrI (ci := 3) (N := 24) hx hb hts hown hin (by decide) hK hP hD hS hA 12 (by decide) (in_gT (List.mem_of_getElem? (i := 128) (by decide +kernel)) rfl) rfl rfl (by decide +kernel) (Nat.le_of_ble_eq_true rfl) (by decide) (Nat.le_of_ble_eq_true rfl) (Nat.le_of_ble_eq_true rfl) dk3_79 dk3_81 (fun q10 H locs hP hD hS => ?_)
  refine lv_aload_n hx hb dk3_84 rfl (lv_at hl 0 rfl) ?_
  refine lv_bipush (v := nI 24) hx hb dk3_85 (by decide +kernel) ?_
  refine b_arrZ (ci := 3) (N := 24) hx hb hts hown hin (by decide) hK hP hD hS hA 13 (by decide) (in_gT (List.mem_of_getElem? (i := 131) (by decide +kernel)) rfl) rfl rfl (by decide +kernel) (Nat.le_of_ble_eq_true rfl) (by decide) (Nat.le_of_ble_eq_true rfl) (Nat.le_of_ble_eq_true rfl) dk3_87 dk3_89 (fun q11 H locs hP hD hS => ?_)
  refine W.widen (k := 11) (n := 264) (Nat.le_of_ble_eq_true rfl) (Nat.le_of_ble_eq_true rfl) ?_
  exact W.vret hx hb hr (fun t ht hW => ⟨⟨adL [h0, q1, q2, q3, q4, q5, q6, q7, q8, q9, q10, q11] 1, rfl, rfl, by rw [ht]; exact hP, va_K.moved hW.alike hK, hD⟩, hS.F ht⟩) hS.2.2 dk3_92
theorem dk4_0 : decode cX4_init 0 = .ok (.aload_n 0, 1) := by decide +kernel
theorem dk4_1 : decode cX4_init 1 = .ok (.invokespecial 3, 3) := by decide +kernel
theorem dk4_4 : decode cX4_init 4 = .ok (.aload_n 0, 1) := by decide +kernel
theorem dk4_5 : decode cX4_init 5 = .ok (.bipush 12, 2) := by decide +kernel
theorem dk4_7 : decode cX4_init 7 = .ok (.newarray .int, 2) := by decide +kernel
theorem dk4_9 : decode cX4_init 9 = .ok (.putfield 9, 3) := by decide +kernel
theorem dk4_12 : decode cX4_init 12 = .ok (.aload_n 0, 1) := by decide +kernel
theorem dk4_13 : decode cX4_init 13 = .ok (.bipush 12, 2) := by decide +kernel
theorem dk4_15 : decode cX4_init 15 = .ok (.newarray .int, 2) := by decide +kernel
theorem dk4_17 : decode cX4_init 17 = .ok (.putfield 15, 3) := by decide +kernel
theorem dk4_20 : decode cX4_init 20 = .ok (.aload_n 0, 1) := by decide +kernel
theorem dk4_21 : decode cX4_init 21 = .ok (.bipush 12, 2) := by decide +kernel
theorem dk4_23 : decode cX4_init 23 = .ok (.newarray .int, 2) := by decide +kernel
theorem dk4_25 : decode cX4_init 25 = .ok (.putfield 18, 3) := by decide +kernel
theorem dk4_28 : decode cX4_init 28 = .ok (.aload_n 0, 1) := by decide +kernel
theorem dk4_29 : decode cX4_init 29 = .ok (.sipush 240, 3) := by decide +kernel
theorem dk4_32 : decode cX4_init 32 = .ok (.newarray .int, 2) := by decide +kernel
theorem dk4_34 : decode cX4_init 34 = .ok (.putfield 21, 3) := by decide +kernel
theorem dk4_37 : decode cX4_init 37 = .ok (.aload_n 0, 1) := by decide +kernel
theorem dk4_38 : decode cX4_init 38 = .ok (.sipush 240, 3) := by decide +kernel
theorem dk4_41 : decode cX4_init 41 = .ok (.newarray .int, 2) := by decide +kernel
theorem dk4_43 : decode cX4_init 43 = .ok (.putfield 24, 3) := by decide +kernel
theorem dk4_46 : decode cX4_init 46 = .ok (.aload_n 0, 1) := by decide +kernel
theorem dk4_47 : decode cX4_init 47 = .ok (.sipush 240, 3) := by decide +kernel
theorem dk4_50 : decode cX4_init 50 = .ok (.newarray .int, 2) := by decide +kernel
theorem dk4_52 : decode cX4_init 52 = .ok (.putfield 27, 3) := by decide +kernel
theorem dk4_55 : decode cX4_init 55 = .ok (.return_, 1) := by decide +kernel
set_option maxHeartbeats 4000000 in
set_option maxRecDepth 100000 in
theorem k_X4 (l : Launch) (D : va_G) (cI cZ cJ cW cP : ClassId) (h0 sz : Nat) : Met l yX4_init (Cond.code yX4_init cX4_init 1 none :: gT) { frames := 1, cells := 6, slots := 756, locals := 16 } (va_Pc [.ref h0] (fun U => U.heap.size = sz ∧ va_P D vwCl [(h0, .inr (4, [.null, .null, .null, .null, .null, .null, .int 0]))] U.heap ∧ va_K D vwCl (KT cI cZ cJ) U ∧ va_D (fun _ => True) [(h0, .inr (4, [.null, .null, .null, .null, .null, .null, .int 0]))])) (va_Qv (fun ad : AD => ad (0, 14) = h0) (fun ad t => va_P D vwCl (WS ad cI cZ cJ cW cP z0 [(0, 14), (0, 15), (0, 16), (0, 17), (0, 18), (0, 19), (0, 20)]) t.heap ∧ va_K D vwCl (KT cI cZ cJ) t ∧ va_D (va_A [(h0, .inr (4, [.null, .null, .null, .null, .null, .null, .int 0]))] sz) (WS ad cI cZ cJ cW cP z0 [(0, 14), (0, 15), (0, 16), (0, 17), (0, 18), (0, 19), (0, 20)])) (va_A [(h0, .inr (4, [.null, .null, .null, .null, .null, .null, .int 0]))] sz)) 6 756 (va_A [(h0, .inr (4, [.null, .null, .null, .null, .null, .null, .int 0]))] sz) := by
  refine Met.ofW (cc := cX4_init) (maxL := 1) (ret := none) (by decide) rfl ?_
  intro p e s m args below meth c s₁ B hml hv
  obtain ⟨rfl, hsz, hP, hK, hD0⟩ := hv
  have hx := B.exec
  have hb := B.bytes
  have hr := B.returns
  have hts0 := atoms_spec (ws := Cond.code yX4_init cX4_init 1 none :: gT) B.pre
  have hts : ∀ w ∈ gT, w.before _ s = true := fun w hw => hts0 w (List.mem_cons_of_mem _ hw)
  have hown : s.vm.findClass (cR 4) = some m.cls := findClass_of_methodNamed B.named
  have hlocks := B.notSynchronized
  have hin : meth.name = "<init>" := (name_of_methodNamed B.named B.method).1
  subst hsz
  have hD := hD0.self (sz := s.heap.size)
  generalize hAe : va_A [(h0, .inr (4, [.null, .null, .null, .null, .null, .null, .int 0]))] s.heap.size = A at hD ⊢
  have hA : ∀ q : Nat, s.heap.size ≤ q → A q := fun q h => by rw [← hAe]; exact Or.inr h
  have hS : va_S A s.heap s.heap [] := va_S.rf
  have hP : va_P D vwCl [(h0, .inr (4, [.null, .null, .null, .null, .null, .null, .int 0]))] s.heap := hP
  have hl := lv_entry ([.ref h0]) (n := 1) (Nat.le_of_ble_eq_true rfl)
  rw [lg_entry_eq]
  generalize (lg_sl ([.ref h0]) ++ List.replicate (1 - (lg_sl ([.ref h0])).length) Slot.unset).toArray = ls at hl ⊢
  have hl : lv_has ls 1 [(0, .ref h0)] := hl
  refine lv_aload_n hx hb dk4_0 rfl (lv_at hl 0 rfl) ?_
  refine W.objInit hx hb hown (hts _ (in_gT (List.mem_of_getElem? (i := 187) (by decide +kernel)) rfl)) (hts _ (in_gT (List.mem_of_getElem? (i := 85) (by decide +kernel)) rfl)) (hts _ objc_gT) rfl (by rw [hml]; exact hl.1) rfl dk4_1 (Nat.le_of_ble_eq_true rfl) (Nat.le_of_ble_eq_true rfl) ?_
  refine W.eq (g2 := F0 m 4 ls []) rfl ?_
  refine lv_aload_n hx hb dk4_4 rfl (lv_at hl 0 rfl) ?_
  refine lv_bipush (v := nI 12) hx hb dk4_5 (by decide +kernel) ?_
  refine b_arrI (ci := 4) (N := 12) hx hb hts hown hin (by decide) hK hP hD hS hA 0 (by decide) (in_gT (List.mem_of_getElem? (i := 188) (by decide +kernel)) rfl) rfl rfl (by decide +kernel) (Nat.le_of_ble_eq_true rfl) (by decide) (Nat.le_of_ble_eq_true rfl) (Nat.le_of_ble_eq_true rfl) dk4_7 dk4_9 (fun q1 H locs hP hD hS => ?_)
  refine lv_aload_n hx hb dk4_12 rfl (lv_at hl 0 rfl) ?_
  refine lv_bipush (v := nI 12) hx hb dk4_13 (by decide +kernel) ?_
  refine b_arrI (ci := 4) (N := 12) hx hb hts hown hin (by decide) hK hP hD hS hA 1 (by decide) (in_gT (List.mem_of_getElem? (i := 190) (by decide +kernel)) rfl) rfl rfl (by decide +kernel) (Nat.le_of_ble_eq_true rfl) (by decide) (Nat.le_of_ble_eq_true rfl) (Nat.le_of_ble_eq_true rfl) dk4_15 dk4_17 (fun q2 H locs hP hD hS => ?_)
  refine lv_aload_n hx hb dk4_20 rfl (lv_at hl 0 rfl) ?_
  refine lv_bipush (v := nI 12) hx hb dk4_21 (by decide +kernel) ?_
  refine b_arrI (ci := 4) (N := 12) hx hb hts hown hin (by decide) hK hP hD hS hA 2 (by decide) (in_gT (List.mem_of_getElem? (i := 192) (by decide +kernel)) rfl) rfl rfl (by decide +kernel) (Nat.le_of_ble_eq_true rfl) (by decide) (Nat.le_of_ble_eq_true rfl) (Nat.le_of_ble_eq_true rfl) dk4_23 dk4_25 (fun q3 H locs hP hD hS => ?_)
  refine lv_aload_n hx hb dk4_28 rfl (lv_at hl 0 rfl) ?_
  refine lv_sipush (v := nI 240) hx hb dk4_29 (by decide +kernel) ?_
  refine b_arrI (ci := 4) (N := 240) hx hb hts hown hin (by decide) hK hP hD hS hA 3 (by decide) (in_gT (List.mem_of_getElem? (i := 194) (by decide +kernel)) rfl) rfl rfl (by decide +kernel) (Nat.le_of_ble_eq_true rfl) (by decide) (Nat.le_of_ble_eq_true rfl) (Nat.le_of_ble_eq_true rfl) dk4_32 dk4_34 (fun q4 H locs hP hD hS => ?_)
  refine lv_aload_n hx hb dk4_37 rfl (lv_at hl 0 rfl) ?_
  refine lv_sipush (v := nI 240) hx hb dk4_38 (by decide +kernel) ?_
  refine b_arrI (ci := 4) (N := 240) hx hb hts hown hin (by decide) hK hP hD hS hA 4 (by decide) (in_gT (List.mem_of_getElem? (i := 196) (by decide +kernel)) rfl) rfl rfl (by decide +kernel) (Nat.le_of_ble_eq_true rfl) (by decide) (Nat.le_of_ble_eq_true rfl) (Nat.le_of_ble_eq_true rfl) dk4_41 dk4_43 (fun q5 H locs hP hD hS => ?_)
  refine lv_aload_n hx hb dk4_46 rfl (lv_at hl 0 rfl) ?_
  refine lv_sipush (v := nI 240) hx hb dk4_47 (by decide +kernel) ?_
  refine b_arrI (ci := 4) (N := 240) hx hb hts hown hin (by decide) hK hP hD hS hA 5 (by decide) (in_gT (List.mem_of_getElem? (i := 198) (by decide +kernel)) rfl) rfl rfl (by decide +kernel) (Nat.le_of_ble_eq_true rfl) (by decide) (Nat.le_of_ble_eq_true rfl) (Nat.le_of_ble_eq_true rfl) dk4_50 dk4_52 (fun q6 H locs hP hD hS => ?_)
  refine W.widen (k := 6) (n := 756) (Nat.le_of_ble_eq_true rfl) (Nat.le_of_ble_eq_true rfl) ?_
  exact W.vret hx hb hr (fun t ht hW => ⟨⟨adL [h0, q1, q2, q3, q4, q5, q6] 14, rfl, rfl, by rw [ht]; exact hP, va_K.moved hW.alike hK, hD⟩, hS.F ht⟩) hS.2.2 dk4_55
theorem dk2_0 : decode cX2_init 0 = .ok (.aload_n 0, 1) := by decide +kernel
theorem dk2_1 : decode cX2_init 1 = .ok (.invokespecial 3, 3) := by decide +kernel
theorem dk2_4 : decode cX2_init 4 = .ok (.aload_n 0, 1) := by decide +kernel
theorem dk2_5 : decode cX2_init 5 = .ok (.bipush 10, 2) := by decide +kernel
theorem dk2_7 : decode cX2_init 7 = .ok (.newarray .int, 2) := by decide +kernel
theorem dk2_9 : decode cX2_init 9 = .ok (.putfield 9, 3) := by decide +kernel
theorem dk2_12 : decode cX2_init 12 = .ok (.aload_n 0, 1) := by decide +kernel
theorem dk2_13 : decode cX2_init 13 = .ok (.bipush 10, 2) := by decide +kernel
theorem dk2_15 : decode cX2_init 15 = .ok (.newarray .int, 2) := by decide +kernel
theorem dk2_17 : decode cX2_init 17 = .ok (.putfield 15, 3) := by decide +kernel
theorem dk2_20 : decode cX2_init 20 = .ok (.aload_n 0, 1) := by decide +kernel
theorem dk2_21 : decode cX2_init 21 = .ok (.bipush 10, 2) := by decide +kernel
theorem dk2_23 : decode cX2_init 23 = .ok (.newarray .int, 2) := by decide +kernel
theorem dk2_25 : decode cX2_init 25 = .ok (.putfield 18, 3) := by decide +kernel
theorem dk2_28 : decode cX2_init 28 = .ok (.return_, 1) := by decide +kernel
set_option maxHeartbeats 4000000 in
set_option maxRecDepth 100000 in
theorem k_X2 (l : Launch) (D : va_G) (cI cZ cJ cW cP : ClassId) (h0 sz : Nat) : Met l yX2_init (Cond.code yX2_init cX2_init 1 none :: gT) { frames := 1, cells := 3, slots := 30, locals := 16 } (va_Pc [.ref h0] (fun U => U.heap.size = sz ∧ va_P D vwCl [(h0, .inr (2, [.null, .null, .null, .int 0]))] U.heap ∧ va_K D vwCl (KT cI cZ cJ) U ∧ va_D (fun _ => True) [(h0, .inr (2, [.null, .null, .null, .int 0]))])) (va_Qv (fun ad : AD => ad (0, 25) = h0) (fun ad t => va_P D vwCl (WS ad cI cZ cJ cW cP z0 [(0, 25), (0, 26), (0, 27), (0, 28)]) t.heap ∧ va_K D vwCl (KT cI cZ cJ) t ∧ va_D (va_A [(h0, .inr (2, [.null, .null, .null, .int 0]))] sz) (WS ad cI cZ cJ cW cP z0 [(0, 25), (0, 26), (0, 27), (0, 28)])) (va_A [(h0, .inr (2, [.null, .null, .null, .int 0]))] sz)) 3 30 (va_A [(h0, .inr (2, [.null, .null, .null, .int 0]))] sz) := by
  refine Met.ofW (cc := cX2_init) (maxL := 1) (ret := none) (by decide) rfl ?_
  intro p e s m args below meth c s₁ B hml hv
  obtain ⟨rfl, hsz, hP, hK, hD0⟩ := hv
  have hx := B.exec
  have hb := B.bytes
  have hr := B.returns
  have hts0 := atoms_spec (ws := Cond.code yX2_init cX2_init 1 none :: gT) B.pre
  have hts : ∀ w ∈ gT, w.before _ s = true := fun w hw => hts0 w (List.mem_cons_of_mem _ hw)
  have hown : s.vm.findClass (cR 2) = some m.cls := findClass_of_methodNamed B.named
  have hlocks := B.notSynchronized
  have hin : meth.name = "<init>" := (name_of_methodNamed B.named B.method).1
  subst hsz
  have hD := hD0.self (sz := s.heap.size)
  generalize hAe : va_A [(h0, .inr (2, [.null, .null, .null, .int 0]))] s.heap.size = A at hD ⊢
  have hA : ∀ q : Nat, s.heap.size ≤ q → A q := fun q h => by rw [← hAe]; exact Or.inr h
  have hS : va_S A s.heap s.heap [] := va_S.rf
  have hP : va_P D vwCl [(h0, .inr (2, [.null, .null, .null, .int 0]))] s.heap := hP
  have hl := lv_entry ([.ref h0]) (n := 1) (Nat.le_of_ble_eq_true rfl)
  rw [lg_entry_eq]
  generalize (lg_sl ([.ref h0]) ++ List.replicate (1 - (lg_sl ([.ref h0])).length) Slot.unset).toArray = ls at hl ⊢
  have hl : lv_has ls 1 [(0, .ref h0)] := hl
  refine lv_aload_n hx hb dk2_0 rfl (lv_at hl 0 rfl) ?_
  refine W.objInit hx hb hown (hts _ (in_gT (List.mem_of_getElem? (i := 250) (by decide +kernel)) rfl)) (hts _ (in_gT (List.mem_of_getElem? (i := 85) (by decide +kernel)) rfl)) (hts _ objc_gT) rfl (by rw [hml]; exact hl.1) rfl dk2_1 (Nat.le_of_ble_eq_true rfl) (Nat.le_of_ble_eq_true rfl) ?_
  refine W.eq (g2 := F0 m 4 ls []) rfl ?_
  refine lv_aload_n hx hb dk2_4 rfl (lv_at hl 0 rfl) ?_
  refine lv_bipush (v := nI 10) hx hb dk2_5 (by decide +kernel) ?_
  refine b_arrI (ci := 2) (N := 10) hx hb hts hown hin (by decide) hK hP hD hS hA 0 (by decide) (in_gT (List.mem_of_getElem? (i := 251) (by decide +kernel)) rfl) rfl rfl (by decide +kernel) (Nat.le_of_ble_eq_true rfl) (by decide) (Nat.le_of_ble_eq_true rfl) (Nat.le_of_ble_eq_true rfl) dk2_7 dk2_9 (fun q1 H locs hP hD hS => ?_)
  refine lv_aload_n hx hb dk2_12 rfl (lv_at hl 0 rfl) ?_
  refine lv_bipush (v := nI 10) hx hb dk2_13 (by decide +kernel) ?_
  refine b_arrI (ci := 2) (N := 10) hx hb hts hown hin (by decide) hK hP hD hS hA 1 (by decide) (in_gT (List.mem_of_getElem? (i := 252) (by decide +kernel)) rfl) rfl rfl (by decide +kernel) (Nat.le_of_ble_eq_true rfl) (by decide) (Nat.le_of_ble_eq_true rfl) (Nat.le_of_ble_eq_true rfl) dk2_15 dk2_17 (fun q2 H locs hP hD hS => ?_)
  refine lv_aload_n hx hb dk2_20 rfl (lv_at hl 0 rfl) ?_
  refine lv_bipush (v := nI 10) hx hb dk2_21 (by decide +kernel) ?_
  refine b_arrI (ci := 2) (N := 10) hx hb hts hown hin (by decide) hK hP hD hS hA 2 (by decide) (in_gT (List.mem_of_getElem? (i := 253) (by decide +kernel)) rfl) rfl rfl (by decide +kernel) (Nat.le_of_ble_eq_true rfl) (by decide) (Nat.le_of_ble_eq_true rfl) (Nat.le_of_ble_eq_true rfl) dk2_23 dk2_25 (fun q3 H locs hP hD hS => ?_)
  refine W.widen (k := 3) (n := 30) (Nat.le_of_ble_eq_true rfl) (Nat.le_of_ble_eq_true rfl) ?_
  exact W.vret hx hb hr (fun t ht hW => ⟨⟨adL [h0, q1, q2, q3] 25, rfl, rfl, by rw [ht]; exact hP, va_K.moved hW.alike hK, hD⟩, hS.F ht⟩) hS.2.2 dk2_28

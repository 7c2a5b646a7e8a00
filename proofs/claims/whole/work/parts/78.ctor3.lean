/-! constructors: State, Tape */ -/
theorem dfl0 : ∀ j, j < cN 0 → defaultValue (tyF 0 j) = vp_V [.null, .null, .null, .int 0] j := by decide +kernel
theorem dfl1 : ∀ j, j < cN 1 → defaultValue (tyF 1 j) = vp_V [.null, .null, .null, .null, .null, .null, .int 0] j := by decide +kernel
theorem dfl2 : ∀ j, j < cN 2 → defaultValue (tyF 2 j) = vp_V [.null, .null, .null, .int 0] j := by decide +kernel
theorem dfl3 : ∀ j, j < cN 3 → defaultValue (tyF 3 j) = vp_V [.int 0, .int 0, .int 0, .null, .null, .null, .null, .null, .null, .null, .null, .null, .null, .null] j := by decide +kernel
theorem dfl4 : ∀ j, j < cN 4 → defaultValue (tyF 4 j) = vp_V [.null, .null, .null, .null, .null, .null, .int 0] j := by decide +kernel
theorem dfl5 : ∀ j, j < cN 5 → defaultValue (tyF 5 j) = vp_V [.int 0, .int 0, .int 0, .int 0, .null, .null, .null, .null, .null, .null, .null, .null, .null, .null, .null, .null, .null, .null, .null, .null] j := by decide +kernel
theorem dfl6 : ∀ j, j < cN 6 → defaultValue (tyF 6 j) = vp_V [.null, .null, .null, .null] j := by decide +kernel
theorem dfl7 : ∀ j, j < cN 7 → defaultValue (tyF 7 j) = vp_V [.int 0, .int 0, .int 0, .null, .null] j := by decide +kernel
theorem dfl8 : ∀ j, j < cN 8 → defaultValue (tyF 8 j) = vp_V [.null, .null, .int 0] j := by decide +kernel
theorem dfl9 : ∀ j, j < cN 9 → defaultValue (tyF 9 j) = vp_V [.null, .null, .null, .null, .null, .null, .null, .null, .null, .int 0, .int 0] j := by decide +kernel
theorem dfl10 : ∀ j, j < cN 10 → defaultValue (tyF 10 j) = vp_V [.null, .null, .null, .null, .null, .null, .null, .null, .null, .null, .null, .null, .null, .null, .null, .null, .null, .null, .null, .null, .null, .null, .null, .null, .null, .null, .null, .null, .null, .null, .int 0, .int 0, .int 0, .int 0, .int 0, .int 0, .int 0, .int 0, .int 0, .null, .null, .int 0, .null, .null, .null] j := by decide +kernel
def S40 (g : Nat) : List Ob := [(g, 40), (g, 41), (g, 42), (g, 43), (g, 44), (g, 45), (g, 46), (g, 47), (g, 48), (g, 49), (g, 50), (g, 51), (g, 52), (g, 53)]
def SA (g : Nat) : List Ob := [(g, 54), (g, 55), (g, 56), (g, 57)]
def SS (g : Nat) : List Ob := S40 g ++ (SA (wg g) ++ SA (tg g))
def adS (l : List Nat) (a b : AD) (bk g : Nat) : AD := fun o => bif Nat.blt o.2 54 then adL l 40 o else bif Nat.beq o.2 62 then bk else if o.1 = wg g then a o else b o
theorem SA_refs {g : Nat} : ∀ o, o ∈ SA g → refsIn (SA g) o := by
  intro o ho
  unfold SA at ho
  simp only [List.mem_cons, List.not_mem_nil, or_false] at ho
  rcases ho with rfl | rfl | rfl | rfl
  · refine ⟨fun _ k f j hk hf => ?_, Or.inl rfl⟩
    have hk : k < 4 := hk
    have hf : fd0 k = some (f, j) := hf
    unfold SA
    rcases (show k = 0 ∨ k = 1 ∨ k = 2 ∨ k = 3 by omega) with rfl | rfl | rfl | rfl
    · cases hf; simp
    · cases hf; simp
    · cases hf; simp
    · cases hf
  all_goals exact ⟨fun e => absurd e (by show ¬ (2 : Nat) = 1; decide), Or.inr (Or.inl rfl)⟩
theorem SA_o {g : Nat} {o : Ob} (h : o ∈ SA g) : o.1 = g ∧ 54 ≤ o.2 ∧ o.2 ≤ 57 := by
  unfold SA at h
  simp only [List.mem_cons, List.not_mem_nil, or_false] at h
  rcases h with rfl | rfl | rfl | rfl <;> exact ⟨rfl, by show 54 ≤ _; omega, by show _ ≤ 57; omega⟩
theorem adS_w {l a b bk g} : ∀ o, o ∈ SA (wg g) → adS l a b bk g o = a o := by
  intro o ho
  obtain ⟨h1, h2, h3⟩ := SA_o ho
  unfold adS
  rw [show Nat.blt o.2 54 = false by rw [Bool.eq_false_iff]; intro x; have : o.2 < 54 := Nat.le_of_ble_eq_true x; omega, beq_f (by omega), cond_false, cond_false, if_pos h1]
theorem adS_t {l a b bk g} : ∀ o, o ∈ SA (tg g) → adS l a b bk g o = b o := by
  intro o ho
  obtain ⟨h1, h2, h3⟩ := SA_o ho
  unfold adS
  rw [show Nat.blt o.2 54 = false by rw [Bool.eq_false_iff]; intro x; have : o.2 < 54 := Nat.le_of_ble_eq_true x; omega, beq_f (by omega), cond_false, cond_false, if_neg (by rw [h1]; unfold wg tg; omega)]
theorem dk5_0 : decode cX5_init 0 = .ok (.aload_n 0, 1) := by decide +kernel
theorem dk5_1 : decode cX5_init 1 = .ok (.invokespecial 3, 3) := by decide +kernel
theorem dk5_4 : decode cX5_init 4 = .ok (.aload_n 0, 1) := by decide +kernel
theorem dk5_5 : decode cX5_init 5 = .ok (.bipush 24, 2) := by decide +kernel
theorem dk5_7 : decode cX5_init 7 = .ok (.newarray .int, 2) := by decide +kernel
theorem dk5_9 : decode cX5_init 9 = .ok (.putfield 9, 3) := by decide +kernel
theorem dk5_12 : decode cX5_init 12 = .ok (.aload_n 0, 1) := by decide +kernel
theorem dk5_13 : decode cX5_init 13 = .ok (.bipush 24, 2) := by decide +kernel
theorem dk5_15 : decode cX5_init 15 = .ok (.newarray .int, 2) := by decide +kernel
theorem dk5_17 : decode cX5_init 17 = .ok (.putfield 15, 3) := by decide +kernel
theorem dk5_20 : decode cX5_init 20 = .ok (.aload_n 0, 1) := by decide +kernel
theorem dk5_21 : decode cX5_init 21 = .ok (.bipush 24, 2) := by decide +kernel
theorem dk5_23 : decode cX5_init 23 = .ok (.newarray .int, 2) := by decide +kernel
theorem dk5_25 : decode cX5_init 25 = .ok (.putfield 18, 3) := by decide +kernel
theorem dk5_28 : decode cX5_init 28 = .ok (.aload_n 0, 1) := by decide +kernel
theorem dk5_29 : decode cX5_init 29 = .ok (.bipush 24, 2) := by decide +kernel
theorem dk5_31 : decode cX5_init 31 = .ok (.newarray .int, 2) := by decide +kernel
theorem dk5_33 : decode cX5_init 33 = .ok (.putfield 21, 3) := by decide +kernel
theorem dk5_36 : decode cX5_init 36 = .ok (.aload_n 0, 1) := by decide +kernel
theorem dk5_37 : decode cX5_init 37 = .ok (.bipush 24, 2) := by decide +kernel
theorem dk5_39 : decode cX5_init 39 = .ok (.newarray .int, 2) := by decide +kernel
theorem dk5_41 : decode cX5_init 41 = .ok (.putfield 24, 3) := by decide +kernel
theorem dk5_44 : decode cX5_init 44 = .ok (.aload_n 0, 1) := by decide +kernel
theorem dk5_45 : decode cX5_init 45 = .ok (.bipush 24, 2) := by decide +kernel
theorem dk5_47 : decode cX5_init 47 = .ok (.newarray .int, 2) := by decide +kernel
theorem dk5_49 : decode cX5_init 49 = .ok (.putfield 27, 3) := by decide +kernel
theorem dk5_52 : decode cX5_init 52 = .ok (.aload_n 0, 1) := by decide +kernel
theorem dk5_53 : decode cX5_init 53 = .ok (.bipush 24, 2) := by decide +kernel
theorem dk5_55 : decode cX5_init 55 = .ok (.newarray .int, 2) := by decide +kernel
theorem dk5_57 : decode cX5_init 57 = .ok (.putfield 30, 3) := by decide +kernel
theorem dk5_60 : decode cX5_init 60 = .ok (.aload_n 0, 1) := by decide +kernel
theorem dk5_61 : decode cX5_init 61 = .ok (.bipush 24, 2) := by decide +kernel
theorem dk5_63 : decode cX5_init 63 = .ok (.newarray .int, 2) := by decide +kernel
theorem dk5_65 : decode cX5_init 65 = .ok (.putfield 33, 3) := by decide +kernel
theorem dk5_68 : decode cX5_init 68 = .ok (.aload_n 0, 1) := by decide +kernel
theorem dk5_69 : decode cX5_init 69 = .ok (.bipush 24, 2) := by decide +kernel
theorem dk5_71 : decode cX5_init 71 = .ok (.newarray .int, 2) := by decide +kernel
theorem dk5_73 : decode cX5_init 73 = .ok (.putfield 36, 3) := by decide +kernel
theorem dk5_76 : decode cX5_init 76 = .ok (.aload_n 0, 1) := by decide +kernel
theorem dk5_77 : decode cX5_init 77 = .ok (.bipush 24, 2) := by decide +kernel
theorem dk5_79 : decode cX5_init 79 = .ok (.newarray .int, 2) := by decide +kernel
theorem dk5_81 : decode cX5_init 81 = .ok (.putfield 39, 3) := by decide +kernel
theorem dk5_84 : decode cX5_init 84 = .ok (.aload_n 0, 1) := by decide +kernel
theorem dk5_85 : decode cX5_init 85 = .ok (.bipush 24, 2) := by decide +kernel
theorem dk5_87 : decode cX5_init 87 = .ok (.newarray .int, 2) := by decide +kernel
theorem dk5_89 : decode cX5_init 89 = .ok (.putfield 42, 3) := by decide +kernel
theorem dk5_92 : decode cX5_init 92 = .ok (.aload_n 0, 1) := by decide +kernel
theorem dk5_93 : decode cX5_init 93 = .ok (.bipush 24, 2) := by decide +kernel
theorem dk5_95 : decode cX5_init 95 = .ok (.newarray .int, 2) := by decide +kernel
theorem dk5_97 : decode cX5_init 97 = .ok (.putfield 45, 3) := by decide +kernel
theorem dk5_100 : decode cX5_init 100 = .ok (.aload_n 0, 1) := by decide +kernel
theorem dk5_101 : decode cX5_init 101 = .ok (.bipush 12, 2) := by decide +kernel
theorem dk5_103 : decode cX5_init 103 = .ok (.newarray .int, 2) := by decide +kernel
theorem dk5_105 : decode cX5_init 105 = .ok (.putfield 48, 3) := by decide +kernel
theorem dk5_108 : decode cX5_init 108 = .ok (.aload_n 0, 1) := by decide +kernel
theorem dk5_109 : decode cX5_init 109 = .ok (.new 51, 3) := by decide +kernel
theorem dk5_112 : decode cX5_init 112 = .ok (.dup, 1) := by decide +kernel
theorem dk5_113 : decode cX5_init 113 = .ok (.bipush 40, 2) := by decide +kernel
theorem dk5_115 : decode cX5_init 115 = .ok (.invokespecial 53, 3) := by decide +kernel
theorem dk5_118 : decode cX5_init 118 = .ok (.putfield 56, 3) := by decide +kernel
theorem dk5_121 : decode cX5_init 121 = .ok (.aload_n 0, 1) := by decide +kernel
theorem dk5_122 : decode cX5_init 122 = .ok (.new 51, 3) := by decide +kernel
theorem dk5_125 : decode cX5_init 125 = .ok (.dup, 1) := by decide +kernel
theorem dk5_126 : decode cX5_init 126 = .ok (.bipush 32, 2) := by decide +kernel
theorem dk5_128 : decode cX5_init 128 = .ok (.invokespecial 53, 3) := by decide +kernel
theorem dk5_131 : decode cX5_init 131 = .ok (.putfield 60, 3) := by decide +kernel
theorem dk5_134 : decode cX5_init 134 = .ok (.aload_n 0, 1) := by decide +kernel
theorem dk5_135 : decode cX5_init 135 = .ok (.aload_n 1, 1) := by decide +kernel
theorem dk5_136 : decode cX5_init 136 = .ok (.putfield 63, 3) := by decide +kernel
theorem dk5_139 : decode cX5_init 139 = .ok (.return_, 1) := by decide +kernel
set_option maxHeartbeats 4000000 in
set_option maxRecDepth 100000 in
theorem k_X5 (l : Launch) (D : va_G) (cI cZ cJ cW cP : ClassId) (h0 sz : Nat) (g bk : Nat) (hg : g ≤ 8) : Met l yX5_init (Cond.code yX5_init cX5_init 2 none :: gT) { frames := 2, cells := 21, slots := 548, locals := 60 } (va_Pc [.ref h0, .ref bk] (fun U => U.heap.size = sz ∧ va_P D vwCl [(h0, .inr (5, [.int 0, .int 0, .int 0, .int 0, .null, .null, .null, .null, .null, .null, .null, .null, .null, .null, .null, .null, .null, .null, .null, .null]))] U.heap ∧ va_K D vwCl (KT cI cZ cJ) U ∧ va_D (fun _ => True) [(h0, .inr (5, [.int 0, .int 0, .int 0, .int 0, .null, .null, .null, .null, .null, .null, .null, .null, .null, .null, .null, .null, .null, .null, .null, .null]))])) (va_Qv (fun ad : AD => ad (g, 40) = h0 ∧ ad (bg g, 62) = bk) (fun ad t => va_P D vwCl (WS ad cI cZ cJ cW cP z0 (SS g)) t.heap ∧ va_K D vwCl (KT cI cZ cJ) t ∧ va_D (va_A [(h0, .inr (5, [.int 0, .int 0, .int 0, .int 0, .null, .null, .null, .null, .null, .null, .null, .null, .null, .null, .null, .null, .null, .null, .null, .null]))] sz) (WS ad cI cZ cJ cW cP z0 (SS g))) (va_A [(h0, .inr (5, [.int 0, .int 0, .int 0, .int 0, .null, .null, .null, .null, .null, .null, .null, .null, .null, .null, .null, .null, .null, .null, .null, .null]))] sz)) 21 548 (va_A [(h0, .inr (5, [.int 0, .int 0, .int 0, .int 0, .null, .null, .null, .null, .null, .null, .null, .null, .null, .null, .null, .null, .null, .null, .null, .null]))] sz) := by
  refine Met.ofW (cc := cX5_init) (maxL := 2) (ret := none) (by decide) rfl ?_
  intro p e s m args below meth c s₁ B hml hv
  obtain ⟨rfl, hsz, hP, hK, hD0⟩ := hv
  have hx := B.exec
  have hb := B.bytes
  have hr := B.returns
  have hts0 := atoms_spec (ws := Cond.code yX5_init cX5_init 2 none :: gT) B.pre
  have hts : ∀ w ∈ gT, w.before _ s = true := fun w hw => hts0 w (List.mem_cons_of_mem _ hw)
  have hown : s.vm.findClass (cR 5) = some m.cls := findClass_of_methodNamed B.named
  have hlocks := B.notSynchronized
  have hin : meth.name = "<init>" := (name_of_methodNamed B.named B.method).1
  subst hsz
  have hD := hD0.self (sz := s.heap.size)
  generalize hAe : va_A [(h0, .inr (5, [.int 0, .int 0, .int 0, .int 0, .null, .null, .null, .null, .null, .null, .null, .null, .null, .null, .null, .null, .null, .null, .null, .null]))] s.heap.size = A at hD ⊢
  have hA : ∀ q : Nat, s.heap.size ≤ q → A q := fun q h => by rw [← hAe]; exact Or.inr h
  have hS : va_S A s.heap s.heap [] := va_S.rf
  have hP : va_P D vwCl [(h0, .inr (5, [.int 0, .int 0, .int 0, .int 0, .null, .null, .null, .null, .null, .null, .null, .null, .null, .null, .null, .null, .null, .null, .null, .null]))] s.heap := hP
  have hl := lv_entry ([.ref h0, .ref bk]) (n := 2) (Nat.le_of_ble_eq_true rfl)
  rw [lg_entry_eq]
  generalize (lg_sl ([.ref h0, .ref bk]) ++ List.replicate (2 - (lg_sl ([.ref h0, .ref bk])).length) Slot.unset).toArray = ls at hl ⊢
  have hl : lv_has ls 2 [(0, .ref h0), (1, .ref bk)] := hl
  refine lv_aload_n hx hb dk5_0 rfl (lv_at hl 0 rfl) ?_
  refine W.objInit hx hb hown (hts _ (in_gT (List.mem_of_getElem? (i := 299) (by decide +kernel)) rfl)) (hts _ (in_gT (List.mem_of_getElem? (i := 85) (by decide +kernel)) rfl)) (hts _ objc_gT) rfl (by rw [hml]; exact hl.1) rfl dk5_1 (Nat.le_of_ble_eq_true rfl) (Nat.le_of_ble_eq_true rfl) ?_
  refine W.eq (g2 := F0 m 4 ls []) rfl ?_
  refine lv_aload_n hx hb dk5_4 rfl (lv_at hl 0 rfl) ?_
  refine lv_bipush (v := nI 24) hx hb dk5_5 (by decide +kernel) ?_
  refine b_arrI (ci := 5) (N := 24) hx hb hts hown hin (by decide) hK hP hD hS hA 4 (by decide) (in_gT (List.mem_of_getElem? (i := 313) (by decide +kernel)) rfl) rfl rfl (by decide +kernel) (Nat.le_of_ble_eq_true rfl) (by decide) (Nat.le_of_ble_eq_true rfl) (Nat.le_of_ble_eq_true rfl) dk5_7 dk5_9 (fun q1 H locs hP hD hS => ?_)
  refine lv_aload_n hx hb dk5_12 rfl (lv_at hl 0 rfl) ?_
  refine lv_bipush (v := nI 24) hx hb dk5_13 (by decide +kernel) ?_
  refine b_arrI (ci := 5) (N := 24) hx hb hts hown hin (by decide) hK hP hD hS hA 5 (by decide) (in_gT (List.mem_of_getElem? (i := 316) (by decide +kernel)) rfl) rfl rfl (by decide +kernel) (Nat.le_of_ble_eq_true rfl) (by decide) (Nat.le_of_ble_eq_true rfl) (Nat.le_of_ble_eq_true rfl) dk5_15 dk5_17 (fun q2 H locs hP hD hS => ?_)
  refine lv_aload_n hx hb dk5_20 rfl (lv_at hl 0 rfl) ?_
  refine lv_bipush (v := nI 24) hx hb dk5_21 (by decide +kernel) ?_
  refine b_arrI (ci := 5) (N := 24) hx hb hts hown hin (by decide) hK hP hD hS hA 6 (by decide) (in_gT (List.mem_of_getElem? (i := 319) (by decide +kernel)) rfl) rfl rfl (by decide +kernel) (Nat.le_of_ble_eq_true rfl) (by decide) (Nat.le_of_ble_eq_true rfl) (Nat.le_of_ble_eq_true rfl) dk5_23 dk5_25 (fun q3 H locs hP hD hS => ?_)
  refine lv_aload_n hx hb dk5_28 rfl (lv_at hl 0 rfl) ?_
  refine lv_bipush (v := nI 24) hx hb dk5_29 (by decide +kernel) ?_
  refine b_arrI (ci := 5) (N := 24) hx hb hts hown hin (by decide) hK hP hD hS hA 7 (by decide) (in_gT (List.mem_of_getElem? (i := 322) (by decide +kernel)) rfl) rfl rfl (by decide +kernel) (Nat.le_of_ble_eq_true rfl) (by decide) (Nat.le_of_ble_eq_true rfl) (Nat.le_of_ble_eq_true rfl) dk5_31 dk5_33 (fun q4 H locs hP hD hS => ?_)
  refine lv_aload_n hx hb dk5_36 rfl (lv_at hl 0 rfl) ?_
  refine lv_bipush (v := nI 24) hx hb dk5_37 (by decide +kernel) ?_
  refine b_arrI (ci := 5) (N := 24) hx hb hts hown hin (by decide) hK hP hD hS hA 8 (by decide) (in_gT (List.mem_of_getElem? (i := 325) (by decide +kernel)) rfl) rfl rfl (by decide +kernel) (Nat.le_of_ble_eq_true rfl) (by decide) (Nat.le_of_ble_eq_true rfl) (Nat.le_of_ble_eq_true rfl) dk5_39 dk5_41 (fun q5 H locs hP hD hS => ?_)
  refine lv_aload_n hx hb dk5_44 rfl (lv_at hl 0 rfl) ?_
  refine lv_bipush (v := nI 24) hx hb dk5_45 (by decide +kernel) ?_
  refine b_arrI (ci := 5) (N := 24) hx hb hts hown hin (by decide) hK hP hD hS hA 9 (by decide) (in_gT (List.mem_of_getElem? (i := 328) (by decide +kernel)) rfl) rfl rfl (by decide +kernel) (Nat.le_of_ble_eq_true rfl) (by decide) (Nat.le_of_ble_eq_true rfl) (Nat.le_of_ble_eq_true rfl) dk5_47 dk5_49 (fun q6 H locs hP hD hS => ?_)
  refine lv_aload_n hx hb dk5_52 rfl (lv_at hl 0 rfl) ?_
  refine lv_bipush (v := nI 24) hx hb dk5_53 (by decide +kernel) ?_
  refine b_arrI (ci := 5) (N := 24) hx hb hts hown hin (by decide) hK hP hD hS hA 10 (by decide) (in_gT (List.mem_of_getElem? (i := 331) (by decide +kernel)) rfl) rfl rfl (by decide +kernel) (Nat.le_of_ble_eq_true rfl) (by decide) (Nat.le_of_ble_eq_true rfl) (Nat.le_of_ble_eq_true rfl) dk5_55 dk5_57 (fun q7 H locs hP hD hS => ?_)
  refine lv_aload_n hx hb dk5_60 rfl (lv_at hl 0 rfl) ?_
  refine lv_bipush (v := nI 24) hx hb dk5_61 (by decide +kernel) ?_
  refine b_arrI (ci := 5) (N := 24) hx hb hts hown hin (by decide) hK hP hD hS hA 11 (by decide) (in_gT (List.mem_of_getElem? (i := 334) (by decide +kernel)) rfl) rfl rfl (by decide +kernel) (Nat.le_of_ble_eq_true rfl) (by decide) (Nat.le_of_ble_eq_true rfl) (Nat.le_of_ble_eq_true rfl) dk5_63 dk5_65 (fun q8 H locs hP hD hS => ?_)
  refine lv_aload_n hx hb dk5_68 rfl (lv_at hl 0 rfl) ?_
  refine lv_bipush (v := nI 24) hx hb dk5_69 (by decide +kernel) ?_
  refine b_arrI (ci := 5) (N := 24) hx hb hts hown hin (by decide) hK hP hD hS hA 12 (by decide) (in_gT (List.mem_of_getElem? (i := 337) (by decide +kernel)) rfl) rfl rfl (by decide +kernel) (Nat.le_of_ble_eq_true rfl) (by decide) (Nat.le_of_ble_eq_true rfl) (Nat.le_of_ble_eq_true rfl) dk5_71 dk5_73 (fun q9 H locs hP hD hS => ?_)
  refine lv_aload_n hx hb dk5_76 rfl (lv_at hl 0 rfl) ?_
  refine lv_bipush (v := nI 24) hx hb dk5_77 (by decide +kernel) ?_
  refine b_arrI (ci := 5) (N := 24) hx hb hts hown hin (by decide) hK hP hD hS hA 13 (by decide) (in_gT (List.mem_of_getElem? (i := 340) (by decide +kernel)) rfl) rfl rfl (by decide +kernel) (Nat.le_of_ble_eq_true rfl) (by decide) (Nat.le_of_ble_eq_true rfl) (Nat.le_of_ble_eq_true rfl) dk5_79 dk5_81 (fun q10 H locs hP hD hS => ?_)
  refine lv_aload_n hx hb dk5_84 rfl (lv_at hl 0 rfl) ?_
  refine lv_bipush (v := nI 24) hx hb dk5_85 (by decide +kernel) ?_
  refine b_arrI (ci := 5) (N := 24) hx hb hts hown hin (by decide) hK hP hD hS hA 14 (by decide) (in_gT (List.mem_of_getElem? (i := 343) (by decide +kernel)) rfl) rfl rfl (by decide +kernel) (Nat.le_of_ble_eq_true rfl) (by decide) (Nat.le_of_ble_eq_true rfl) (Nat.le_of_ble_eq_true rfl) dk5_87 dk5_89 (fun q11 H locs hP hD hS => ?_)
  refine lv_aload_n hx hb dk5_92 rfl (lv_at hl 0 rfl) ?_
  refine lv_bipush (v := nI 24) hx hb dk5_93 (by decide +kernel) ?_
  refine b_arrI (ci := 5) (N := 24) hx hb hts hown hin (by decide) hK hP hD hS hA 15 (by decide) (in_gT (List.mem_of_getElem? (i := 346) (by decide +kernel)) rfl) rfl rfl (by decide +kernel) (Nat.le_of_ble_eq_true rfl) (by decide) (Nat.le_of_ble_eq_true rfl) (Nat.le_of_ble_eq_true rfl) dk5_95 dk5_97 (fun q12 H locs hP hD hS => ?_)
  refine lv_aload_n hx hb dk5_100 rfl (lv_at hl 0 rfl) ?_
  refine lv_bipush (v := nI 12) hx hb dk5_101 (by decide +kernel) ?_
  refine b_arrI (ci := 5) (N := 12) hx hb hts hown hin (by decide) hK hP hD hS hA 16 (by decide) (in_gT (List.mem_of_getElem? (i := 349) (by decide +kernel)) rfl) rfl rfl (by decide +kernel) (Nat.le_of_ble_eq_true rfl) (by decide) (Nat.le_of_ble_eq_true rfl) (Nat.le_of_ble_eq_true rfl) dk5_103 dk5_105 (fun q13 H locs hP hD hS => ?_)
  have hP : va_P D vwCl ((h0, .inr (5, [.int 0, .int 0, .int 0, .int 0, .ref q1, .ref q2, .ref q3, .ref q4, .ref q5, .ref q6, .ref q7, .ref q8, .ref q9, .ref q10, .ref q11, .ref q12, .ref q13, .null, .null, .null])) :: [(q1, .inl (cI, 24, .inl (fun _ => 0))), (q2, .inl (cI, 24, .inl (fun _ => 0))), (q3, .inl (cI, 24, .inl (fun _ => 0))), (q4, .inl (cI, 24, .inl (fun _ => 0))), (q5, .inl (cI, 24, .inl (fun _ => 0))), (q6, .inl (cI, 24, .inl (fun _ => 0))), (q7, .inl (cI, 24, .inl (fun _ => 0))), (q8, .inl (cI, 24, .inl (fun _ => 0))), (q9, .inl (cI, 24, .inl (fun _ => 0))), (q10, .inl (cI, 24, .inl (fun _ => 0))), (q11, .inl (cI, 24, .inl (fun _ => 0))), (q12, .inl (cI, 24, .inl (fun _ => 0))), (q13, .inl (cI, 12, .inl (fun _ => 0)))]) H := hP
  have hD : va_D A ((h0, .inr (5, [.int 0, .int 0, .int 0, .int 0, .ref q1, .ref q2, .ref q3, .ref q4, .ref q5, .ref q6, .ref q7, .ref q8, .ref q9, .ref q10, .ref q11, .ref q12, .ref q13, .null, .null, .null])) :: [(q1, .inl (cI, 24, .inl (fun _ => 0))), (q2, .inl (cI, 24, .inl (fun _ => 0))), (q3, .inl (cI, 24, .inl (fun _ => 0))), (q4, .inl (cI, 24, .inl (fun _ => 0))), (q5, .inl (cI, 24, .inl (fun _ => 0))), (q6, .inl (cI, 24, .inl (fun _ => 0))), (q7, .inl (cI, 24, .inl (fun _ => 0))), (q8, .inl (cI, 24, .inl (fun _ => 0))), (q9, .inl (cI, 24, .inl (fun _ => 0))), (q10, .inl (cI, 24, .inl (fun _ => 0))), (q11, .inl (cI, 24, .inl (fun _ => 0))), (q12, .inl (cI, 24, .inl (fun _ => 0))), (q13, .inl (cI, 12, .inl (fun _ => 0)))]) := hD
  refine lv_aload_n hx hb dk5_108 rfl (lv_at hl 0 rfl) ?_
  refine va_new (ci := 0) (fs := [.null, .null, .null, .int 0]) (C := cR 0) (T := cT 0) (N := cN 0) hx hb hts (fun w hw => fW_in (ci := 0) (by decide) hw) (tyF 0) (tyF_ok (ci := 0) (by decide)) hown (hts _ (in_gT (List.mem_of_getElem? (i := 300) (by decide +kernel)) rfl)) (hts _ (in_gT (List.mem_of_getElem? (i := 219) (by decide +kernel)) rfl)) (hts _ (in_gT (List.mem_of_getElem? (i := 64) (by decide +kernel)) rfl)) hK hP hD hS hA (cl_at (ci := 0) (by decide)) (fun j hj => dfl0 j hj) (Nat.le_of_ble_eq_true rfl) (Nat.le_of_ble_eq_true rfl) dk5_109 (fun qw H hP hD hS => ?_)
  refine lv_dup hx hb dk5_112 rfl ?_
  refine lv_bipush (v := nI 40) hx hb dk5_113 (by decide +kernel) ?_
  have lw : len (wg g) 55 = 40 := (len_w5 hg).1
  refine b_call (X := ((h0, .inr (5, [.int 0, .int 0, .int 0, .int 0, .ref q1, .ref q2, .ref q3, .ref q4, .ref q5, .ref q6, .ref q7, .ref q8, .ref q9, .ref q10, .ref q11, .ref q12, .ref q13, .null, .null, .null])) :: [(q1, .inl (cI, 24, .inl (fun _ => 0))), (q2, .inl (cI, 24, .inl (fun _ => 0))), (q3, .inl (cI, 24, .inl (fun _ => 0))), (q4, .inl (cI, 24, .inl (fun _ => 0))), (q5, .inl (cI, 24, .inl (fun _ => 0))), (q6, .inl (cI, 24, .inl (fun _ => 0))), (q7, .inl (cI, 24, .inl (fun _ => 0))), (q8, .inl (cI, 24, .inl (fun _ => 0))), (q9, .inl (cI, 24, .inl (fun _ => 0))), (q10, .inl (cI, 24, .inl (fun _ => 0))), (q11, .inl (cI, 24, .inl (fun _ => 0))), (q12, .inl (cI, 24, .inl (fun _ => 0))), (q13, .inl (cI, 12, .inl (fun _ => 0)))])) (q := qw) (As := [.int (nI 40)]) (ci' := 0) (fs' := [.null, .null, .null, .int 0]) (own := cR 5) (cW := cW) (cP := cP) hx hb hml hown hts hK hP hD hS hA (by rw [← lw]; exact k_X0 l D cI cZ cJ cW cP qw H.size (wg g) (by omega)) (in_gT (List.mem_of_getElem? (i := 222) (by decide +kernel)) rfl) (in_gT (List.mem_of_getElem? (i := 64) (by decide +kernel)) rfl) (in_gT (List.mem_of_getElem? (i := 221) (by decide +kernel)) rfl) (in_gT (List.mem_of_getElem? (i := 301) (by decide +kernel)) rfl) rfl ⟨by decide, by decide, show _ = some 1 by decide +kernel⟩ rfl rfl ⟨Nat.le_of_ble_eq_true rfl, Nat.le_of_ble_eq_true rfl⟩ hl.1 (Nat.le_of_ble_eq_true rfl) dk5_115 ⟨Nat.le_of_ble_eq_true rfl, Nat.le_of_ble_eq_true rfl⟩ (fun aw H locs pw hP hD hS => ?_)
  have pw : aw (wg g, 54) = qw := pw
  refine b_put (ci := 5) (ty := .object "IceOut$Acts") hx hb hts hown hin (by decide) hK hP hD hS 17 (by decide) (in_gT (List.mem_of_getElem? (i := 352) (by decide +kernel)) rfl) rfl rfl (by decide +kernel) rfl rfl (Nat.le_of_ble_eq_true rfl) dk5_118 (fun H locs hP hD hS => ?_)
  have hP : va_P D vwCl ((h0, .inr (5, [.int 0, .int 0, .int 0, .int 0, .ref q1, .ref q2, .ref q3, .ref q4, .ref q5, .ref q6, .ref q7, .ref q8, .ref q9, .ref q10, .ref q11, .ref q12, .ref q13, .ref qw, .null, .null])) :: ([(q1, .inl (cI, 24, .inl (fun _ => 0))), (q2, .inl (cI, 24, .inl (fun _ => 0))), (q3, .inl (cI, 24, .inl (fun _ => 0))), (q4, .inl (cI, 24, .inl (fun _ => 0))), (q5, .inl (cI, 24, .inl (fun _ => 0))), (q6, .inl (cI, 24, .inl (fun _ => 0))), (q7, .inl (cI, 24, .inl (fun _ => 0))), (q8, .inl (cI, 24, .inl (fun _ => 0))), (q9, .inl (cI, 24, .inl (fun _ => 0))), (q10, .inl (cI, 24, .inl (fun _ => 0))), (q11, .inl (cI, 24, .inl (fun _ => 0))), (q12, .inl (cI, 24, .inl (fun _ => 0))), (q13, .inl (cI, 12, .inl (fun _ => 0)))] ++ WS aw cI cZ cJ cW cP z0 (SA (wg g)))) H := hP
  have hD : va_D A ((h0, .inr (5, [.int 0, .int 0, .int 0, .int 0, .ref q1, .ref q2, .ref q3, .ref q4, .ref q5, .ref q6, .ref q7, .ref q8, .ref q9, .ref q10, .ref q11, .ref q12, .ref q13, .ref qw, .null, .null])) :: ([(q1, .inl (cI, 24, .inl (fun _ => 0))), (q2, .inl (cI, 24, .inl (fun _ => 0))), (q3, .inl (cI, 24, .inl (fun _ => 0))), (q4, .inl (cI, 24, .inl (fun _ => 0))), (q5, .inl (cI, 24, .inl (fun _ => 0))), (q6, .inl (cI, 24, .inl (fun _ => 0))), (q7, .inl (cI, 24, .inl (fun _ => 0))), (q8, .inl (cI, 24, .inl (fun _ => 0))), (q9, .inl (cI, 24, .inl (fun _ => 0))), (q10, .inl (cI, 24, .inl (fun _ => 0))), (q11, .inl (cI, 24, .inl (fun _ => 0))), (q12, .inl (cI, 24, .inl (fun _ => 0))), (q13, .inl (cI, 12, .inl (fun _ => 0)))] ++ WS aw cI cZ cJ cW cP z0 (SA (wg g)))) := hD
  refine lv_aload_n hx hb dk5_121 rfl (lv_at hl 0 rfl) ?_
  refine va_new (ci := 0) (fs := [.null, .null, .null, .int 0]) (C := cR 0) (T := cT 0) (N := cN 0) hx hb hts (fun w hw => fW_in (ci := 0) (by decide) hw) (tyF 0) (tyF_ok (ci := 0) (by decide)) hown (hts _ (in_gT (List.mem_of_getElem? (i := 300) (by decide +kernel)) rfl)) (hts _ (in_gT (List.mem_of_getElem? (i := 219) (by decide +kernel)) rfl)) (hts _ (in_gT (List.mem_of_getElem? (i := 64) (by decide +kernel)) rfl)) hK hP hD hS hA (cl_at (ci := 0) (by decide)) (fun j hj => dfl0 j hj) (Nat.le_of_ble_eq_true rfl) (Nat.le_of_ble_eq_true rfl) dk5_122 (fun qt H hP hD hS => ?_)
  refine lv_dup hx hb dk5_125 rfl ?_
  refine lv_bipush (v := nI 32) hx hb dk5_126 (by decide +kernel) ?_
  have lt : len (tg g) 55 = 32 := (len_t5 hg).1
  refine b_call (X := ((h0, .inr (5, [.int 0, .int 0, .int 0, .int 0, .ref q1, .ref q2, .ref q3, .ref q4, .ref q5, .ref q6, .ref q7, .ref q8, .ref q9, .ref q10, .ref q11, .ref q12, .ref q13, .ref qw, .null, .null])) :: ([(q1, .inl (cI, 24, .inl (fun _ => 0))), (q2, .inl (cI, 24, .inl (fun _ => 0))), (q3, .inl (cI, 24, .inl (fun _ => 0))), (q4, .inl (cI, 24, .inl (fun _ => 0))), (q5, .inl (cI, 24, .inl (fun _ => 0))), (q6, .inl (cI, 24, .inl (fun _ => 0))), (q7, .inl (cI, 24, .inl (fun _ => 0))), (q8, .inl (cI, 24, .inl (fun _ => 0))), (q9, .inl (cI, 24, .inl (fun _ => 0))), (q10, .inl (cI, 24, .inl (fun _ => 0))), (q11, .inl (cI, 24, .inl (fun _ => 0))), (q12, .inl (cI, 24, .inl (fun _ => 0))), (q13, .inl (cI, 12, .inl (fun _ => 0)))] ++ WS aw cI cZ cJ cW cP z0 (SA (wg g))))) (q := qt) (As := [.int (nI 32)]) (ci' := 0) (fs' := [.null, .null, .null, .int 0]) (own := cR 5) (cW := cW) (cP := cP) hx hb hml hown hts hK hP hD hS hA (by rw [← lt]; exact k_X0 l D cI cZ cJ cW cP qt H.size (tg g) (by omega)) (in_gT (List.mem_of_getElem? (i := 222) (by decide +kernel)) rfl) (in_gT (List.mem_of_getElem? (i := 64) (by decide +kernel)) rfl) (in_gT (List.mem_of_getElem? (i := 221) (by decide +kernel)) rfl) (in_gT (List.mem_of_getElem? (i := 301) (by decide +kernel)) rfl) rfl ⟨by decide, by decide, show _ = some 1 by decide +kernel⟩ rfl rfl ⟨Nat.le_of_ble_eq_true rfl, Nat.le_of_ble_eq_true rfl⟩ hl.1 (Nat.le_of_ble_eq_true rfl) dk5_128 ⟨Nat.le_of_ble_eq_true rfl, Nat.le_of_ble_eq_true rfl⟩ (fun at1 H locs pt hP hD hS => ?_)
  have pt : at1 (tg g, 54) = qt := pt
  have hP : va_P D vwCl ((h0, .inr (5, [.int 0, .int 0, .int 0, .int 0, .ref q1, .ref q2, .ref q3, .ref q4, .ref q5, .ref q6, .ref q7, .ref q8, .ref q9, .ref q10, .ref q11, .ref q12, .ref q13, .ref qw, .null, .null])) :: ([(q1, .inl (cI, 24, .inl (fun _ => 0))), (q2, .inl (cI, 24, .inl (fun _ => 0))), (q3, .inl (cI, 24, .inl (fun _ => 0))), (q4, .inl (cI, 24, .inl (fun _ => 0))), (q5, .inl (cI, 24, .inl (fun _ => 0))), (q6, .inl (cI, 24, .inl (fun _ => 0))), (q7, .inl (cI, 24, .inl (fun _ => 0))), (q8, .inl (cI, 24, .inl (fun _ => 0))), (q9, .inl (cI, 24, .inl (fun _ => 0))), (q10, .inl (cI, 24, .inl (fun _ => 0))), (q11, .inl (cI, 24, .inl (fun _ => 0))), (q12, .inl (cI, 24, .inl (fun _ => 0))), (q13, .inl (cI, 12, .inl (fun _ => 0)))] ++ WS aw cI cZ cJ cW cP z0 (SA (wg g)) ++ WS at1 cI cZ cJ cW cP z0 (SA (tg g)))) H := hP
  have hD : va_D A ((h0, .inr (5, [.int 0, .int 0, .int 0, .int 0, .ref q1, .ref q2, .ref q3, .ref q4, .ref q5, .ref q6, .ref q7, .ref q8, .ref q9, .ref q10, .ref q11, .ref q12, .ref q13, .ref qw, .null, .null])) :: ([(q1, .inl (cI, 24, .inl (fun _ => 0))), (q2, .inl (cI, 24, .inl (fun _ => 0))), (q3, .inl (cI, 24, .inl (fun _ => 0))), (q4, .inl (cI, 24, .inl (fun _ => 0))), (q5, .inl (cI, 24, .inl (fun _ => 0))), (q6, .inl (cI, 24, .inl (fun _ => 0))), (q7, .inl (cI, 24, .inl (fun _ => 0))), (q8, .inl (cI, 24, .inl (fun _ => 0))), (q9, .inl (cI, 24, .inl (fun _ => 0))), (q10, .inl (cI, 24, .inl (fun _ => 0))), (q11, .inl (cI, 24, .inl (fun _ => 0))), (q12, .inl (cI, 24, .inl (fun _ => 0))), (q13, .inl (cI, 12, .inl (fun _ => 0)))] ++ WS aw cI cZ cJ cW cP z0 (SA (wg g)) ++ WS at1 cI cZ cJ cW cP z0 (SA (tg g)))) := hD
  refine b_put (ci := 5) (ty := .object "IceOut$Acts") hx hb hts hown hin (by decide) hK hP hD hS 18 (by decide) (in_gT (List.mem_of_getElem? (i := 355) (by decide +kernel)) rfl) rfl rfl (by decide +kernel) rfl rfl (Nat.le_of_ble_eq_true rfl) dk5_131 (fun H locs hP hD hS => ?_)
  refine lv_aload_n hx hb dk5_134 rfl (lv_at hl 0 rfl) ?_
  refine lv_aload_n hx hb dk5_135 rfl (lv_at hl 1 rfl) ?_
  refine b_put (ci := 5) (ty := .object "IceOut$Book") hx hb hts hown hin (by decide) hK hP hD hS 19 (by decide) (in_gT (List.mem_of_getElem? (i := 359) (by decide +kernel)) rfl) rfl rfl (by decide +kernel) rfl rfl (Nat.le_of_ble_eq_true rfl) dk5_136 (fun H locs hP hD hS => ?_)
  have ew : (adS [h0, q1, q2, q3, q4, q5, q6, q7, q8, q9, q10, q11, q12, q13] aw at1 bk g) (wg g, 54) = qw := by rw [adS_w _ (by unfold SA; simp)]; exact pw
  have et : (adS [h0, q1, q2, q3, q4, q5, q6, q7, q8, q9, q10, q11, q12, q13] aw at1 bk g) (tg g, 54) = qt := by rw [adS_t _ (by unfold SA; simp)]; exact pt
  have eb : (adS [h0, q1, q2, q3, q4, q5, q6, q7, q8, q9, q10, q11, q12, q13] aw at1 bk g) (bg g, 62) = bk := rfl
  have e40 : WS (adS [h0, q1, q2, q3, q4, q5, q6, q7, q8, q9, q10, q11, q12, q13] aw at1 bk g) cI cZ cJ cW cP z0 (S40 g) = (h0, .inr (5, [.int 0, .int 0, .int 0, .int 0, .ref q1, .ref q2, .ref q3, .ref q4, .ref q5, .ref q6, .ref q7, .ref q8, .ref q9, .ref q10, .ref q11, .ref q12, .ref q13, .ref ((adS [h0, q1, q2, q3, q4, q5, q6, q7, q8, q9, q10, q11, q12, q13] aw at1 bk g) (wg g, 54)), .ref ((adS [h0, q1, q2, q3, q4, q5, q6, q7, q8, q9, q10, q11, q12, q13] aw at1 bk g) (tg g, 54)), .ref ((adS [h0, q1, q2, q3, q4, q5, q6, q7, q8, q9, q10, q11, q12, q13] aw at1 bk g) (bg g, 62))])) :: [(q1, .inl (cI, 24, .inl (fun _ => 0))), (q2, .inl (cI, 24, .inl (fun _ => 0))), (q3, .inl (cI, 24, .inl (fun _ => 0))), (q4, .inl (cI, 24, .inl (fun _ => 0))), (q5, .inl (cI, 24, .inl (fun _ => 0))), (q6, .inl (cI, 24, .inl (fun _ => 0))), (q7, .inl (cI, 24, .inl (fun _ => 0))), (q8, .inl (cI, 24, .inl (fun _ => 0))), (q9, .inl (cI, 24, .inl (fun _ => 0))), (q10, .inl (cI, 24, .inl (fun _ => 0))), (q11, .inl (cI, 24, .inl (fun _ => 0))), (q12, .inl (cI, 24, .inl (fun _ => 0))), (q13, .inl (cI, 12, .inl (fun _ => 0)))] := rfl
  rw [ew, et, eb] at e40
  have eS : WS (adS [h0, q1, q2, q3, q4, q5, q6, q7, q8, q9, q10, q11, q12, q13] aw at1 bk g) cI cZ cJ cW cP z0 (SS g) = (h0, .inr (5, [.int 0, .int 0, .int 0, .int 0, .ref q1, .ref q2, .ref q3, .ref q4, .ref q5, .ref q6, .ref q7, .ref q8, .ref q9, .ref q10, .ref q11, .ref q12, .ref q13, .ref qw, .ref qt, .ref bk])) :: ([(q1, .inl (cI, 24, .inl (fun _ => 0))), (q2, .inl (cI, 24, .inl (fun _ => 0))), (q3, .inl (cI, 24, .inl (fun _ => 0))), (q4, .inl (cI, 24, .inl (fun _ => 0))), (q5, .inl (cI, 24, .inl (fun _ => 0))), (q6, .inl (cI, 24, .inl (fun _ => 0))), (q7, .inl (cI, 24, .inl (fun _ => 0))), (q8, .inl (cI, 24, .inl (fun _ => 0))), (q9, .inl (cI, 24, .inl (fun _ => 0))), (q10, .inl (cI, 24, .inl (fun _ => 0))), (q11, .inl (cI, 24, .inl (fun _ => 0))), (q12, .inl (cI, 24, .inl (fun _ => 0))), (q13, .inl (cI, 12, .inl (fun _ => 0)))] ++ WS aw cI cZ cJ cW cP z0 (SA (wg g)) ++ WS at1 cI cZ cJ cW cP z0 (SA (tg g))) := by
    unfold SS
    rw [WS_app, WS_app, e40, WS_ad SA_refs (fun _ h => h) adS_w, WS_ad SA_refs (fun _ h => h) adS_t, List.cons_append, List.append_assoc]
  have hP : va_P D vwCl ((h0, .inr (5, [.int 0, .int 0, .int 0, .int 0, .ref q1, .ref q2, .ref q3, .ref q4, .ref q5, .ref q6, .ref q7, .ref q8, .ref q9, .ref q10, .ref q11, .ref q12, .ref q13, .ref qw, .ref qt, .ref bk])) :: ([(q1, .inl (cI, 24, .inl (fun _ => 0))), (q2, .inl (cI, 24, .inl (fun _ => 0))), (q3, .inl (cI, 24, .inl (fun _ => 0))), (q4, .inl (cI, 24, .inl (fun _ => 0))), (q5, .inl (cI, 24, .inl (fun _ => 0))), (q6, .inl (cI, 24, .inl (fun _ => 0))), (q7, .inl (cI, 24, .inl (fun _ => 0))), (q8, .inl (cI, 24, .inl (fun _ => 0))), (q9, .inl (cI, 24, .inl (fun _ => 0))), (q10, .inl (cI, 24, .inl (fun _ => 0))), (q11, .inl (cI, 24, .inl (fun _ => 0))), (q12, .inl (cI, 24, .inl (fun _ => 0))), (q13, .inl (cI, 12, .inl (fun _ => 0)))] ++ WS aw cI cZ cJ cW cP z0 (SA (wg g)) ++ WS at1 cI cZ cJ cW cP z0 (SA (tg g)))) H := hP
  have hD : va_D A ((h0, .inr (5, [.int 0, .int 0, .int 0, .int 0, .ref q1, .ref q2, .ref q3, .ref q4, .ref q5, .ref q6, .ref q7, .ref q8, .ref q9, .ref q10, .ref q11, .ref q12, .ref q13, .ref qw, .ref qt, .ref bk])) :: ([(q1, .inl (cI, 24, .inl (fun _ => 0))), (q2, .inl (cI, 24, .inl (fun _ => 0))), (q3, .inl (cI, 24, .inl (fun _ => 0))), (q4, .inl (cI, 24, .inl (fun _ => 0))), (q5, .inl (cI, 24, .inl (fun _ => 0))), (q6, .inl (cI, 24, .inl (fun _ => 0))), (q7, .inl (cI, 24, .inl (fun _ => 0))), (q8, .inl (cI, 24, .inl (fun _ => 0))), (q9, .inl (cI, 24, .inl (fun _ => 0))), (q10, .inl (cI, 24, .inl (fun _ => 0))), (q11, .inl (cI, 24, .inl (fun _ => 0))), (q12, .inl (cI, 24, .inl (fun _ => 0))), (q13, .inl (cI, 12, .inl (fun _ => 0)))] ++ WS aw cI cZ cJ cW cP z0 (SA (wg g)) ++ WS at1 cI cZ cJ cW cP z0 (SA (tg g)))) := hD
  rw [← eS] at hP hD
  refine W.widen (k := 21) (n := 548) (Nat.le_of_ble_eq_true rfl) (Nat.le_of_ble_eq_true rfl) ?_
  exact W.vret hx hb hr (fun t ht hW => ⟨⟨adS [h0, q1, q2, q3, q4, q5, q6, q7, q8, q9, q10, q11, q12, q13] aw at1 bk g, rfl, ⟨rfl, eb⟩, by rw [ht]; exact hP, va_K.moved hW.alike hK, hD⟩, hS.F ht⟩) hS.2.2 dk5_139

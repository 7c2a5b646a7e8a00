/-! the law's helper: at, with its two handlers -/
theorem dL_0 : decode cL_at 0 = .ok (.aload_n 3, 1) := by decide +kernel
theorem dL_1 : decode cL_at 1 = .ok (.iconst 0, 1) := by decide +kernel
theorem dL_2 : decode cL_at 2 = .ok (.aload_n 0, 1) := by decide +kernel
theorem dL_3 : decode cL_at 3 = .ok (.iload_n 1, 1) := by decide +kernel
theorem dL_4 : decode cL_at 4 = .ok (.iload_n 2, 1) := by decide +kernel
theorem dL_5 : decode cL_at 5 = .ok (.invokevirtual 7, 3) := by decide +kernel
theorem dL_8 : decode cL_at 8 = .ok (.lastore, 1) := by decide +kernel
theorem dL_9 : decode cL_at 9 = .ok (.goto 11, 3) := by decide +kernel
theorem dL_12 : decode cL_at 12 = .ok (.astore 4, 2) := by decide +kernel
theorem dL_14 : decode cL_at 14 = .ok (.iconst 1, 1) := by decide +kernel
theorem dL_15 : decode cL_at 15 = .ok (.ireturn, 1) := by decide +kernel
theorem dL_16 : decode cL_at 16 = .ok (.astore 4, 2) := by decide +kernel
theorem dL_18 : decode cL_at 18 = .ok (.iconst 2, 1) := by decide +kernel
theorem dL_19 : decode cL_at 19 = .ok (.ireturn, 1) := by decide +kernel
theorem dL_20 : decode cL_at 20 = .ok (.iconst 0, 1) := by decide +kernel
theorem dL_21 : decode cL_at 21 = .ok (.ireturn, 1) := by decide +kernel
abbrev hhL : List (Nat × Nat × Nat × Nat) := [(0, 9, 12, 13), (0, 9, 16, 15)]
theorem xZ.narrow {A B : Nat → Prop} {U : State} (h : xZ A U) (hAB : ∀ q, B q → A q) : xZ B U := ⟨h.1.narrow hAB, h.2.narrow hAB⟩
theorem hZs.narrow {ad : AD} {A B : Nat → Prop} {U : State} (h : hZs ad A U) (hAB : ∀ q, B q → A q) : hZs ad B U := ⟨h.1.narrow hAB, h.2.1.narrow hAB, h.2.2⟩
theorem xZ.go {A B : Nat → Prop} {s U : State} {H : Heap} {locs : List Loc} (h : xZ A s) (hW : s.WarmedH U.vm) (hU : U.heap = H) (hS : va_S A s.heap H locs) (hAB : ∀ q, B q → A q) : xZ B U := by
  unfold xZ
  rw [hU]
  exact ⟨((h.1.moved hW.alike).kept hS.2.1).narrow hAB, ((h.2.moved hW.alike).kept hS.2.1).narrow hAB⟩
theorem hZs.go {ad : AD} {A B : Nat → Prop} {s U : State} {H : Heap} {locs : List Loc} (h : hZs ad A s) (hW : s.WarmedH U.vm) (hU : U.heap = H) (hS : va_S A s.heap H locs) (hAB : ∀ q, B q → A q) : hZs ad B U := by
  unfold hZs
  rw [hU]
  exact ⟨((h.1.moved hW.alike).kept hS.2.1).narrow hAB, ((h.2.1.moved hW.alike).kept hS.2.1).narrow hAB, va_Nw.warmM hW h.2.2⟩
theorem xZ.call {A : Nat → Prop} {U : State} {g : JFrame} {mk : MethodId} {a : Array Value} (h : xZ A U) : xZ A (U.calling g mk a) := ⟨h.1.moved (U := U.calling g mk a) (Vm.Alike.refl U.vm), h.2.moved (U := U.calling g mk a) (Vm.Alike.refl U.vm)⟩
theorem hZs.call {ad : AD} {A : Nat → Prop} {U : State} {g : JFrame} {mk : MethodId} {a : Array Value} (h : hZs ad A U) : hZs ad A (U.calling g mk a) := ⟨h.1.moved (U := U.calling g mk a) (Vm.Alike.refl U.vm), h.2.1.moved (U := U.calling g mk a) (Vm.Alike.refl U.vm), va_Nw.same rfl (U := U.calling g mk a) rfl h.2.2⟩
set_option maxHeartbeats 4000000 in
set_option maxRecDepth 100000 in
theorem k_Lat (l : Launch) (hflags : l.flags = flags0) (D : va_G) (cI cZ cJ cW cP : ClassId) (ad : AD) (sz qo : Nat) (w : PW) (a b : Int32) (f : Nat → Int64) (h100 : atK w a b = 0 → vp_in b 100) : Met l yL_at (Cond.codeWith yL_at cL_at 5 (some .int) hhL :: gT) { frames := 8, cells := 1, slots := 6, locals := 223 } (va_Pc [.ref (ad (0, 0)), .int a, .int b, .ref qo] (fun U => U.heap.size = sz ∧ va_P D vwCl (wsOf ad cI cZ cJ cW cP w ++ [(qo, .inl (cJ, 1, .inr (.inl f)))]) U.heap ∧ va_K D vwCl (tysOf cI cZ cJ cW cP) U ∧ va_D (fun _ => True) (wsOf ad cI cZ cJ cW cP w ++ [(qo, .inl (cJ, 1, .inr (.inl f)))]) ∧ hZs ad (va_A (wsOf ad cI cZ cJ cW cP w ++ [(qo, .inl (cJ, 1, .inr (.inl f)))]) sz) U ∧ xZ (va_A (wsOf ad cI cZ cJ cW cP w ++ [(qo, .inl (cJ, 1, .inr (.inl f)))]) sz) U ∧ xN U)) (va_Qi (fun x (f' : Nat → Int64) => x = nI (atK w a b) ∧ (atK w a b = 0 → f' 0 = atV w a b)) (fun f' t => va_P D vwCl (wsOf ad cI cZ cJ cW cP w ++ [(qo, .inl (cJ, 1, .inr (.inl f')))]) t.heap ∧ va_K D vwCl (tysOf cI cZ cJ cW cP) t ∧ va_D (va_A (wsOf ad cI cZ cJ cW cP w ++ [(qo, .inl (cJ, 1, .inr (.inl f)))]) sz) (wsOf ad cI cZ cJ cW cP w ++ [(qo, .inl (cJ, 1, .inr (.inl f')))])) (va_A (wsOf ad cI cZ cJ cW cP w ++ [(qo, .inl (cJ, 1, .inr (.inl f)))]) sz)) 1 6 (va_A (wsOf ad cI cZ cJ cW cP w ++ [(qo, .inl (cJ, 1, .inr (.inl f)))]) sz) := by
  refine va_MetW (cc := cL_at) (maxL := 5) (ret := some .int) (hh := hhL) (by decide) rfl ?_
  intro p e s m args below meth c s₁ BB hml hv
  obtain ⟨rfl, hsz, hP, hK, hD0, hZ, hXZ, hXN⟩ := hv
  have hx := BB.exec
  have hb := BB.bytes
  have hr := BB.returns
  have hts0 := atoms_spec (ws := Cond.codeWith yL_at cL_at 5 (some .int) hhL :: gT) BB.pre
  have hts : ∀ w ∈ gT, w.before _ s = true := fun w hw => hts0 w (List.mem_cons_of_mem _ hw)
  have htab : c.exceptionTable.toList = tableOf hhL := vx_table (x := yL_at) BB (hts0 _ List.mem_cons_self)
  have hown : s.vm.findClass RL = some m.cls := findClass_of_methodNamed BB.named
  have hlocks := BB.notSynchronized
  subst hsz
  have hD := hD0.self (sz := s.heap.size)
  generalize hAe : va_A (wsOf ad cI cZ cJ cW cP w ++ [(qo, .inl (cJ, 1, .inr (.inl f)))]) s.heap.size = A at hD hZ hXZ ⊢
  have hA : ∀ q : Nat, s.heap.size ≤ q → A q := fun q h => by rw [← hAe]; exact Or.inr h
  have hS : va_S A s.heap s.heap [] := va_S.rf
  have hl := lv_entry ([.ref (ad (0, 0)), .int a, .int b, .ref qo]) (n := 5) (Nat.le_of_ble_eq_true rfl)
  rw [lg_entry_eq]
  generalize (lg_sl ([.ref (ad (0, 0)), .int a, .int b, .ref qo]) ++ List.replicate (5 - (lg_sl ([.ref (ad (0, 0)), .int a, .int b, .ref qo])).length) Slot.unset).toArray = ls at hl ⊢
  have hl : lv_has ls 5 [(0, .ref (ad (0, 0))), (1, .int a), (2, .int b), (3, .ref qo)] := hl
  refine lv_aload_n hx hb dL_0 rfl (lv_at hl 3 rfl) ?_
  refine lv_iconst hx hb dL_1 (v := 0) (by decide) ?_
  refine lv_aload_n hx hb dL_2 rfl (lv_at hl 0 rfl) ?_
  refine lv_iload_n hx hb dL_3 rfl (lv_at hl 1 rfl) ?_
  refine lv_iload_n hx hb dL_4 rfl (lv_at hl 2 rfl) ?_
  obtain ⟨hPl, hDl⟩ := b_left hP hD
  have hFc : ∀ z, va_A (wsOf ad cI cZ cJ cW cP w) s.heap.size z → A z := by
    rintro z (⟨k, e2, h⟩ | h)
    · exact hDl.2 k _ h
    · exact hA z h
  have hblind : FrameBlind (va_Pc [.ref (ad (0, 0)), .int a, .int b] (fun U => U.heap.size = s.heap.size ∧ va_P D vwCl (wsOf ad cI cZ cJ cW cP w) U.heap ∧ va_K D vwCl (tysOf cI cZ cJ cW cP) U ∧ va_D (fun _ => True) (wsOf ad cI cZ cJ cW cP w) ∧ hZs ad (va_A (wsOf ad cI cZ cJ cW cP w) s.heap.size) U ∧ xZ (va_A (wsOf ad cI cZ cJ cW cP w) s.heap.size) U ∧ xN U)) := by
    rintro a' U g mk ⟨q0, q1, qP, qK, qD, qZ, qX, qN⟩
    exact ⟨q0, q1, qP, va_K.moved (u := U) (U := U.calling g mk a') (Vm.Alike.refl U.vm) qK, qD, qZ.call, qX.call, xN_s (U := U.calling g mk a') rfl qN⟩
  obtain ⟨q0, hq, hw⟩ := ws_at (ad := ad) (cI := cI) (cZ := cZ) (cJ := cJ) (cW := cW) (cP := cP) (w := w) (o := (0, 0)) (by decide +kernel)
  have g00 : cellOf ad cI cZ cJ cW cP w (0, 0) = .inr (9, [.ref (ad (0, 1)), .ref (ad (0, 13)), .ref (ad (0, 14)), .ref (ad (99, 54)), .ref (ad (0, 25)), .ref (ad (1, 40)), .ref (ad (2, 40)), .ref (ad (0, 29)), .ref (ad (0, 32)), .int (gI w (0, 0) 9), .int (gI w (0, 0) 10)]) := rfl
  rw [g00] at hw
  have hpl : ∀ sig, parseMethodDescriptor yX9_at.desc = some sig → 2 = sig.parameters.length := by
    intro sig hsig
    have h9 : (parseMethodDescriptor yX9_at.desc).map (fun d => d.parameters.length) = some 2 := by decide +kernel
    rw [hsig] at h9
    exact (Option.some.inj h9).symm
  have hrun := vx_runV (C := RX9) (b := ad (0, 0)) (As := [.int a, .int b]) (rest := [.int 0, .ref qo]) (g := F0 m 5 ls [.int b, .int a, .ref (ad (0, 0)), .int 0, .ref qo]) (p := p) (e := e) (R := (headSpec (Cond.codeWith yL_at cL_at 5 (some .int) hhL :: gT) { frames := 8, cells := 1, slots := 6, locals := 223 }).room) (below := below) (meth := meth) (locs := []) (cells := 0) (slots := 0) (nL := 5) (n := 2) (own := RL) (index := 7) (y := yX9_at) (bytes := cX9_at) (maxL := 4) (ret := some .long) (H := s.heap) ⟨hx, hb, hml, hown, hts⟩ (k_at l hflags D cI cZ cJ cW cP ad s.heap.size w a b h100) ⟨⟨rfl, rfl, Nat.le_of_ble_eq_true rfl, Nat.le_of_ble_eq_true rfl, pay_in hts (gT_cons (in_gT (List.mem_of_getElem? (i := 960) (by decide +kernel)) rfl)), List.mem_cons_self, hts _ (in_gT (List.mem_of_getElem? (i := 960) (by decide +kernel)) rfl), hts _ (in_gT (List.mem_of_getElem? (i := 60) (by decide +kernel)) rfl), by decide, hpl, hts _ (in_gT (List.mem_of_getElem? (i := 957) (by decide +kernel)) rfl)⟩, hts _ (in_gT (List.mem_of_getElem? (i := 958) (by decide +kernel)) rfl), hts _ (in_gT (List.mem_of_getElem? (i := 959) (by decide +kernel)) rfl)⟩ ⟨hblind, (by
      obtain ⟨cell, g1, g2, g3⟩ := va_recv hK hPl (cl_at (ci := 9) (by decide)) hw
      exact ⟨cell, g1, g2, g3⟩), fun U hU hW => ⟨rfl, by rw [hU], by rw [hU]; exact hPl, va_K.moved hW.alike hK, hDl.weaken (fun _ _ _ _ => trivial), hZ.go hW hU hS hFc, hXZ.go hW hU hS hFc, xN_w hW hXN⟩⟩ rfl rfl hl.1 rfl (Nat.le_of_ble_eq_true rfl) dL_5 ⟨Nat.le_of_ble_eq_true rfl, Nat.le_of_ble_eq_true rfl⟩
  refine vx_calll hrun hS (fun q _ hq => hFc q hq) hFc (fun q _ hq => hFc q hq) (fun E ce q9 u t H1 locs1 ht hvm _ hB hz hk hS1 hce hcv hcl => ?_) (fun r u t H1 locs1 ht hvm hB0 hB hz hk hS1 => ?_)
  · obtain ⟨hE, hPt, hKt, hDt⟩ := hB
    obtain ⟨hP1, hD1⟩ := b_join2 hP hD hFc hk (by rw [← ht]; exact hPt) hDt
    refine vx_widen (k := 1) (n := 6) (Nat.le_of_ble_eq_true rfl) (Nat.le_of_ble_eq_true rfl) ?_
    rcases hE with ⟨rfl, hkk⟩ | ⟨rfl, hkk⟩
    · refine vx_catch (own := RL) (name := xIA) hown [] ⟨0, 9, 12, 13⟩ [⟨0, 9, 16, 15⟩] htab (fun z hz => (List.not_mem_nil hz).elim) (by decide) (by decide) (hts _ (in_gT (List.mem_of_getElem? (i := 955) (by decide +kernel)) rfl)) (va_Nw.use rfl hXN.1) hce hcv hcl ?_
      refine lv_astore (x := q9) (lv' := [(4, .ref q9), (0, .ref (ad (0, 0))), (1, .int a), (2, .int b), (3, .ref qo)]) hx hb dL_12 hl (by decide) rfl (fun ls hl => ?_)
      refine lv_iconst hx hb dL_14 (v := 1) (by decide) ?_
      refine W.iret hx hb hr (fun t9 ht9 hW9 => ⟨⟨_, f, rfl, ⟨by rw [hkk]; rfl, fun h => absurd (hkk.symm.trans h) (by decide)⟩, by rw [ht9]; exact hP1, va_K.moved hW9.alike hK, hD1⟩, hS1.F ht9⟩) hS1.2.2 dL_15
    · refine vx_catch (own := RL) (name := xIS) hown [⟨0, 9, 12, 13⟩] ⟨0, 9, 16, 15⟩ [] htab (fun z hz => by
        rcases List.mem_singleton.mp hz with rfl
        exact Or.inr ⟨by decide, xIA, hts _ (in_gT (List.mem_of_getElem? (i := 955) (by decide +kernel)) rfl), hXN.2.2.2.2.2⟩) (by decide) (by decide) (hts _ (in_gT (List.mem_of_getElem? (i := 956) (by decide +kernel)) rfl)) (va_Nw.use rfl hXN.2.1) hce hcv hcl ?_
      refine lv_astore (x := q9) (lv' := [(4, .ref q9), (0, .ref (ad (0, 0))), (1, .int a), (2, .int b), (3, .ref qo)]) hx hb dL_16 hl (by decide) rfl (fun ls hl => ?_)
      refine lv_iconst hx hb dL_18 (v := 2) (by decide) ?_
      refine W.iret hx hb hr (fun t9 ht9 hW9 => ⟨⟨_, f, rfl, ⟨by rw [hkk]; rfl, fun h => absurd (hkk.symm.trans h) (by decide)⟩, by rw [ht9]; exact hP1, va_K.moved hW9.alike hK, hD1⟩, hS1.F ht9⟩) hS1.2.2 dL_19
  obtain ⟨hk0, rfl⟩ := hB0
  obtain ⟨hP1, hD1⟩ := b_join2 hP hD hFc hk (by rw [← ht]; exact hB.1) hB.2.2
  refine W.widen (k := 1) (n := 6) (Nat.le_of_ble_eq_true rfl) (Nat.le_of_ble_eq_true rfl) ?_
  have hlen : (wsOf ad cI cZ cJ cW cP w ++ [(qo, (.inl (cJ, 1, .inr (.inl f)) : va_E))])[(wsOf ad cI cZ cJ cW cP w).length]? = some (qo, .inl (cJ, 1, .inr (.inl f))) := List.getElem?_concat_length
  refine va_last hx hb hK hP1 hD1 hS1 _ 2 hlen rfl (by rintro (h | h) <;> revert h <;> decide) dL_8 (fun H2 locs2 hP2 hD2 hS2 => ?_)
  rw [List.set_append_right _ _ (Nat.le_refl _), Nat.sub_self] at hP2 hD2
  refine lv_goto (tgt := 20) hx hb dL_9 (by decide) ?_
  refine lv_iconst hx hb dL_20 (v := 0) (by decide) ?_
  exact W.iret hx hb hr (fun t9 ht9 hW9 => ⟨⟨_, _, rfl, ⟨by rw [hk0]; rfl, fun _ => rfl⟩, by rw [ht9]; exact hP2, va_K.moved hW9.alike hK, hD2⟩, hS2.F ht9⟩) hS2.2.2 dL_21

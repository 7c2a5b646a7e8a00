/-! the claim -/
def R_law : String := "IceOutLaw"
def lw_P (b : Addr) (xs : List Int32) (args : Array Value) (s : State) : Prop := args = #[.ref b] ∧ s.IntsAt b xs ∧ xs.length ≤ 3072 ∧ (Jvm.Cond.and given_1 narrow_1).before args s = true
def lw_Q (_ : Array Value) (s : State) (o : Outcome) (t : State) : Prop := o = .returned (some (.int 1)) ∧ Framed s o t [] 601024 7293033
def lw_Z (below : List Frame) (a : Array Value) (s : State) : State → Prop := fun t => ∃ o, t.status = .running ∧ Ended t below o ∧ lw_Q a s o t
/-- the law's own end, with 1 on the stack, nothing written that was there before, its room as the claim has it -/
theorem lw_ret {p : Program} {l : Launch} {e : Env} {s : State} {m : MethodId} {below : List Frame} {meth : Method} {c : Code} {b : Nat} (hx : p.tables.exec = Jvm.exec) (hb : c.code = code) (hr : meth.sig.returnType = ret) (hlocks : meth.locks = false) {pc : Nat} {H : Heap} {ls : Array Slot} (hdg : decode code pc = .ok (.ireturn, 1)) : W p l e room_1 s m #[Value.ref b] below meth c H [] 601024 7293033 (lw_Z below #[Value.ref b] s) (F0 m pc ls [.int 1]) := by
  intro T hT X
  obtain ⟨fs, hret, hrun, hended, hW, hframe⟩ := X.leave (v := some (.int 1)) (hlocks := hlocks) (fun h => by rw [hr] at h; cases h)
  have hmeth' : T.vm.method? m = some meth := X.method'
  refine ⟨T.setFrames fs, ?_, .returned (some (.int 1)), hrun, hended, rfl, ⟨_, rfl⟩, hW, hframe⟩
  jvm_step X.here [X.here.top, hx, hb, hdg, hmeth', hr, ret, narrow_b1]
  (try refine ⟨rfl, ?_⟩); (try refine ⟨rfl, ?_⟩)
  first | (intro acts; rw [hret _ acts rfl rfl rfl]) | rw [hret _ _ rfl rfl rfl]
  exact Steps.refl _
/-- what holds at the law's entry: the machine, the code, the tables' words (any of lw_tbl by 'hts w (by decide +kernel)'), the script of L ints xs at the cell b, what the Statement gives of the start (any of its parts by flat_of_before) -/
def lw_At (p : Program) (s : State) (m : MethodId) (meth : Method) (c : Code) (b L : Nat) (xs : Nat → Int32) : Prop :=
  p.tables.exec = Jvm.exec ∧ c.code = code ∧ meth.sig.returnType = ret ∧ c.maxLocals = 8 ∧ s.vm.findClass R_law = some m.cls ∧ (∀ w ∈ lw_tbl, w.before #[Value.ref b] s = true) ∧ va_X b L xs s s.heap ∧ b < s.heap.size ∧ meth.locks = false ∧ (Jvm.Cond.and given_1 narrow_1).before #[Value.ref b] s = true
set_option maxHeartbeats 4000000 in
set_option maxRecDepth 100000 in
theorem whole_start {p : Program} {e : Env} {s : State} {m : MethodId} {below : List Frame} {meth : Method} {c : Code} (l : Launch) (hflags : l.flags = flags0) {b L : Nat} {xs : Nat → Int32} (hL : L ≤ 3072) (C0 : lw_At p s m meth c b L xs) : W p l e room_1 s m #[Value.ref b] below meth c s.heap [] 0 0 (lw_Z below #[Value.ref b] s) (entryFrame m ([Value.ref b] : List Value).toArray 8) := by
  obtain ⟨hx, hb, hr, hml, hown, hts, hX, hbl, hlocks, hgv⟩ := id C0
  obtain ⟨A, hA, hAs⟩ : ∃ A : Nat → Prop, (∀ q, s.heap.size ≤ q → A q) ∧ (∀ q, A q → s.heap.size ≤ q) := ⟨fun q => s.heap.size ≤ q, fun _ h => h, fun _ h => h⟩
  have hnA : ∀ a : Nat, a < s.heap.size → ¬ A a := fun a h h' => Nat.not_le.mpr h (hAs a h')
  have hbA : ¬ A b := hnA b hbl
  have htg : ∀ w ∈ gT, w.before #[Value.ref b] s = true := fun w hw => hts w (List.mem_filter.mp hw).1
  obtain ⟨D, cI, cZ, cJ, hK⟩ := kt_of htg
  obtain ⟨t33, hZt0⟩ := hzt_of hgv hts hnA
  have hXZ : xZ A s := xz_of hgv hts hnA
  have hXN : xN s := xn_of hgv hts
  have hS : va_S A s.heap s.heap [] := va_S.rf
  have hP : va_P D vwCl [] s.heap := fun k q h => by simp at h
  have hD : va_D A [] := ⟨fun i j p q h => by simp at h, fun k q h => by simp at h⟩
  have hl := lv_entry ([.ref b]) (n := 8) (Nat.le_of_ble_eq_true rfl)
  rw [lg_entry_eq]
  generalize (lg_sl ([.ref b]) ++ List.replicate (8 - (lg_sl ([.ref b])).length) Slot.unset).toArray = ls at hl ⊢
  have hl : lv_has ls 8 [(0, .ref b)] := hl
  refine va_new (ci := 9) (fs := [.null, .null, .null, .null, .null, .null, .null, .null, .null, .int 0, .int 0]) (C := cR 9) (T := cT 9) (N := cN 9) hx hb htg (fun w hw => fW_in (ci := 9) (by decide) hw) (tyF 9) (tyF_ok (ci := 9) (by decide)) hown (htg _ (in_gT (List.mem_of_getElem? (i := 79) (by decide +kernel)) rfl)) (htg _ (in_gT (List.mem_of_getElem? (i := 80) (by decide +kernel)) rfl)) (htg _ (in_gT (List.mem_of_getElem? (i := 60) (by decide +kernel)) rfl)) hK hP hD hS hA (cl_at (ci := 9) (by decide)) (fun j hj => dfl9 j hj) (Nat.le_of_ble_eq_true rfl) (Nat.le_of_ble_eq_true rfl) dw_0 (fun h0 H hP hD hS => ?_)
  have hP : va_P D vwCl ([] ++ [(h0, .inr (9, [.null, .null, .null, .null, .null, .null, .null, .null, .null, .int 0, .int 0]))]) H := hP
  have hD : va_D A ([] ++ [(h0, .inr (9, [.null, .null, .null, .null, .null, .null, .null, .null, .null, .int 0, .int 0]))]) := hD
  refine lv_dup hx hb dw_3 rfl ?_
  obtain ⟨hPc, hDc⟩ := b_last hP hD
  have hFc : ∀ z, va_A [(h0, .inr (9, [.null, .null, .null, .null, .null, .null, .null, .null, .null, .int 0, .int 0]))] H.size z → A z := by
    rintro z (⟨k, e2, h⟩ | h)
    · exact hDc.2 k _ h
    · exact hA z (Nat.le_trans hS.1 h)
  have hN9 : va_Nw (.methodLinkNest "IceOut" 9 yX3_init "IceOut") s := va_Nw.of rfl (hts _ (List.mem_of_getElem? (i := 89) (by decide +kernel)))
  have hN22 : va_Nw (.methodLinkNest "IceOut" 22 yX8_init "IceOut") s := va_Nw.of rfl (hts _ (List.mem_of_getElem? (i := 168) (by decide +kernel)))
  have hN25 : va_Nw (.methodLinkNest "IceOut" 25 yX4_init "IceOut") s := va_Nw.of rfl (hts _ (List.mem_of_getElem? (i := 184) (by decide +kernel)))
  have hN41 : va_Nw (.methodLinkNest "IceOut" 41 yX2_init "IceOut") s := va_Nw.of rfl (hts _ (List.mem_of_getElem? (i := 247) (by decide +kernel)))
  have hN80 : va_Nw (.methodLinkNest "IceOut" 80 yX7_init "IceOut") s := va_Nw.of rfl (hts _ (List.mem_of_getElem? (i := 424) (by decide +kernel)))
  have hAW : va_AO "IceOut$Weather" s := va_AO.of (hts _ (List.mem_of_getElem? (i := 166) (by decide +kernel)))
  have hAT : va_AO "IceOut$Tape" s := va_AO.of (hts _ (List.mem_of_getElem? (i := 422) (by decide +kernel)))
  have hbl9 : FrameBlind (va_Pc [.ref h0] (fun U => U.heap.size = H.size ∧ va_P D vwCl [(h0, .inr (9, [.null, .null, .null, .null, .null, .null, .null, .null, .null, .int 0, .int 0]))] U.heap ∧ va_K D vwCl (KT cI cZ cJ) U ∧ va_D (fun _ => True) [(h0, .inr (9, [.null, .null, .null, .null, .null, .null, .null, .null, .null, .int 0, .int 0]))] ∧ hZt t33 (va_A [(h0, .inr (9, [.null, .null, .null, .null, .null, .null, .null, .null, .null, .int 0, .int 0]))] H.size) U ∧ va_AO "IceOut$Weather" U ∧ va_AO "IceOut$Tape" U ∧ va_Nw (.methodLinkNest "IceOut" 9 yX3_init "IceOut") U ∧ va_Nw (.methodLinkNest "IceOut" 22 yX8_init "IceOut") U ∧ va_Nw (.methodLinkNest "IceOut" 25 yX4_init "IceOut") U ∧ va_Nw (.methodLinkNest "IceOut" 41 yX2_init "IceOut") U ∧ va_Nw (.methodLinkNest "IceOut" 80 yX7_init "IceOut") U)) := by
    rintro a' U g mk ⟨q0, q1, qP, qK, qD, qZ, qW, qT, q9, q22, q25, q41, q80⟩
    exact ⟨q0, q1, qP, va_K.moved (u := U) (U := U.calling g mk a') (Vm.Alike.refl U.vm) qK, qD, qZ.call, va_AO.moved (u := U) (U := U.calling g mk a') (Vm.Alike.refl U.vm) qW, va_AO.moved (u := U) (U := U.calling g mk a') (Vm.Alike.refl U.vm) qT, va_Nw.same rfl (U := U.calling g mk a') rfl q9, va_Nw.same rfl (U := U.calling g mk a') rfl q22, va_Nw.same rfl (U := U.calling g mk a') rfl q25, va_Nw.same rfl (U := U.calling g mk a') rfl q41, va_Nw.same rfl (U := U.calling g mk a') rfl q80⟩
  refine va_callv (va_runI (As := []) (rest := [.ref h0]) (own := RL) (g := F0 m 4 ls (.ref h0 :: [.ref h0])) ⟨hx, hb, hml, hown, htg⟩ (k_X9 l D cI cZ cJ h0 t33 H.size) (cwI 0 htg (gT_cons (in_gT (List.mem_of_getElem? (i := 83) (by decide +kernel)) rfl)) rfl rfl rfl (htg _ (in_gT (List.mem_of_getElem? (i := 60) (by decide +kernel)) rfl)) (htg _ (in_gT (List.mem_of_getElem? (i := 81) (by decide +kernel)) rfl)) (htg _ (in_gT (List.mem_of_getElem? (i := 82) (by decide +kernel)) rfl)) rfl ⟨by decide, by decide, show _ = some 0 by decide +kernel⟩ ⟨Nat.le_of_ble_eq_true rfl, Nat.le_of_ble_eq_true rfl⟩) ⟨hbl9, fun U hU hW => ⟨rfl, by rw [hU], by rw [hU]; exact hPc, va_K.moved hW.alike hK, hDc.weaken (fun _ _ _ _ => trivial), hZt0.go hW hU hS hFc, hAW.moved hW.alike, hAT.moved hW.alike, va_Nw.warmM hW hN9, va_Nw.warmM hW hN22, va_Nw.warmM hW hN25, va_Nw.warmM hW hN41, va_Nw.warmM hW hN80⟩⟩ rfl rfl hl.1 rfl (lv_room (Nat.le_of_ble_eq_true rfl)) dw_4 ⟨Nat.le_of_ble_eq_true rfl, Nat.le_of_ble_eq_true rfl⟩) hS (fun q _ h => hFc q h) hFc (fun u t H1 locs ht hvm hw hB hz1 hk1 hS => ?_)
  obtain ⟨a1, ⟨cW, cP⟩, w1⟩ := u
  obtain ⟨e00, e33, hk9⟩ := hw
  obtain ⟨hP1, hK1, hD1⟩ := hB
  rw [ht] at hP1
  have hK2 : va_K D vwCl (tysOf cI cZ cJ cW cP) s := va_K.moved hvm.symm hK1
  obtain ⟨hP, hD⟩ := b_join hP hD hFc hk1 hP1 hD1
  have hP : va_P D vwCl (wsOfC a1 cI cZ cJ cW cP w1) H1 := hP
  have hD : va_D A (wsOfC a1 cI cZ cJ cW cP w1) := hD
  clear hP1 hD1 hPc hDc hFc hk1 hz1 hbl9
  refine lv_astore_n (lv' := [(1, .ref h0), (0, .ref b)]) hx hb dw_7 rfl hl (by decide) rfl (fun ls hl => ?_)
  refine va_new (ci := 10) (fs := [.null, .null, .null, .null, .null, .null, .null, .null, .null, .null, .null, .null, .null, .null, .null, .null, .null, .null, .null, .null, .null, .null, .null, .null, .null, .null, .null, .null, .null, .null, .int 0, .int 0, .int 0, .int 0, .int 0, .int 0, .int 0, .int 0, .int 0, .null, .null, .int 0, .null, .null, .null]) (C := cR 10) (T := cT 10) (N := cN 10) hx hb htg (fun w hw => fW_in (ci := 10) (by decide) hw) (tyF 10) (tyF_ok (ci := 10) (by decide)) hown (htg _ (in_gT (List.mem_of_getElem? (i := 1038) (by decide +kernel)) rfl)) (htg _ (in_gT (List.mem_of_getElem? (i := 1039) (by decide +kernel)) rfl)) (htg _ (in_gT (List.mem_of_getElem? (i := 70) (by decide +kernel)) rfl)) hK2 hP hD hS hA (cl_at (ci := 10) (by decide)) (fun j hj => dfl10 j hj) (Nat.le_of_ble_eq_true rfl) (Nat.le_of_ble_eq_true rfl) dw_8 (fun h1 H hP hD hS => ?_)
  refine lv_dup hx hb dw_11 rfl ?_
  obtain ⟨hPc, hDc⟩ := b_last hP hD
  have hFc : ∀ z, va_A [(h1, .inr (10, [.null, .null, .null, .null, .null, .null, .null, .null, .null, .null, .null, .null, .null, .null, .null, .null, .null, .null, .null, .null, .null, .null, .null, .null, .null, .null, .null, .null, .null, .null, .int 0, .int 0, .int 0, .int 0, .int 0, .int 0, .int 0, .int 0, .int 0, .null, .null, .int 0, .null, .null, .null]))] H.size z → A z := by
    rintro z (⟨k, e2, h⟩ | h)
    · exact hDc.2 k _ h
    · exact hA z (Nat.le_trans hS.1 h)
  have hbl10 : FrameBlind (va_Pc [.ref h1] (fun U => U.heap.size = H.size ∧ va_P D vwCl [(h1, .inr (10, [.null, .null, .null, .null, .null, .null, .null, .null, .null, .null, .null, .null, .null, .null, .null, .null, .null, .null, .null, .null, .null, .null, .null, .null, .null, .null, .null, .null, .null, .null, .int 0, .int 0, .int 0, .int 0, .int 0, .int 0, .int 0, .int 0, .int 0, .null, .null, .int 0, .null, .null, .null]))] U.heap ∧ va_K D vwCl (tysOf cI cZ cJ cW cP) U ∧ va_D (fun _ => True) [(h1, .inr (10, [.null, .null, .null, .null, .null, .null, .null, .null, .null, .null, .null, .null, .null, .null, .null, .null, .null, .null, .null, .null, .null, .null, .null, .null, .null, .null, .null, .null, .null, .null, .int 0, .int 0, .int 0, .int 0, .int 0, .int 0, .int 0, .int 0, .int 0, .null, .null, .int 0, .null, .null, .null]))] ∧ hZt t33 (va_A [(h1, .inr (10, [.null, .null, .null, .null, .null, .null, .null, .null, .null, .null, .null, .null, .null, .null, .null, .null, .null, .null, .null, .null, .null, .null, .null, .null, .null, .null, .null, .null, .null, .null, .int 0, .int 0, .int 0, .int 0, .int 0, .int 0, .int 0, .int 0, .int 0, .null, .null, .int 0, .null, .null, .null]))] H.size) U)) := by
    rintro a' U g mk ⟨q0, q1, qP, qK, qD, qZ⟩
    exact ⟨q0, q1, qP, va_K.moved (u := U) (U := U.calling g mk a') (Vm.Alike.refl U.vm) qK, qD, qZ.call⟩
  refine va_callv (va_runI (As := []) (rest := [.ref h1]) (own := RL) (g := F0 m 12 ls (.ref h1 :: [.ref h1])) ⟨hx, hb, hml, hown, htg⟩ (k_X10 l D cI cZ cJ cW cP h1 t33 H.size) (cwI 0 htg (gT_cons (in_gT (List.mem_of_getElem? (i := 1042) (by decide +kernel)) rfl)) rfl rfl rfl (htg _ (in_gT (List.mem_of_getElem? (i := 70) (by decide +kernel)) rfl)) (htg _ (in_gT (List.mem_of_getElem? (i := 1040) (by decide +kernel)) rfl)) (htg _ (in_gT (List.mem_of_getElem? (i := 1041) (by decide +kernel)) rfl)) rfl ⟨by decide, by decide, show _ = some 0 by decide +kernel⟩ ⟨Nat.le_of_ble_eq_true rfl, Nat.le_of_ble_eq_true rfl⟩) ⟨hbl10, fun U hU hW => ⟨rfl, by rw [hU], by rw [hU]; exact hPc, va_K.moved hW.alike hK2, hDc.weaken (fun _ _ _ _ => trivial), hZt0.go hW hU hS hFc⟩⟩ rfl rfl hl.1 rfl (lv_room (Nat.le_of_ble_eq_true rfl)) dw_12 ⟨Nat.le_of_ble_eq_true rfl, Nat.le_of_ble_eq_true rfl⟩) hS (fun q _ h => hFc q h) hFc (fun u t H1 locs ht hvm hw hB hz1 hk1 hS => ?_)
  obtain ⟨a2, w2⟩ := u
  obtain ⟨e90, hk10⟩ := hw
  obtain ⟨hP1, hK1, hD1⟩ := hB
  rw [ht] at hP1
  obtain ⟨hP, hD⟩ := b_join hP hD hFc hk1 hP1 hD1
  have hP := vP_perm ws_two hP
  have hD := vD_perm ws_two hD
  clear hP1 hD1 hPc hDc hFc hk1 hz1 hbl10
  have hi := K_inv hk9 hk10
  have f00 : adj a1 a2 (0, 0) = h0 := (if_pos (by show 0 < 90; omega)).trans e00
  have f33 : adj a1 a2 (0, 33) = t33 := (if_pos (by show 33 < 90; omega)).trans e33
  have f90 : adj a1 a2 (0, 90) = h1 := (if_neg (by show ¬ 90 < 90; omega)).trans e90
  generalize adj a1 a2 = ad at hP hD f00 f33 f90
  generalize wj w1 w2 = w at hP hD hi
  have hZ : hZs ad A s := by
    unfold hZs
    rw [f33]
    exact hZt0
  refine lv_astore_n (lv' := [(2, .ref h1), (1, .ref h0), (0, .ref b)]) hx hb dw_15 rfl hl (by decide) rfl (fun ls hl => ?_)
  refine lv_iconst (v := nI 1) hx hb dw_16 (by decide) ?_
  refine b_newaJ (N := 1) hx hb htg hK hP hD hS hA (by omega) (Nat.le_of_ble_eq_true rfl) (Nat.le_of_ble_eq_true rfl) dw_17 (fun qo H hP hD hS => ?_)
  refine lv_astore_n (lv' := [(3, .ref qo), (2, .ref h1), (1, .ref h0), (0, .ref b)]) hx hb dw_19 rfl hl (by decide) rfl (fun ls hl => ?_)
  refine lv_iconst (v := nI (6 * 0)) hx hb dw_20 (by decide) ?_
  refine lv_istore (lv' := [(4, .int (nI (6 * 0))), (3, .ref qo), (2, .ref h1), (1, .ref h0), (0, .ref b)]) hx hb dw_21 hl (by decide) rfl (fun ls hl => ?_)
  have hl : lv_has ls 8 (lvh 0 b qo ad) := by
    have := lv_sub hl [0, 4, 3, 2, 1] rfl
    rw [← f00, ← f90] at this
    exact this
  have X : LC p s m #[Value.ref b] c D cI cZ cJ cW cP ad A b L xs := ⟨hx, hb, hml, hown, htg, hK2, hZ, hA, hX, hbl, hbA, hL⟩
  refine law_loop hflags hXZ hXN X (fun H locs ls cells slots hS hc hs => ?_) 520 0 w (fun _ => 0) H locs ls _ _ (by omega) hi hP hD hS hl (Nat.le_of_ble_eq_true rfl) (Nat.le_of_ble_eq_true rfl)
  refine va_forget (fun q hq => hAs _ (hS.2.2 q hq)) ?_
  refine lv_iconst (v := 1) hx hb dw_1653 (by decide) ?_
  exact W.widen (k := 601024) (n := 7293033) hc hs (lw_ret hx hb hr hlocks dw_1654)
set_option maxHeartbeats 4000000 in
theorem lw_walk (l : Launch) (hflags : l.flags = flags0) (b : Addr) (xs : List Int32) : MetFree l x (headSpec (Jvm.Cond.code x code maxLocals ret :: tables_1) room_1) (lw_P b xs) (fun _ _ _ _ _ => True) lw_Q := by
  refine MetFree.of_bodyS (code := code) (maxLocals := maxLocals) (ret := ret) (by decide) ?_ ?_
  · intro args s m h hn
    obtain ⟨meth, c, h1, h2, h3, h4, h5, h6, -, -⟩ := Cond.code_spec hn (atoms_spec (ws := Jvm.Cond.code x code maxLocals ret :: tables_1) h _ List.mem_cons_self)
    exact ⟨meth, c, h1, h2, h3, h4, h5, h6⟩
  · intro p e s m args below meth c s₁ B hml0 hP _
    obtain ⟨rfl, hx, hbd, hgv⟩ := hP
    obtain ⟨scr, harrAt, hlist, hof, hsmall⟩ := hx
    obtain ⟨hcb, hkn, -, -⟩ := State.arrayAt?_spec harrAt
    have hown : s.vm.findClass R_law = some m.cls := findClass_of_methodNamed B.named
    have hts0 : ∀ c ∈ (Jvm.Cond.code x code maxLocals ret :: tables_1), c.before #[Value.ref b] s = true := atoms_spec (ws := Jvm.Cond.code x code maxLocals ret :: tables_1) B.pre
    have hts : ∀ w ∈ lw_tbl, w.before #[Value.ref b] s = true := k2_hts_sels lw_privs (fun w hw => hts0 w (List.mem_cons_of_mem _ hw)) lw_privs_ok
    have hml : c.maxLocals = 8 := B.maxLocals_eq (hts0 _ List.mem_cons_self)
    have X₀ : Stand p l e room_1 s m #[Value.ref b] below meth c s₁ [] 0 0 := Stand.of_body B
    have hh0 : s₁.heap = s.heap := by rw [B.state]; rfl
    have hsz : scr.slots.size = xs.length := by rw [← Array.length_toList, hlist, List.length_map]
    have hval : ∀ j : Nat, j < xs.length → scr.slots[j]? = some (.int (xs.getD j 0)) := fun j hj => by
      rw [← Array.getElem?_toList, hlist]
      simp [hj]
    have hbl : b < s.heap.size := (Array.getElem?_eq_some_iff.mp hcb).1
    have hX : va_X b xs.length (fun j => xs.getD j 0) s s.heap := ⟨scr, hcb, hof, hkn, hsz, hval⟩
    have K : W p l e room_1 s m #[Value.ref b] below meth c s₁.heap [] 0 0 (lw_Z below #[Value.ref b] s) (entryFrame m ([Value.ref b] : List Value).toArray 8) := by
      rw [hh0]
      exact whole_start l hflags hbd ⟨B.exec, B.bytes, B.returns, hml, hown, hts, hX, hbl, B.notSynchronized, hgv⟩
    obtain ⟨t, a1, o, b1, b2, b3⟩ := K s₁ rfl X₀
    exact ⟨t, o, a1, b1, b2, b3⟩
theorem lw_pre_spec {args : Array Value} {s : State} (h : (Jvm.Cond.and given_1 narrow_1).before args s = true) (hr : rest_1_c.before args s = true) : ∃ (b : Addr) (xs : List Int32), lw_P b xs args s := by
  have hs := flat_of_before _ h
  have hq := flat_of_before _ hr
  have hc : (Cond.count 1).before args s = true := hs _ (by decide +kernel)
  have harr : (Cond.arrayOf (.arg 0) .int).before args s = true := hs _ (by decide +kernel)
  have hle : (Cond.le (.length (.arg 0)) (.int 3072)).before args s = true := hs _ (by decide +kernel)
  have hlen : (Cond.isInt (.length (.arg 0))).before args s = true := hq _ (by decide +kernel)
  have hall : (Cond.all (.arg 0) (.isInt (.elem (.arg 0) (.index 0)))).before args s = true := hq _ (by decide +kernel)
  obtain ⟨b, xs, hb, hx⟩ := State.ints_of_pre rfl harr hlen hall
  have hsm : xs.length < 2 ^ 31 := hx.choose_spec.2.2.2
  have hev : (Term.length (.arg 0)).eval args s none [] s = some (.int xs.length.toInt32) := hx.length_eval hb
  have hv := Cond.le_ints hev (show (Term.int 3072).eval args s none [] s = some (.int 3072) from rfl)
  have hd : xs.length.toInt32 ≤ 3072 := by
    simpa [Cond.before, Cond.holds, hv] using hle
  have hN : xs.length ≤ 3072 := (Int32.ofNat_le_ofNat hsm (by decide)).mp (show Int32.ofNat xs.length ≤ Int32.ofNat 3072 from hd)
  exact ⟨b, xs, Cond.one_arg hc (show args[0]? = some (.ref b) from hb), hx, hN, h⟩
theorem lw_comes (l : Launch) (hflags : l.flags = flags0) : Comes l x (Jvm.Cond.code x code maxLocals ret :: tables_1) room_1 (fun tb e args s => Calls_1 tb e args s ∧ rest_1 tb e args s ∧ Pre_1 tb e args s)
    (fun _ _ args s o t => lw_Q args s o t) := by
  intro p e ha hc hk s m args below hf hfit hheap happ hpre
  obtain ⟨b, xs, hP⟩ := lw_pre_spec hpre.2.2 hpre.2.1
  obtain ⟨k, o, h1, h2, h3, hQ⟩ := lw_walk l hflags b xs p e ha hc hk s m args below hf ((Spec.applies_iff_loose hf).mp happ).1 hP trivial
  exact ⟨k, o, h1, h2, h3, hQ⟩
theorem lw_frame {s t : State} {o : Outcome} {args : Array Value} (h : Framed s o t [] 601024 7293033) :
    Framed s o t (fieldLocs frame_1_writes args s ++ arrayLocs frame_1_arrays args s ++ staticLocs frame_1_statics s) 601024 7293033 := h
theorem lw_limb (L : Cond) (hL : ∀ (args : Array Value) (s t : State), L.after args s (.returned (some (.int 1))) t = true) :
    ArmFor flags0 classFile x code maxLocals ret World_1 tables_1 room_1 Calls_1 rest_1 Pre_1
      (fun tb e a s o t => postC L tb e a s o t ∧ Framed s o t (fieldLocs frame_1_writes a s ++ arrayLocs frame_1_arrays a s ++ staticLocs frame_1_statics s) 601024 7293033) := by
  intro l hflags _ _ p e ha hc hk s m args below hf hfit hheap happ hpre
  obtain ⟨k, o, h1, h2, h3, rfl, hF⟩ := lw_comes l hflags p e ha hc hk s m args below hf hfit hheap happ hpre
  exact ⟨k, _, h1, h2, h3, hL args s _, lw_frame hF⟩
theorem i_vc : Claimed_1_1 ∧ Claimed_1_2 := ⟨lw_limb limb_1_1 (fun args s t => by simp [limb_1_1, Cond.after, Cond.holds, Cond.value]), lw_limb limb_1_2 (fun args s t => Cond.after_iff.mpr (by
  first | (rw [show limb_1_2 = Cond.eq .result (.int 1) from rfl, Cond.eq_ints (x := 1) (y := 1) rfl rfl]; simp; done) | (simp [limb_1_2, Cond.value, Term.eval]; done)))⟩

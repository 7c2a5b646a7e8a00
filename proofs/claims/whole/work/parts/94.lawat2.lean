/-! the law's case of at -/
theorem lg_same {x : Int64} : lg_cmp x x = 0 := by
  unfold lg_cmp
  rw [if_neg (show ¬ x > x from Int64.lt_irrefl), if_pos rfl]
section LAWAT
variable {p : Program} {l : Launch} {e : Env} {s : State} {m : MethodId} {args : Array Value} {below : List Frame} {meth : Method} {c : Code} {H : Heap} {locs : List Loc} {cells slots : Nat} {Q : State → Prop} {ls : Array Slot}
variable {D : va_G} {cI cZ cJ cW cP : ClassId} {ad : AD} {A : Nat → Prop} {b L : Nat} {xs : Nat → Int32} {n qo : Nat} {w : PW} {f : Nat → Int64}
set_option maxHeartbeats 2000000 in
theorem law_c34 (hflags : l.flags = flags0) (hXZ : xZ A s) (hXN : xN s) (X : LC p s m args c D cI cZ cJ cW cP ad A b L xs) (hi : Inv n w) (hn : n ≤ 600) (hil : 6 * n + 5 < L) (hP : va_P D vwCl (wsOf ad cI cZ cJ cW cP w ++ [(qo, .inl (cJ, 1, .inr (.inl f)))]) H) (hD : va_D A (wsOf ad cI cZ cJ cW cP w ++ [(qo, .inl (cJ, 1, .inr (.inl f)))])) (hS : va_S A s.heap H locs) (hl : lv_has ls 8 (lvh n b qo ad)) (hc : cells + 1 ≤ room_1.cells ∧ slots + 6 ≤ room_1.slots) (kk : LK p l e s m args below meth c cells slots Q D cI cZ cJ cW cP ad A b n qo) : W p l e room_1 s m args below meth c H locs cells slots Q (F0 m 1482 ls []) := by
  obtain ⟨hx, hb, hml, hown, hts, hK, hZ, hA, hX, hbl, hbA, h3k⟩ := id X
  obtain ⟨h100, hat⟩ := o_at (a := xs (6 * n + 1)) (b := xs (6 * n + 2)) hi
  refine lv_aload_n hx hb dw_1482 rfl (lv_at hl 2 rfl) ?_
  refine law_rd (j := 1) X hS hl hil dw_1483 dw_1484 dw_1486 dw_1487 dw_1488 (by decide) (by omega) ?_
  refine law_rd (j := 2) X hS hl hil dw_1489 dw_1490 dw_1492 dw_1493 dw_1494 (by decide) (by omega) ?_
  refine lv_aload_n hx hb dw_1495 rfl (lv_at hl 4 rfl) ?_
  have hFc : ∀ z, va_A (wsOf ad cI cZ cJ cW cP w ++ [(qo, .inl (cJ, 1, .inr (.inl f)))]) H.size z → A z := by
    rintro z (⟨k, e2, h⟩ | h)
    · exact hD.2 k _ h
    · exact hA z (Nat.le_trans hS.1 h)
  have hblind : FrameBlind (va_Pc [.ref (ad (0, 0)), .int (xs (6 * n + 1)), .int (xs (6 * n + 2)), .ref qo] (fun U => U.heap.size = H.size ∧ va_P D vwCl (wsOf ad cI cZ cJ cW cP w ++ [(qo, .inl (cJ, 1, .inr (.inl f)))]) U.heap ∧ va_K D vwCl (tysOf cI cZ cJ cW cP) U ∧ va_D (fun _ => True) (wsOf ad cI cZ cJ cW cP w ++ [(qo, .inl (cJ, 1, .inr (.inl f)))]) ∧ hZs ad (va_A (wsOf ad cI cZ cJ cW cP w ++ [(qo, .inl (cJ, 1, .inr (.inl f)))]) H.size) U ∧ xZ (va_A (wsOf ad cI cZ cJ cW cP w ++ [(qo, .inl (cJ, 1, .inr (.inl f)))]) H.size) U ∧ xN U)) := by
    rintro a' U g mk ⟨q0, q1, qP, qK, qD, qZ, qX, qN⟩
    exact ⟨q0, q1, qP, va_K.moved (u := U) (U := U.calling g mk a') (Vm.Alike.refl U.vm) qK, qD, qZ.call, qX.call, xN_s (U := U.calling g mk a') rfl qN⟩
  have hpl : ∀ sig, parseMethodDescriptor yL_at.desc = some sig → 4 = sig.parameters.length := by
    intro sig hsig
    have h9 : (parseMethodDescriptor yL_at.desc).map (fun d => d.parameters.length) = some 4 := by decide +kernel
    rw [hsig] at h9
    exact (Option.some.inj h9).symm
  have hcw : Cond.codeWith yL_at cL_at 5 (some .int) hhL ∈ gT := in_gT (List.mem_of_getElem? (i := 954) (by decide +kernel)) rfl
  have hGI : GoodIn gT (Cond.codeWith yL_at cL_at 5 (some .int) hhL :: gT) := fun w hw => by
    rcases List.mem_cons.mp hw with e | hw
    · subst e; exact ⟨hcw, goodGT hcw⟩
    · exact ⟨hw, goodGT hw⟩
  have hrun := vx_runSW (As := [.ref (ad (0, 0)), .int (xs (6 * n + 1)), .int (xs (6 * n + 2)), .ref qo]) (rest := []) (g := F0 m (1482 + 1 + 6 + 6 + 1) ls [.ref qo, .int (xs (6 * n + 2)), .int (xs (6 * n + 1)), .ref (ad (0, 0))]) (p := p) (e := e) (R := room_1) (below := below) (meth := meth) (locs := locs) (cells := cells) (slots := slots) (nL := 8) (n := 4) (own := RL) (index := 166) (y := yL_at) (bytes := cL_at) (maxL := 5) (ret := some .int) (hh := hhL) (H := H) ⟨hx, hb, hml, hown, hts⟩ (k_Lat l hflags D cI cZ cJ cW cP ad H.size qo w (xs (6 * n + 1)) (xs (6 * n + 2)) f h100) ⟨⟨rfl, rfl, by decide, by decide, pay_in hts hGI, List.mem_cons_self⟩, hts _ hcw, hts _ (in_gT (List.mem_of_getElem? (i := 59) (by decide +kernel)) rfl), by decide, hpl, hts _ (in_gT (List.mem_of_getElem? (i := 952) (by decide +kernel)) rfl), hts _ (in_gT (List.mem_of_getElem? (i := 953) (by decide +kernel)) rfl)⟩ ⟨hblind, fun U hU hW => ⟨rfl, by rw [hU], by rw [hU]; exact hP, va_K.moved hW.alike hK, hD.weaken (fun _ _ _ _ => trivial), hZ.go hW hU hS hFc, hXZ.go hW hU hS hFc, xN_w hW hXN⟩⟩ rfl rfl hl.1 rfl (Nat.le_of_ble_eq_true rfl) dw_1496 ⟨hc.1, hc.2⟩
  refine va_calli hrun hS (fun q _ hq => hFc q hq) hFc (fun r f1 t H1 locs1 ht hvm hr1 hB hz hk hS => ?_)
  obtain ⟨hr1, hf1⟩ := hr1
  have hP1 : va_P D vwCl (wsOf ad cI cZ cJ cW cP w ++ [(qo, .inl (cJ, 1, .inr (.inl f1)))]) H1 := by rw [← ht]; exact hB.1
  have hD1 : va_D A (wsOf ad cI cZ cJ cW cP w ++ [(qo, .inl (cJ, 1, .inr (.inl f1)))]) := hB.2.2.weaken (fun _ _ _ h => hFc _ h)
  clear hP hD hB
  have hP := hP1
  have hD := hD1
  subst hr1
  refine lv_istore (lv' := [(5, .int (nI (atK w (xs (6 * n + 1)) (xs (6 * n + 2))))), (4, .int (nI (6 * n))), (0, .ref b), (1, .ref (ad (0, 0))), (2, .ref (ad (0, 90))), (3, .ref qo)]) hx hb dw_1499 hl (by decide) rfl (fun ls hl5 => ?_)
  have hl : lv_has ls 8 (lvh n b qo ad) := lv_sub hl5 [1, 2, 3, 4, 5] rfl
  refine lv_aload_n hx hb dw_1501 rfl (lv_at hl 3 rfl) ?_
  refine law_rd (j := 1) X hS hl hil dw_1502 dw_1503 dw_1505 dw_1506 dw_1507 (by decide) (by omega) ?_
  refine law_rd (j := 2) X hS hl hil dw_1508 dw_1509 dw_1511 dw_1512 dw_1513 (by decide) (by omega) ?_
  refine b_methJ (mi := 183) (o := (0, 90)) (as := [vI (xs (6 * n + 1)), vI (xs (6 * n + 2))]) (rest := []) (k := fun x w1 => Inv n w1 ∧ gI w1 (0, 90) 38 = nI (atK w (xs (6 * n + 1)) (xs (6 * n + 2))) ∧ (atK w (xs (6 * n + 1)) (xs (6 * n + 2)) = 0 → x = atV w (xs (6 * n + 1)) (xs (6 * n + 2)))) (X := [(qo, .inl (cJ, 1, .inr (.inl f1)))]) (own := RL) (cW := cW) (cP := cP) (ad := ad) (hat) (by decide) (by decide) (by decide) rfl rfl (by decide) (by decide +kernel) ⟨trivial, trivial, trivial⟩ (show 3 ≤ mM 183 by decide) (show 3 = mN 183 by decide) hx hb hml hown hts hK hZ hP hD hS hA (in_gT (List.mem_of_getElem? (i := 1475) (by decide +kernel)) rfl) ⟨by decide +kernel, by decide +kernel⟩ hl.1 (Nat.le_of_ble_eq_true rfl) dw_1514 ⟨by omega, by omega⟩ (fun x w1 H locs hk hP hD hS => ?_)
  obtain ⟨hi1, hth, hxv⟩ := hk
  refine lv_lstore (lv' := [(6, .long x), (5, .int (nI (atK w (xs (6 * n + 1)) (xs (6 * n + 2))))), (4, .int (nI (6 * n))), (0, .ref b), (1, .ref (ad (0, 0))), (2, .ref (ad (0, 90))), (3, .ref qo)]) hx hb dw_1517 hl5 (by decide) rfl (fun ls hl6 => ?_)
  have hl : lv_has ls 8 (lvh n b qo ad) := lv_sub hl6 [2, 3, 4, 5, 6] rfl
  refine lv_aload_n hx hb dw_1519 rfl (lv_at hl 3 rfl) ?_
  refine b_methI (mi := 109) (o := (0, 90)) (as := []) (rest := []) (k := fun y w2 => y = gI w1 (0, 90) 38 ∧ w2 = w1) (X := [(qo, .inl (cJ, 1, .inr (.inl f1)))]) (own := RL) (cW := cW) (cP := cP) (ad := ad) (o_thrown) (by decide) (by decide) (Or.inl (by decide)) rfl rfl (by decide) (by decide +kernel) trivial (show 1 ≤ mM 109 by decide) (show 1 = mN 109 by decide) hx hb hml hown hts hK hZ hP hD hS hA (in_gT (List.mem_of_getElem? (i := 1199) (by decide +kernel)) rfl) ⟨by decide +kernel, by decide +kernel⟩ hl.1 (Nat.le_of_ble_eq_true rfl) dw_1520 ⟨by omega, by omega⟩ (fun y w2 H locs hk hP hD hS => ?_)
  obtain ⟨rfl, hwe⟩ := hk
  rw [hwe] at hP hD
  rw [hth]
  refine lv_iload hx hb dw_1523 (lv_at hl6 1 rfl) ?_
  refine lv_icmp_eq (tgt := 1530) hx hb dw_1525 (by decide) (fun _ => ?_) (fun h => absurd rfl h)
  refine lv_iload hx hb dw_1530 (lv_at hl6 1 rfl) ?_
  have hfin : W p l e room_1 s m args below meth c H locs (cells + 1) (slots + 6) Q (F0 m 1546 ls []) := lv_goto (tgt := 1647) hx hb dw_1546 (by decide) (kk w1 f1 _ _ _ (hi1.up (by omega)) hP hD hS hl)
  refine lv_if_ne (tgt := 1546) hx hb dw_1532 (by decide) (fun _ => hfin) (fun h0 => ?_)
  have hk0 : atK w (xs (6 * n + 1)) (xs (6 * n + 2)) = 0 := by
    have hlt : atK w (xs (6 * n + 1)) (xs (6 * n + 2)) < 3 := by unfold atK; split <;> (try split) <;> omega
    have : nI (atK w (xs (6 * n + 1)) (xs (6 * n + 2))) = nI 0 := h0
    exact (nI_inj (by omega) (by omega)).mp this
  refine lv_aload_n hx hb dw_1535 rfl (lv_at hl 4 rfl) ?_
  refine lv_iconst hx hb dw_1536 (v := 0) (by decide) ?_
  have hlen : (wsOf ad cI cZ cJ cW cP w1 ++ [(qo, (.inl (cJ, 1, .inr (.inl f1)) : va_E))])[(wsOf ad cI cZ cJ cW cP w1).length]? = some (qo, .inl (cJ, 1, .inr (.inl f1))) := List.getElem?_concat_length
  refine va_lald hx hb hK hP _ 2 hlen rfl (by rintro (h | h) <;> revert h <;> decide) dw_1537 ?_
  refine lv_lload hx hb dw_1538 (lv_at hl6 0 rfl) ?_
  refine W.lcmp hx hb dw_1540 ?_
  rw [hxv hk0, show f1 (0 : Int32).toNatClampNeg = f1 0 from rfl, hf1 hk0, lg_same]
  exact lv_if_eq (tgt := 1546) hx hb dw_1541 (by decide) (fun _ => hfin) (fun h => absurd rfl h)
end LAWAT

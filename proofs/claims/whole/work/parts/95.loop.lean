/-! the law's loop -/
theorem op_rng {x : Int32} : ∃ j : Nat, j ≤ 63 ∧ x &&& 63 = nI j := by
  refine ⟨(x &&& 63).toBitVec.toNat, ?_, ?_⟩
  · rw [Int32.toBitVec_and, BitVec.toNat_and]
    exact Nat.and_le_right
  · apply Int32.toBitVec_inj.mp
    show _ = BitVec.ofNat 32 _
    rw [BitVec.ofNat_toNat, BitVec.setWidth_eq]
theorem i_L {L n : Nat} (hL : L ≤ 3072) (hn : n ≤ 520) (h : ¬ (Int32.ofNat L) - 6 < nI (6 * n)) : 6 * n + 5 < L := by
  have e : Int32.ofNat L = nI L := rfl
  rw [e, ti_lt, ti_nI (by omega), ti_sub (by rw [ti_nI (by omega), show (6 : Int32).toInt = 6 from rfl]; omega) (by rw [ti_nI (by omega), show (6 : Int32).toInt = 6 from rfl]; omega), ti_nI (by omega), show (6 : Int32).toInt = 6 from rfl] at h
  omega
section LAWL
variable {p : Program} {l : Launch} {e : Env} {s : State} {m : MethodId} {args : Array Value} {below : List Frame} {meth : Method} {c : Code} {Q : State → Prop}
variable {D : va_G} {cI cZ cJ cW cP : ClassId} {ad : AD} {A : Nat → Prop} {b L : Nat} {xs : Nat → Int32} {qo : Nat}
set_option maxHeartbeats 4000000 in
theorem law_loop (hflags : l.flags = flags0) (hXZ : xZ A s) (hXN : xN s) (X : LC p s m args c D cI cZ cJ cW cP ad A b L xs) (kx : ∀ (H : Heap) (locs : List Loc) (ls : Array Slot) (cells slots : Nat), va_S A s.heap H locs → cells ≤ room_1.cells → slots ≤ room_1.slots → W p l e room_1 s m args below meth c H locs cells slots Q (F0 m 1653 ls [])) :
    ∀ (k n : Nat) (w : PW) (f : Nat → Int64) (H : Heap) (locs : List Loc) (ls : Array Slot) (cells slots : Nat), n + k = 520 → Inv n w → va_P D vwCl (wsOf ad cI cZ cJ cW cP w ++ [(qo, .inl (cJ, 1, .inr (.inl f)))]) H → va_D A (wsOf ad cI cZ cJ cW cP w ++ [(qo, .inl (cJ, 1, .inr (.inl f)))]) → va_S A s.heap H locs → lv_has ls 8 (lvh n b qo ad) → cells + k ≤ room_1.cells → slots + 6 * k ≤ room_1.slots →
      W p l e room_1 s m args below meth c H locs cells slots Q (F0 m 23 ls []) := by
  obtain ⟨hx, hb, hml, hown, hts, hK, hZ, hA, hX, hbl, hbA, h3k⟩ := id X
  intro k
  induction k with
  | zero =>
    intro n w f H locs ls cells slots hnk hi hP hD hS hl hc hs
    refine lv_iload hx hb dw_23 (lv_at hl 0 rfl) ?_
    refine lv_aload_n hx hb dw_25 rfl (lv_at hl 1 rfl) ?_
    refine va_slen hx hb hX hbl hbA hS dw_26 ?_
    refine lv_bipush hx hb dw_27 (v := 6) (by decide) ?_
    refine lv_isub hx hb dw_29 ?_
    refine lv_icmp_gt (tgt := 1653) hx hb dw_30 (by decide) (fun _ => kx _ _ _ _ _ hS (by omega) (by omega)) (fun h => ?_)
    have := i_L h3k (by omega) h
    omega
  | succ k ih =>
    intro n w f H locs ls cells slots hnk hi hP hD hS hl hc hs
    refine lv_iload hx hb dw_23 (lv_at hl 0 rfl) ?_
    refine lv_aload_n hx hb dw_25 rfl (lv_at hl 1 rfl) ?_
    refine va_slen hx hb hX hbl hbA hS dw_26 ?_
    refine lv_bipush hx hb dw_27 (v := 6) (by decide) ?_
    refine lv_isub hx hb dw_29 ?_
    refine lv_icmp_gt (tgt := 1653) hx hb dw_30 (by decide) (fun _ => kx _ _ _ _ _ hS (by omega) (by omega)) (fun h => ?_)
    have hil := i_L h3k (by omega) h
    refine lv_aload_n hx hb dw_33 rfl (lv_at hl 1 rfl) ?_
    refine lv_iload hx hb dw_34 (lv_at hl 0 rfl) ?_
    refine va_sld hx hb hX hbl hbA hS (in_nI (by omega) (by omega)) dw_36 ?_
    refine lv_bipush hx hb dw_37 (v := 63) (by decide) ?_
    refine lv_iand hx hb dw_39 ?_
    have nxt : ∀ (w2 : PW) (f2 : Nat → Int64) (H2 : Heap) (locs2 : List Loc) (ls2 : Array Slot), Inv (n + 1) w2 → va_P D vwCl (wsOf ad cI cZ cJ cW cP w2 ++ [(qo, .inl (cJ, 1, .inr (.inl f2)))]) H2 → va_D A (wsOf ad cI cZ cJ cW cP w2 ++ [(qo, .inl (cJ, 1, .inr (.inl f2)))]) → va_S A s.heap H2 locs2 → lv_has ls2 8 (lvh n b qo ad) → W p l e room_1 s m args below meth c H2 locs2 (cells + 1) (slots + 6) Q (F0 m 1647 ls2 []) := by
      intro w2 f2 H2 locs2 ls2 hi2 hP2 hD2 hS2 hl2
      refine lv_iinc (k := 0) (lv' := lvh (n + 1) b qo ad) (v := nI (6 * (n + 1))) hx hb dw_1647 hl2 rfl (by rw [show Int32.ofInt 6 = nI 6 from rfl, nI_ad, show 6 * n + 6 = 6 * (n + 1) by omega]) (by decide) rfl (fun ls hl => ?_)
      refine lv_goto (tgt := 23) hx hb dw_1650 (by decide) ?_
      exact ih (n + 1) w2 f2 H2 locs2 ls (cells + 1) (slots + 6) (by omega) hi2 hP2 hD2 hS2 hl (by omega) (by omega)
    obtain ⟨j, hj, hv⟩ := op_rng (x := xs (nI (6 * n)).toNatClampNeg)
    rw [hv]
    have hti : (nI j).toInt = (j : Int) := ti_nI (by omega)
    by_cases h36 : 36 < j
    · exact lv_tableOut (tgt := 1647) hx hb dw_40 (Or.inr (by rw [hti]; omega)) (by decide) (W.widen (k := cells + 1) (n := slots + 6) (by omega) (by omega) (nxt w f H locs ls (hi.up (by omega)) hP hD hS hl))
    have hcs : cells + 1 ≤ room_1.cells ∧ slots + 6 ≤ room_1.slots := ⟨by omega, by omega⟩
    have hn6 : n ≤ 600 := by omega
    rcases (show j = 0 ∨ j = 1 ∨ j = 2 ∨ j = 3 ∨ j = 4 ∨ j = 5 ∨ j = 6 ∨ j = 7 ∨ j = 8 ∨ j = 9 ∨ j = 10 ∨ j = 11 ∨ j = 12 ∨ j = 13 ∨ j = 14 ∨ j = 15 ∨ j = 16 ∨ j = 17 ∨ j = 18 ∨ j = 19 ∨ j = 20 ∨ j = 21 ∨ j = 22 ∨ j = 23 ∨ j = 24 ∨ j = 25 ∨ j = 26 ∨ j = 27 ∨ j = 28 ∨ j = 29 ∨ j = 30 ∨ j = 31 ∨ j = 32 ∨ j = 33 ∨ j = 34 ∨ j = 35 ∨ j = 36 by omega) with rfl | rfl | rfl | rfl | rfl | rfl | rfl | rfl | rfl | rfl | rfl | rfl | rfl | rfl | rfl | rfl | rfl | rfl | rfl | rfl | rfl | rfl | rfl | rfl | rfl | rfl | rfl | rfl | rfl | rfl | rfl | rfl | rfl | rfl | rfl | rfl | rfl
    · exact lv_tableIn (tgt := 204) hx hb dw_40 (by decide) (by decide) (by rfl) (by decide) (law_c0 X hi hn6 hil hP hD hS hl hcs nxt)
    · exact lv_tableIn (tgt := 229) hx hb dw_40 (by decide) (by decide) (by rfl) (by decide) (law_c1 X hi hn6 hil hP hD hS hl hcs nxt)
    · exact lv_tableIn (tgt := 302) hx hb dw_40 (by decide) (by decide) (by rfl) (by decide) (law_c2 X hi hn6 hil hP hD hS hl hcs nxt)
    · exact lv_tableIn (tgt := 351) hx hb dw_40 (by decide) (by decide) (by rfl) (by decide) (law_c3 X hi hn6 hil hP hD hS hl hcs nxt)
    · exact lv_tableIn (tgt := 412) hx hb dw_40 (by decide) (by decide) (by rfl) (by decide) (law_c4 X hi hn6 hil hP hD hS hl hcs nxt)
    · exact lv_tableIn (tgt := 437) hx hb dw_40 (by decide) (by decide) (by rfl) (by decide) (law_c5 X hi hn6 hil hP hD hS hl hcs nxt)
    · exact lv_tableIn (tgt := 498) hx hb dw_40 (by decide) (by decide) (by rfl) (by decide) (law_c6 X hi hn6 hil hP hD hS hl hcs nxt)
    · exact lv_tableIn (tgt := 535) hx hb dw_40 (by decide) (by decide) (by rfl) (by decide) (law_c7 X hi hn6 hil hP hD hS hl hcs nxt)
    · exact lv_tableIn (tgt := 560) hx hb dw_40 (by decide) (by decide) (by rfl) (by decide) (law_c8 X hi hn6 hil hP hD hS hl hcs nxt)
    · exact lv_tableIn (tgt := 585) hx hb dw_40 (by decide) (by decide) (by rfl) (by decide) (law_c9 X hi hn6 hil hP hD hS hl hcs nxt)
    · exact lv_tableIn (tgt := 634) hx hb dw_40 (by decide) (by decide) (by rfl) (by decide) (law_c10 X hi hn6 hil hP hD hS hl hcs nxt)
    · exact lv_tableIn (tgt := 647) hx hb dw_40 (by decide) (by decide) (by rfl) (by decide) (law_c11 X hi hn6 hil hP hD hS hl hcs nxt)
    · exact lv_tableIn (tgt := 684) hx hb dw_40 (by decide) (by decide) (by rfl) (by decide) (law_c12 X hi hn6 hil hP hD hS hl hcs nxt)
    · exact lv_tableIn (tgt := 709) hx hb dw_40 (by decide) (by decide) (by rfl) (by decide) (law_c13 X hi hn6 hil hP hD hS hl hcs nxt)
    · exact lv_tableIn (tgt := 722) hx hb dw_40 (by decide) (by decide) (by rfl) (by decide) (law_c14 X hi hn6 hil hP hD hS hl hcs nxt)
    · exact lv_tableIn (tgt := 759) hx hb dw_40 (by decide) (by decide) (by rfl) (by decide) (law_c15 X hi hn6 hil hP hD hS hl hcs nxt)
    · exact lv_tableIn (tgt := 796) hx hb dw_40 (by decide) (by decide) (by rfl) (by decide) (law_c16 X hi hn6 hil hP hD hS hl hcs nxt)
    · exact lv_tableIn (tgt := 845) hx hb dw_40 (by decide) (by decide) (by rfl) (by decide) (law_c17 X hi hn6 hil hP hD hS hl hcs nxt)
    · exact lv_tableIn (tgt := 894) hx hb dw_40 (by decide) (by decide) (by rfl) (by decide) (law_c18 X hi hn6 hil hP hD hS hl hcs nxt)
    · exact lv_tableIn (tgt := 919) hx hb dw_40 (by decide) (by decide) (by rfl) (by decide) (law_c19 X hi hn6 hil hP hD hS hl hcs nxt)
    · exact lv_tableIn (tgt := 944) hx hb dw_40 (by decide) (by decide) (by rfl) (by decide) (law_c20 X hi hn6 hil hP hD hS hl hcs nxt)
    · exact lv_tableIn (tgt := 993) hx hb dw_40 (by decide) (by decide) (by rfl) (by decide) (law_c21 X hi hn6 hil hP hD hS hl hcs nxt)
    · exact lv_tableIn (tgt := 1006) hx hb dw_40 (by decide) (by decide) (by rfl) (by decide) (law_c22 X hi hn6 hil hP hD hS hl hcs nxt)
    · exact lv_tableIn (tgt := 1055) hx hb dw_40 (by decide) (by decide) (by rfl) (by decide) (law_c23 X hi hn6 hil hP hD hS hl hcs nxt)
    · exact lv_tableIn (tgt := 1092) hx hb dw_40 (by decide) (by decide) (by rfl) (by decide) (law_c24 X hi hn6 hil hP hD hS hl hcs nxt)
    · exact lv_tableIn (tgt := 1141) hx hb dw_40 (by decide) (by decide) (by rfl) (by decide) (law_c25 X hi hn6 hil hP hD hS hl hcs nxt)
    · exact lv_tableIn (tgt := 1166) hx hb dw_40 (by decide) (by decide) (by rfl) (by decide) (law_c26 X hi hn6 hil hP hD hS hl hcs nxt)
    · exact lv_tableIn (tgt := 1215) hx hb dw_40 (by decide) (by decide) (by rfl) (by decide) (law_c27 X hi hn6 hil hP hD hS hl hcs nxt)
    · exact lv_tableIn (tgt := 1252) hx hb dw_40 (by decide) (by decide) (by rfl) (by decide) (law_c28 X hi hn6 hil hP hD hS hl hcs nxt)
    · exact lv_tableIn (tgt := 1301) hx hb dw_40 (by decide) (by decide) (by rfl) (by decide) (law_c29 X hi hn6 hil hP hD hS hl hcs nxt)
    · exact lv_tableIn (tgt := 1326) hx hb dw_40 (by decide) (by decide) (by rfl) (by decide) (law_c30 X hi hn6 hil hP hD hS hl hcs nxt)
    · exact lv_tableIn (tgt := 1351) hx hb dw_40 (by decide) (by decide) (by rfl) (by decide) (law_c31 X hi hn6 hil hP hD hS hl hcs nxt)
    · exact lv_tableIn (tgt := 1376) hx hb dw_40 (by decide) (by decide) (by rfl) (by decide) (law_c32 X hi hn6 hil hP hD hS hl hcs nxt)
    · exact lv_tableIn (tgt := 1401) hx hb dw_40 (by decide) (by decide) (by rfl) (by decide) (law_c33 X hi hn6 hil hP hD hS hl hcs nxt)
    · exact lv_tableIn (tgt := 1482) hx hb dw_40 (by decide) (by decide) (by rfl) (by decide) (law_c34 hflags hXZ hXN X hi hn6 hil hP hD hS hl hcs nxt)
    · exact lv_tableIn (tgt := 1549) hx hb dw_40 (by decide) (by decide) (by rfl) (by decide) (law_c35 X hi hn6 hil hP hD hS hl hcs nxt)
    · exact lv_tableIn (tgt := 1622) hx hb dw_40 (by decide) (by decide) (by rfl) (by decide) (law_c36 X hi hn6 hil hP hD hS hl hcs nxt)
end LAWL

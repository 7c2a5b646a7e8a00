/-! a static method called from a walk; what a throw rests on */ -/
theorem s_hasTape {w : PW} {Q : PQ} {a : Int32} (h : Q (.inl (bb ((0 : Int32) ≤ a ∧ a ≤ 5))) w) : Wp 98 0 [some (.inl a)] [] w Q := Wp.run smF_ok [] [] 12 _ _ _ _ _ _ ⟨bb_01, h⟩
section BMETH
variable {p : Program} {l : Launch} {e : Env} {R : Room} {s : State} {m : MethodId} {args : Array Value} {below : List Frame} {meth : Method} {c : Code} {H : Heap} {locs : List Loc} {cells slots : Nat} {Q : State → Prop}
variable {cc : ByteArray} {pc idx : Nat} {ls : Array Slot} {D : va_G} {A : Nat → Prop} {rest : List Value}
theorem b_methSI {mi nL : Nat} {as : List PV} {w : PW} {k : Int32 → PW → Prop} {X : va_W} {cI cZ cJ cW cP : ClassId} {ad : AD} {own : String}
    (h : Cl mi as w (kI k)) (hmi : mi < 187) (hs : mS mi = true) (hz : (mI mi).1 = 1 ∨ (mI mi).1 = 3) (hoAs : okT as) (hc2 : (expd as).length ≤ mM mi) (hn : as.length = mN mi)
    (hx : p.tables.exec = Jvm.exec) (hb : c.code = cc) (hml : c.maxLocals = nL) (hown : s.vm.findClass own = some m.cls) (hts : ∀ w ∈ gT, w.before args s = true) (hK : va_K D vwCl (tysOf cI cZ cJ cW cP) s) (hZ : hZs ad A s) (hP : va_P D vwCl (wsOf ad cI cZ cJ cW cP w ++ X) H) (hD : va_D A (wsOf ad cI cZ cJ cW cP w ++ X)) (hS : va_S A s.heap H locs) (hA : ∀ q, s.heap.size ≤ q → A q)
    (hlink : Cond.methodLink own idx (mY mi) ∈ gT) (hR : mF mi + 1 ≤ R.frames ∧ 8 + (mM mi + 11) + mO mi ≤ R.locals) (hls : ls.size = nL) (hst : (rest.map fun v => v.category).sum ≤ 8) (hdg : decode cc pc = .ok (.invokestatic idx, 3)) (hf0 : cells ≤ R.cells ∧ slots ≤ R.slots)
    (kk : ∀ (x : Int32) (w' : PW) (H1 : Heap) (locs1 : List Loc), k x w' → va_P D vwCl (wsOf ad cI cZ cJ cW cP w' ++ X) H1 → va_D A (wsOf ad cI cZ cJ cW cP w' ++ X) → va_S A s.heap H1 locs1 → W p l e R s m args below meth c H1 locs1 cells slots Q (F0 m (pc + 3) ls (.int x :: rest))) :
    W p l e R s m args below meth c H locs cells slots Q (F0 m pc ls ((as.map (tV ad)).reverse ++ rest)) := by
  obtain ⟨hPl, hDl⟩ := b_left hP hD
  have G : ∀ {w : Cond}, w ∈ lw_tbl → goodWord w = true → w.before args s = true := fun h1 h2 => hts _ (in_gT h1 h2)
  have hFc : ∀ z, va_A (wsOf ad cI cZ cJ cW cP w) H.size z → A z := by
    rintro z (⟨k, e2, h⟩ | h)
    · exact hDl.2 k _ h
    · exact hA z (Nat.le_trans hS.1 h)
  have hpre : ∀ U : State, U.heap = H → s.WarmedH U.vm → U.heap.size = H.size ∧ va_P D vwCl (wsOf ad cI cZ cJ cW cP w) U.heap ∧ va_K D vwCl (tysOf cI cZ cJ cW cP) U ∧ va_D (fun _ => True) (wsOf ad cI cZ cJ cW cP w) ∧ hZs ad (va_A (wsOf ad cI cZ cJ cW cP w) H.size) U := by
    intro U hU hW
    refine ⟨by rw [hU], by rw [hU]; exact hPl, va_K.moved hW.alike hK, hDl.weaken (fun _ _ _ _ => trivial), ?_, ?_, va_Nw.warmM hW hZ.2.2⟩
    · rw [hU]
      exact ((hZ.1.moved hW.alike).kept hS.2.1).narrow hFc
    · rw [hU]
      exact ((hZ.2.1.moved hW.alike).kept hS.2.1).narrow hFc
  have hblind : FrameBlind (va_Pc (as.map (tV ad)) (fun U => U.heap.size = H.size ∧ va_P D vwCl (wsOf ad cI cZ cJ cW cP w) U.heap ∧ va_K D vwCl (tysOf cI cZ cJ cW cP) U ∧ va_D (fun _ => True) (wsOf ad cI cZ cJ cW cP w) ∧ hZs ad (va_A (wsOf ad cI cZ cJ cW cP w) H.size) U)) := by
    rintro a U g mk ⟨q0, q1, qP, qK, qD, qZ⟩
    exact ⟨q0, q1, qP, va_K.moved (u := U) (U := U.calling g mk a) (Vm.Alike.refl U.vm) qK, qD, qZ.1.moved (U := U.calling g mk a) (Vm.Alike.refl U.vm), qZ.2.1.moved (U := U.calling g mk a) (Vm.Alike.refl U.vm), va_Nw.same rfl (U := U.calling g mk a) rfl qZ.2.2⟩
  have hpl : ∀ sig, parseMethodDescriptor (mY mi).desc = some sig → (as.map (tV ad)).length = sig.parameters.length := by
    intro sig hsig
    have h3 := okM_n hmi
    rw [hsig, hs] at h3
    have h3 : sig.parameters.length = mN mi - 0 := Option.some.inj h3
    rw [List.length_map, h3, ← hn]; rfl
  have hM := MetX (XM_of l h) hmi hoAs hc2 D cI cZ cJ cW cP ad H.size
  have hrun := va_runS (As := as.map (tV ad)) (rest := rest) (g := F0 m pc ls ((as.map (tV ad)).reverse ++ rest)) (p := p) (e := e) (R := R) (below := below) (meth := meth) (locs := locs) (cells := cells) (slots := slots) (nL := nL) (n := (as.map (tV ad)).length) (own := own) (index := idx) (bytes := mB mi) (maxL := mM mi) (ret := mR mi) ⟨hx, hb, hml, hown, hts⟩ hM ⟨⟨rfl, rfl, hR.1, hR.2, pay_in hts (gT_cons (in_gT (mc_all mi hmi) rfl)), List.mem_cons_self, G (mc_all mi hmi) rfl, G (mW_in hmi (by unfold mW; rw [hs]; simp)) rfl, okM_h hmi, hpl, hts _ hlink⟩, G (mW_in hmi (by unfold mW; rw [hs]; simp)) rfl⟩ ⟨hblind, fun U hU hW => ⟨rfl, hpre U hU hW⟩⟩ rfl rfl hls rfl (lv_room hst) hdg hf0
  have e1 : QM (BM D cI cZ cJ cW cP ad (va_A (wsOf ad cI cZ cJ cW cP w) H.size)) mi (va_A (wsOf ad cI cZ cJ cW cP w) H.size) (kI k) = va_Qi (fun x u => kI k (.inl x) u) (BM D cI cZ cJ cW cP ad (va_A (wsOf ad cI cZ cJ cW cP w) H.size)) (va_A (wsOf ad cI cZ cJ cW cP w) H.size) := by
    unfold QM; rcases hz with hz | hz <;> (rw [hz]; rfl)
  rw [e1] at hrun
  refine va_calli hrun hS (fun q _ hq => hFc q hq) hFc (fun x u t H1 locs1 ht hvm hw hB hz hk hS => ?_)
  obtain ⟨j1, j2⟩ := b_join2 hP hD hFc hk (by rw [← ht]; exact hB.1) hB.2.2
  exact kk x u H1 locs1 hw j1 j2 hS
end BMETH
def xIA : String := "java/lang/IllegalArgumentException"
def xIS : String := "java/lang/IllegalStateException"
def xRE : String := "java/lang/RuntimeException"
def xEx : String := "java/lang/Exception"
def xTh : String := "java/lang/Throwable"
def xNm : List String := [xRE, xEx]
def dcl (C : String) : Cond := .declares ⟨C, "<init>", "()V"⟩
theorem xg_IA : ∀ w ∈ vx_at0 RX9 328 xIA xNm, goodWord w = true → w ∈ lw_tbl := by
  have h : (vx_at0 RX9 328 xIA xNm).all (fun w => !goodWord w || lw_tbl.contains w) = true := by decide +kernel
  intro w hw hg
  have := List.all_eq_true.mp h w hw
  rw [hg] at this
  exact List.contains_iff_mem.mp this
theorem xg_IS : ∀ w ∈ vx_at0 RX9 331 xIS xNm, goodWord w = true → w ∈ lw_tbl := by
  have h : (vx_at0 RX9 331 xIS xNm).all (fun w => !goodWord w || lw_tbl.contains w) = true := by decide +kernel
  intro w hw hg
  have := List.all_eq_true.mp h w hw
  rw [hg] at this
  exact List.contains_iff_mem.mp this
theorem xb_IA : ∀ w ∈ vx_at0 RX9 328 xIA xNm, goodWord w = false → w ∈ [Cond.castable xIA xIA, dcl xRE, dcl xEx, dcl xTh] := by
  have h : (vx_at0 RX9 328 xIA xNm).all (fun w => goodWord w || [Cond.castable xIA xIA, dcl xRE, dcl xEx, dcl xTh].contains w) = true := by decide +kernel
  intro w hw hg
  have := List.all_eq_true.mp h w hw
  rw [hg] at this
  exact List.contains_iff_mem.mp this
theorem xb_IS : ∀ w ∈ vx_at0 RX9 331 xIS xNm, goodWord w = false → w ∈ [Cond.castable xIS xIS, dcl xRE, dcl xEx, dcl xTh] := by
  have h : (vx_at0 RX9 331 xIS xNm).all (fun w => goodWord w || [Cond.castable xIS xIS, dcl xRE, dcl xEx, dcl xTh].contains w) = true := by decide +kernel
  intro w hw hg
  have := List.all_eq_true.mp h w hw
  rw [hg] at this
  exact List.contains_iff_mem.mp this
theorem xo_IA : ∀ w ∈ Cond.classLink RX9 326 xIA :: Cond.initialized xIA :: vx_at0 RX9 328 xIA xNm, vx_ot w = true := by
  have h : (Cond.classLink RX9 326 xIA :: Cond.initialized xIA :: vx_at0 RX9 328 xIA xNm).all vx_ot = true := by decide +kernel
  exact fun w hw => List.all_eq_true.mp h w hw
theorem xo_IS : ∀ w ∈ Cond.classLink RX9 329 xIS :: Cond.initialized xIS :: vx_at0 RX9 331 xIS xNm, vx_ot w = true := by
  have h : (Cond.classLink RX9 329 xIS :: Cond.initialized xIS :: vx_at0 RX9 331 xIS xNm).all vx_ot = true := by decide +kernel
  exact fun w hw => List.all_eq_true.mp h w hw
/-- the words that don't ride on the tables alone, in a state -/
def xN (U : State) : Prop := va_Nw (.castable xIA xIA) U ∧ va_Nw (.castable xIS xIS) U ∧ va_Nw (dcl xRE) U ∧ va_Nw (dcl xEx) U ∧ va_Nw (dcl xTh) U ∧ va_Nc xIS xIA U
theorem xN_w {s U : State} (hW : s.WarmedH U.vm) (h : xN s) : xN U := ⟨va_Nw.warmC hW h.1, va_Nw.warmC hW h.2.1, va_Nw.warmD hW h.2.2.1, va_Nw.warmD hW h.2.2.2.1, va_Nw.warmD hW h.2.2.2.2.1, h.2.2.2.2.2.moved hW.alike⟩
theorem xN_s {u U : State} (h : u.vm = U.vm) (hx : xN u) : xN U := ⟨va_Nw.same rfl h hx.1, va_Nw.same rfl h hx.2.1, va_Nw.same rfl h hx.2.2.1, va_Nw.same rfl h hx.2.2.2.1, va_Nw.same rfl h hx.2.2.2.2.1, hx.2.2.2.2.2.moved (by rw [h]; exact Vm.Alike.refl _)⟩
def xZ (A : Nat → Prop) (U : State) : Prop := vx_Zq Bundle.tN "UNASSIGNED_STACK" Bundle.steD A U U.heap ∧ vx_Zq Bundle.tN "SUPPRESSED_SENTINEL" Bundle.listD A U U.heap
theorem x_IA {args : Array Value} {s : State} (hts : ∀ w ∈ gT, w.before args s = true) (h : xN s) : ∀ w ∈ vx_at0 RX9 328 xIA xNm, w.before args s = true := by
  intro w hw
  cases hg : goodWord w with
  | true => exact hts _ (in_gT (xg_IA w hw hg) hg)
  | false =>
    have := xb_IA w hw hg
    simp only [List.mem_cons, List.not_mem_nil, or_false] at this
    rcases this with rfl | rfl | rfl | rfl
    · exact va_Nw.use rfl h.1
    · exact va_Nw.use rfl h.2.2.1
    · exact va_Nw.use rfl h.2.2.2.1
    · exact va_Nw.use rfl h.2.2.2.2.1
theorem x_IS {args : Array Value} {s : State} (hts : ∀ w ∈ gT, w.before args s = true) (h : xN s) : ∀ w ∈ vx_at0 RX9 331 xIS xNm, w.before args s = true := by
  intro w hw
  cases hg : goodWord w with
  | true => exact hts _ (in_gT (xg_IS w hw hg) hg)
  | false =>
    have := xb_IS w hw hg
    simp only [List.mem_cons, List.not_mem_nil, or_false] at this
    rcases this with rfl | rfl | rfl | rfl
    · exact va_Nw.use rfl h.2.1
    · exact va_Nw.use rfl h.2.2.1
    · exact va_Nw.use rfl h.2.2.2.1
    · exact va_Nw.use rfl h.2.2.2.2.1

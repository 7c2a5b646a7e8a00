/-! a proved method is called from a walk by kit rows: what is beside its world stays */ -/
section BMETH
variable {p : Program} {l : Launch} {e : Env} {R : Room} {s : State} {m : MethodId} {args : Array Value} {below : List Frame} {meth : Method} {c : Code} {H : Heap} {locs : List Loc} {cells slots : Nat} {Q : State → Prop}
variable {cc : ByteArray} {pc idx : Nat} {ls : Array Slot} {D : va_G} {A : Nat → Prop} {rest : List Value}
theorem b_join2 {X Y w1 : va_W} {H1 : Heap} (hP : va_P D vwCl (Y ++ X) H) (hD : va_D A (Y ++ X)) (hF : ∀ z, va_A Y H.size z → A z) (hk : ∀ z : Nat, z < H.size → ¬ va_A Y H.size z → H1[z]? = H[z]?) (hP1 : va_P D vwCl w1 H1) (hD1 : va_D (va_A Y H.size) w1) : va_P D vwCl (w1 ++ X) H1 ∧ va_D A (w1 ++ X) := by
  have left : ∀ (k : Nat) (x : Nat × va_E), Y[k]? = some x → (Y ++ X)[k]? = some x := fun k x hx => by
    rw [List.getElem?_append_left (List.getElem?_eq_some_iff.mp hx).1]; exact hx
  have right : ∀ (k : Nat) (x : Nat × va_E), X[k]? = some x → (Y ++ X)[Y.length + k]? = some x := fun k x hx => by
    rw [List.getElem?_append_right (by omega), show Y.length + k - Y.length = k by omega]; exact hx
  have apart : ∀ (k : Nat) (x : Nat × va_E), X[k]? = some x → x.1 < H.size ∧ ¬ va_A Y H.size x.1 := by
    intro k x hx
    have hl := (hP _ x (right k x hx)).lt
    refine ⟨hl, fun h => ?_⟩
    rcases h with ⟨k2, e2, h⟩ | h
    · have := hD.1 k2 (Y.length + k) (x.1, e2) x (left k2 _ h) (right k x hx) rfl
      have := (List.getElem?_eq_some_iff.mp h).1
      omega
    · omega
  refine ⟨va_P.app hP1 (fun k x hx => ?_), va_D.app (hD1.weaken (fun k q _ h => hF q.1 h)) ⟨fun i j a b ha hb he => by have := hD.1 _ _ a b (right i a ha) (right j b hb) he; omega, fun k x hx => hD.2 _ x (right k x hx)⟩ (fun i j a b ha hb hab => ?_)⟩
  · obtain ⟨g1, g2⟩ := apart k x hx
    exact (hP _ x (right k x hx)).kept (hk x.1 g1 g2)
  · exact (apart j b hb).2 (by rw [← hab]; exact hD1.2 i a ha)
theorem b_left {X Y : va_W} (hP : va_P D vwCl (Y ++ X) H) (hD : va_D A (Y ++ X)) : va_P D vwCl Y H ∧ va_D A Y := by
  have left : ∀ (k : Nat) (x : Nat × va_E), Y[k]? = some x → (Y ++ X)[k]? = some x := fun k x hx => by
    rw [List.getElem?_append_left (List.getElem?_eq_some_iff.mp hx).1]; exact hx
  exact ⟨fun k x hx => hP k x (left k x hx), ⟨fun i j a b ha hb he => hD.1 i j a b (left i a ha) (left j b hb) he, fun k x hx => hD.2 k x (left k x hx)⟩⟩
theorem b_methI {mi nL : Nat} {o : Ob} {as : List PV} {w : PW} {k : Int32 → PW → Prop} {X : va_W} {cI cZ cJ cW cP : ClassId} {ad : AD} {own : String}
    (h : Cl mi (.inr (.inr o) :: as) w (kI k)) (hmi : mi < 187) (hs : mS mi = false) (hz : (mI mi).1 = 1 ∨ (mI mi).1 = 3) (hk1 : shk o.2 = 1) (hmo : cR (shc o.2) = (mY mi).cls) (hci : shc o.2 < 11) (ho : o ∈ objs) (hoAs : okT as) (hc2 : (expd (.inr (.inr o) :: as)).length ≤ mM mi) (hn : as.length + 1 = mN mi)
    (hx : p.tables.exec = Jvm.exec) (hb : c.code = cc) (hml : c.maxLocals = nL) (hown : s.vm.findClass own = some m.cls) (hts : ∀ w ∈ gT, w.before args s = true) (hK : va_K D vwCl (tysOf cI cZ cJ cW cP) s) (hZ : hZs ad A s) (hP : va_P D vwCl (wsOf ad cI cZ cJ cW cP w ++ X) H) (hD : va_D A (wsOf ad cI cZ cJ cW cP w ++ X)) (hS : va_S A s.heap H locs) (hA : ∀ q, s.heap.size ≤ q → A q)
    (hlink : Cond.methodLink own idx (mY mi) ∈ gT) (hR : mF mi + 1 ≤ R.frames ∧ 8 + (mM mi + 11) + mO mi ≤ R.locals) (hls : ls.size = nL) (hst : (rest.map fun v => v.category).sum ≤ 8) (hdg : decode cc pc = .ok (.invokevirtual idx, 3)) (hf0 : cells ≤ R.cells ∧ slots ≤ R.slots)
    (kk : ∀ (x : Int32) (w' : PW) (H1 : Heap) (locs1 : List Loc), k x w' → va_P D vwCl (wsOf ad cI cZ cJ cW cP w' ++ X) H1 → va_D A (wsOf ad cI cZ cJ cW cP w' ++ X) → va_S A s.heap H1 locs1 → W p l e R s m args below meth c H1 locs1 cells slots Q (F0 m (pc + 3) ls (.int x :: rest))) :
    W p l e R s m args below meth c H locs cells slots Q (F0 m pc ls ((as.map (tV ad)).reverse ++ .ref (ad o) :: rest)) := by
  obtain ⟨hPl, hDl⟩ := b_left hP hD
  have G : ∀ {w : Cond}, w ∈ lw_tbl → goodWord w = true → w.before args s = true := fun h1 h2 => hts _ (in_gT h1 h2)
  have hFc : ∀ z, va_A (wsOf ad cI cZ cJ cW cP w) H.size z → A z := by
    rintro z (⟨k, e2, h⟩ | h)
    · exact hDl.2 k _ h
    · exact hA z (Nat.le_trans hS.1 h)
  have hpre : ∀ U : State, U.heap = H → s.WarmedH U.vm → U.heap.size = H.size ∧ va_P D vwCl (wsOf ad cI cZ cJ cW cP w) U.heap ∧ va_K D vwCl (tysOf cI cZ cJ cW cP) U ∧ va_D (fun _ => True) (wsOf ad cI cZ cJ cW cP w) ∧ hZs ad (va_A (wsOf ad cI cZ cJ cW cP w) H.size) U := by
    intro U hU hW
    refine ⟨by rw [hU], by rw [hU]; exact hPl, va_K.moved hW.alike hK, hDl.weaken (fun _ _ _ _ => trivial), ?_, ?_, va_Nw.warmM hW hZ.2.2⟩
    · rw [hU]
      exact ((hZ.1.moved hW.alike).kept hS.2.1).narrow hFc
    · rw [hU]
      exact ((hZ.2.1.moved hW.alike).kept hS.2.1).narrow hFc
  have hblind : FrameBlind (va_Pc ((.inr (.inr o) :: as : List PV).map (tV ad)) (fun U => U.heap.size = H.size ∧ va_P D vwCl (wsOf ad cI cZ cJ cW cP w) U.heap ∧ va_K D vwCl (tysOf cI cZ cJ cW cP) U ∧ va_D (fun _ => True) (wsOf ad cI cZ cJ cW cP w) ∧ hZs ad (va_A (wsOf ad cI cZ cJ cW cP w) H.size) U)) := by
    rintro a U g mk ⟨q0, q1, qP, qK, qD, qZ⟩
    exact ⟨q0, q1, qP, va_K.moved (u := U) (U := U.calling g mk a) (Vm.Alike.refl U.vm) qK, qD, qZ.1.moved (U := U.calling g mk a) (Vm.Alike.refl U.vm), qZ.2.1.moved (U := U.calling g mk a) (Vm.Alike.refl U.vm), va_Nw.same rfl (U := U.calling g mk a) rfl qZ.2.2⟩
  obtain ⟨q0, hq, hw⟩ := ws_at (ad := ad) (cI := cI) (cZ := cZ) (cJ := cJ) (cW := cW) (cP := cP) (w := w) ho
  have hcell : cellOf ad cI cZ cJ cW cP w o = .inr (shc o.2, fldL ad w o) := by unfold cellOf; rw [hk1]; rfl
  rw [hcell] at hw
  have hpl : ∀ sig, parseMethodDescriptor (mY mi).desc = some sig → (as.map (tV ad)).length = sig.parameters.length := by
    intro sig hsig
    have h3 := okM_n hmi
    rw [hsig, hs] at h3
    have h3 : sig.parameters.length = mN mi - 1 := Option.some.inj h3
    rw [List.length_map, h3, ← hn]; rfl
  have hM := MetX (XM_of l h) hmi (by exact ⟨Or.inl ho, hoAs⟩) hc2 D cI cZ cJ cW cP ad H.size
  have hrun := va_runV (C := (mY mi).cls) (b := ad o) (As := as.map (tV ad)) (rest := rest) (g := F0 m pc ls ((as.map (tV ad)).reverse ++ .ref (ad o) :: rest)) (p := p) (e := e) (R := R) (below := below) (meth := meth) (locs := locs) (cells := cells) (slots := slots) (nL := nL) (n := (as.map (tV ad)).length) (own := own) (index := idx) (bytes := mB mi) (maxL := mM mi) (ret := mR mi) ⟨hx, hb, hml, hown, hts⟩ hM ⟨⟨rfl, rfl, hR.1, hR.2, pay_in hts (gT_cons (in_gT (mc_all mi hmi) rfl)), List.mem_cons_self, G (mc_all mi hmi) rfl, G (mW_in hmi (by unfold mW; rw [hs]; simp)) rfl, okM_h hmi, hpl, hts _ hlink⟩, G (mW_in hmi (by unfold mW; rw [hs]; simp)) rfl, G (mW_in hmi (by unfold mW; rw [hs]; simp)) rfl⟩ ⟨hblind, (by
      obtain ⟨cell, g1, g2, g3⟩ := va_recv hK hPl (cl_at hci) hw
      exact ⟨cell, g1, g2, by rw [← hmo]; exact g3⟩), fun U hU hW => ⟨rfl, hpre U hU hW⟩⟩ rfl rfl hls rfl (lv_room hst) hdg hf0
  have e1 : QM (BM D cI cZ cJ cW cP ad (va_A (wsOf ad cI cZ cJ cW cP w) H.size)) mi (va_A (wsOf ad cI cZ cJ cW cP w) H.size) (kI k) = va_Qi (fun x u => kI k (.inl x) u) (BM D cI cZ cJ cW cP ad (va_A (wsOf ad cI cZ cJ cW cP w) H.size)) (va_A (wsOf ad cI cZ cJ cW cP w) H.size) := by
    unfold QM; rcases hz with hz | hz <;> (rw [hz]; rfl)
  rw [e1] at hrun
  refine va_calli hrun hS (fun q _ hq => hFc q hq) hFc (fun x u t H1 locs1 ht hvm hw hB hz hk hS => ?_)
  obtain ⟨j1, j2⟩ := b_join2 hP hD hFc hk (by rw [← ht]; exact hB.1) hB.2.2
  exact kk x u H1 locs1 hw j1 j2 hS
theorem b_methJ {mi nL : Nat} {o : Ob} {as : List PV} {w : PW} {k : Int64 → PW → Prop} {X : va_W} {cI cZ cJ cW cP : ClassId} {ad : AD} {own : String}
    (h : Cl mi (.inr (.inr o) :: as) w (kL k)) (hmi : mi < 187) (hs : mS mi = false) (hz : (mI mi).1 = 2) (hk1 : shk o.2 = 1) (hmo : cR (shc o.2) = (mY mi).cls) (hci : shc o.2 < 11) (ho : o ∈ objs) (hoAs : okT as) (hc2 : (expd (.inr (.inr o) :: as)).length ≤ mM mi) (hn : as.length + 1 = mN mi)
    (hx : p.tables.exec = Jvm.exec) (hb : c.code = cc) (hml : c.maxLocals = nL) (hown : s.vm.findClass own = some m.cls) (hts : ∀ w ∈ gT, w.before args s = true) (hK : va_K D vwCl (tysOf cI cZ cJ cW cP) s) (hZ : hZs ad A s) (hP : va_P D vwCl (wsOf ad cI cZ cJ cW cP w ++ X) H) (hD : va_D A (wsOf ad cI cZ cJ cW cP w ++ X)) (hS : va_S A s.heap H locs) (hA : ∀ q, s.heap.size ≤ q → A q)
    (hlink : Cond.methodLink own idx (mY mi) ∈ gT) (hR : mF mi + 1 ≤ R.frames ∧ 8 + (mM mi + 11) + mO mi ≤ R.locals) (hls : ls.size = nL) (hst : (rest.map fun v => v.category).sum ≤ 8) (hdg : decode cc pc = .ok (.invokevirtual idx, 3)) (hf0 : cells ≤ R.cells ∧ slots ≤ R.slots)
    (kk : ∀ (x : Int64) (w' : PW) (H1 : Heap) (locs1 : List Loc), k x w' → va_P D vwCl (wsOf ad cI cZ cJ cW cP w' ++ X) H1 → va_D A (wsOf ad cI cZ cJ cW cP w' ++ X) → va_S A s.heap H1 locs1 → W p l e R s m args below meth c H1 locs1 cells slots Q (F0 m (pc + 3) ls (.long x :: rest))) :
    W p l e R s m args below meth c H locs cells slots Q (F0 m pc ls ((as.map (tV ad)).reverse ++ .ref (ad o) :: rest)) := by
  obtain ⟨hPl, hDl⟩ := b_left hP hD
  have G : ∀ {w : Cond}, w ∈ lw_tbl → goodWord w = true → w.before args s = true := fun h1 h2 => hts _ (in_gT h1 h2)
  have hFc : ∀ z, va_A (wsOf ad cI cZ cJ cW cP w) H.size z → A z := by
    rintro z (⟨k, e2, h⟩ | h)
    · exact hDl.2 k _ h
    · exact hA z (Nat.le_trans hS.1 h)
  have hpre : ∀ U : State, U.heap = H → s.WarmedH U.vm → U.heap.size = H.size ∧ va_P D vwCl (wsOf ad cI cZ cJ cW cP w) U.heap ∧ va_K D vwCl (tysOf cI cZ cJ cW cP) U ∧ va_D (fun _ => True) (wsOf ad cI cZ cJ cW cP w) ∧ hZs ad (va_A (wsOf ad cI cZ cJ cW cP w) H.size) U := by
    intro U hU hW
    refine ⟨by rw [hU], by rw [hU]; exact hPl, va_K.moved hW.alike hK, hDl.weaken (fun _ _ _ _ => trivial), ?_, ?_, va_Nw.warmM hW hZ.2.2⟩
    · rw [hU]
      exact ((hZ.1.moved hW.alike).kept hS.2.1).narrow hFc
    · rw [hU]
      exact ((hZ.2.1.moved hW.alike).kept hS.2.1).narrow hFc
  have hblind : FrameBlind (va_Pc ((.inr (.inr o) :: as : List PV).map (tV ad)) (fun U => U.heap.size = H.size ∧ va_P D vwCl (wsOf ad cI cZ cJ cW cP w) U.heap ∧ va_K D vwCl (tysOf cI cZ cJ cW cP) U ∧ va_D (fun _ => True) (wsOf ad cI cZ cJ cW cP w) ∧ hZs ad (va_A (wsOf ad cI cZ cJ cW cP w) H.size) U)) := by
    rintro a U g mk ⟨q0, q1, qP, qK, qD, qZ⟩
    exact ⟨q0, q1, qP, va_K.moved (u := U) (U := U.calling g mk a) (Vm.Alike.refl U.vm) qK, qD, qZ.1.moved (U := U.calling g mk a) (Vm.Alike.refl U.vm), qZ.2.1.moved (U := U.calling g mk a) (Vm.Alike.refl U.vm), va_Nw.same rfl (U := U.calling g mk a) rfl qZ.2.2⟩
  obtain ⟨q0, hq, hw⟩ := ws_at (ad := ad) (cI := cI) (cZ := cZ) (cJ := cJ) (cW := cW) (cP := cP) (w := w) ho
  have hcell : cellOf ad cI cZ cJ cW cP w o = .inr (shc o.2, fldL ad w o) := by unfold cellOf; rw [hk1]; rfl
  rw [hcell] at hw
  have hpl : ∀ sig, parseMethodDescriptor (mY mi).desc = some sig → (as.map (tV ad)).length = sig.parameters.length := by
    intro sig hsig
    have h3 := okM_n hmi
    rw [hsig, hs] at h3
    have h3 : sig.parameters.length = mN mi - 1 := Option.some.inj h3
    rw [List.length_map, h3, ← hn]; rfl
  have hM := MetX (XM_of l h) hmi (by exact ⟨Or.inl ho, hoAs⟩) hc2 D cI cZ cJ cW cP ad H.size
  have hrun := va_runV (C := (mY mi).cls) (b := ad o) (As := as.map (tV ad)) (rest := rest) (g := F0 m pc ls ((as.map (tV ad)).reverse ++ .ref (ad o) :: rest)) (p := p) (e := e) (R := R) (below := below) (meth := meth) (locs := locs) (cells := cells) (slots := slots) (nL := nL) (n := (as.map (tV ad)).length) (own := own) (index := idx) (bytes := mB mi) (maxL := mM mi) (ret := mR mi) ⟨hx, hb, hml, hown, hts⟩ hM ⟨⟨rfl, rfl, hR.1, hR.2, pay_in hts (gT_cons (in_gT (mc_all mi hmi) rfl)), List.mem_cons_self, G (mc_all mi hmi) rfl, G (mW_in hmi (by unfold mW; rw [hs]; simp)) rfl, okM_h hmi, hpl, hts _ hlink⟩, G (mW_in hmi (by unfold mW; rw [hs]; simp)) rfl, G (mW_in hmi (by unfold mW; rw [hs]; simp)) rfl⟩ ⟨hblind, (by
      obtain ⟨cell, g1, g2, g3⟩ := va_recv hK hPl (cl_at hci) hw
      exact ⟨cell, g1, g2, by rw [← hmo]; exact g3⟩), fun U hU hW => ⟨rfl, hpre U hU hW⟩⟩ rfl rfl hls rfl (lv_room hst) hdg hf0
  have e1 : QM (BM D cI cZ cJ cW cP ad (va_A (wsOf ad cI cZ cJ cW cP w) H.size)) mi (va_A (wsOf ad cI cZ cJ cW cP w) H.size) (kL k) = va_Ql (fun x u => kL k (.inr (.inl x)) u) (BM D cI cZ cJ cW cP ad (va_A (wsOf ad cI cZ cJ cW cP w) H.size)) (va_A (wsOf ad cI cZ cJ cW cP w) H.size) := by
    unfold QM; rw [hz]; rfl
  rw [e1] at hrun
  refine va_calll hrun hS (fun q _ hq => hFc q hq) hFc (fun x u t H1 locs1 ht hvm hw hB hz hk hS => ?_)
  obtain ⟨j1, j2⟩ := b_join2 hP hD hFc hk (by rw [← ht]; exact hB.1) hB.2.2
  exact kk x u H1 locs1 hw j1 j2 hS
theorem b_methVC {mi nL : Nat} {o : Ob} {as : List PV} {w : PW} {k : PW → Prop} {X : va_W} {cI cZ cJ cW cP : ClassId} {ad : AD} {own : String}
    (h : Cl mi (.inr (.inr o) :: as) w (kV k)) (hmi : mi < 187) (hs : mS mi = false) (hz : (mI mi).1 = 0) (hk1 : shk o.2 = 1) (hmo : cR (shc o.2) = (mY mi).cls) (hci : shc o.2 < 11) (ho : o ∈ objsC) (hoAs : okTC as) (hc2 : (expd (.inr (.inr o) :: as)).length ≤ mM mi) (hn : as.length + 1 = mN mi)
    (hx : p.tables.exec = Jvm.exec) (hb : c.code = cc) (hml : c.maxLocals = nL) (hown : s.vm.findClass own = some m.cls) (hts : ∀ w ∈ gT, w.before args s = true) (hK : va_K D vwCl (tysOf cI cZ cJ cW cP) s) (hZ : hZs ad A s) (hP : va_P D vwCl (wsOfC ad cI cZ cJ cW cP w ++ X) H) (hD : va_D A (wsOfC ad cI cZ cJ cW cP w ++ X)) (hS : va_S A s.heap H locs) (hA : ∀ q, s.heap.size ≤ q → A q)
    (hlink : Cond.methodLink own idx (mY mi) ∈ gT) (hR : mF mi + 1 ≤ R.frames ∧ 8 + (mM mi + 11) + mO mi ≤ R.locals) (hls : ls.size = nL) (hst : (rest.map fun v => v.category).sum ≤ 8) (hdg : decode cc pc = .ok (.invokevirtual idx, 3)) (hf0 : cells ≤ R.cells ∧ slots ≤ R.slots)
    (kk : ∀ (w' : PW) (H1 : Heap) (locs1 : List Loc), k w' → va_P D vwCl (wsOfC ad cI cZ cJ cW cP w' ++ X) H1 → va_D A (wsOfC ad cI cZ cJ cW cP w' ++ X) → va_S A s.heap H1 locs1 → W p l e R s m args below meth c H1 locs1 cells slots Q (F0 m (pc + 3) ls (rest))) :
    W p l e R s m args below meth c H locs cells slots Q (F0 m pc ls ((as.map (tV ad)).reverse ++ .ref (ad o) :: rest)) := by
  obtain ⟨hPl, hDl⟩ := b_left hP hD
  have G : ∀ {w : Cond}, w ∈ lw_tbl → goodWord w = true → w.before args s = true := fun h1 h2 => hts _ (in_gT h1 h2)
  have hFc : ∀ z, va_A (wsOfC ad cI cZ cJ cW cP w) H.size z → A z := by
    rintro z (⟨k, e2, h⟩ | h)
    · exact hDl.2 k _ h
    · exact hA z (Nat.le_trans hS.1 h)
  have hpre : ∀ U : State, U.heap = H → s.WarmedH U.vm → U.heap.size = H.size ∧ va_P D vwCl (wsOfC ad cI cZ cJ cW cP w) U.heap ∧ va_K D vwCl (tysOf cI cZ cJ cW cP) U ∧ va_D (fun _ => True) (wsOfC ad cI cZ cJ cW cP w) ∧ hZs ad (va_A (wsOfC ad cI cZ cJ cW cP w) H.size) U := by
    intro U hU hW
    refine ⟨by rw [hU], by rw [hU]; exact hPl, va_K.moved hW.alike hK, hDl.weaken (fun _ _ _ _ => trivial), ?_, ?_, va_Nw.warmM hW hZ.2.2⟩
    · rw [hU]
      exact ((hZ.1.moved hW.alike).kept hS.2.1).narrow hFc
    · rw [hU]
      exact ((hZ.2.1.moved hW.alike).kept hS.2.1).narrow hFc
  have hblind : FrameBlind (va_Pc ((.inr (.inr o) :: as : List PV).map (tV ad)) (fun U => U.heap.size = H.size ∧ va_P D vwCl (wsOfC ad cI cZ cJ cW cP w) U.heap ∧ va_K D vwCl (tysOf cI cZ cJ cW cP) U ∧ va_D (fun _ => True) (wsOfC ad cI cZ cJ cW cP w) ∧ hZs ad (va_A (wsOfC ad cI cZ cJ cW cP w) H.size) U)) := by
    rintro a U g mk ⟨q0, q1, qP, qK, qD, qZ⟩
    exact ⟨q0, q1, qP, va_K.moved (u := U) (U := U.calling g mk a) (Vm.Alike.refl U.vm) qK, qD, qZ.1.moved (U := U.calling g mk a) (Vm.Alike.refl U.vm), qZ.2.1.moved (U := U.calling g mk a) (Vm.Alike.refl U.vm), va_Nw.same rfl (U := U.calling g mk a) rfl qZ.2.2⟩
  obtain ⟨q0, hq, hw⟩ := ws_atC (ad := ad) (cI := cI) (cZ := cZ) (cJ := cJ) (cW := cW) (cP := cP) (w := w) ho
  have hcell : cellOf ad cI cZ cJ cW cP w o = .inr (shc o.2, fldL ad w o) := by unfold cellOf; rw [hk1]; rfl
  rw [hcell] at hw
  have hpl : ∀ sig, parseMethodDescriptor (mY mi).desc = some sig → (as.map (tV ad)).length = sig.parameters.length := by
    intro sig hsig
    have h3 := okM_n hmi
    rw [hsig, hs] at h3
    have h3 : sig.parameters.length = mN mi - 1 := Option.some.inj h3
    rw [List.length_map, h3, ← hn]; rfl
  have hM := MetXC (XM_ofC l h) hmi (by exact ⟨Or.inl ho, hoAs⟩) hc2 D cI cZ cJ cW cP ad H.size
  have hrun := va_runV (C := (mY mi).cls) (b := ad o) (As := as.map (tV ad)) (rest := rest) (g := F0 m pc ls ((as.map (tV ad)).reverse ++ .ref (ad o) :: rest)) (p := p) (e := e) (R := R) (below := below) (meth := meth) (locs := locs) (cells := cells) (slots := slots) (nL := nL) (n := (as.map (tV ad)).length) (own := own) (index := idx) (bytes := mB mi) (maxL := mM mi) (ret := mR mi) ⟨hx, hb, hml, hown, hts⟩ hM ⟨⟨rfl, rfl, hR.1, hR.2, pay_in hts (gT_cons (in_gT (mc_all mi hmi) rfl)), List.mem_cons_self, G (mc_all mi hmi) rfl, G (mW_in hmi (by unfold mW; rw [hs]; simp)) rfl, okM_h hmi, hpl, hts _ hlink⟩, G (mW_in hmi (by unfold mW; rw [hs]; simp)) rfl, G (mW_in hmi (by unfold mW; rw [hs]; simp)) rfl⟩ ⟨hblind, (by
      obtain ⟨cell, g1, g2, g3⟩ := va_recv hK hPl (cl_at hci) hw
      exact ⟨cell, g1, g2, by rw [← hmo]; exact g3⟩), fun U hU hW => ⟨rfl, hpre U hU hW⟩⟩ rfl rfl hls rfl (lv_room hst) hdg hf0
  have e1 : QM (BMC D cI cZ cJ cW cP ad (va_A (wsOfC ad cI cZ cJ cW cP w) H.size)) mi (va_A (wsOfC ad cI cZ cJ cW cP w) H.size) (kV k) = va_Qv (fun u : PW => kV k (.inl 0) u) (BMC D cI cZ cJ cW cP ad (va_A (wsOfC ad cI cZ cJ cW cP w) H.size)) (va_A (wsOfC ad cI cZ cJ cW cP w) H.size) := by
    unfold QM; rw [hz]; rfl
  rw [e1] at hrun
  refine va_callv hrun hS (fun q _ hq => hFc q hq) hFc (fun u t H1 locs1 ht hvm hw hB hz hk hS => ?_)
  obtain ⟨j1, j2⟩ := b_join2 hP hD hFc hk (by rw [← ht]; exact hB.1) hB.2.2
  exact kk u H1 locs1 hw j1 j2 hS
theorem b_methIM {mi nL : Nat} {o : Ob} {as : List PV} {w : PW} {k : Int32 → PW → Prop} {X : va_W} {cI cZ cJ cW cP : ClassId} {ad : AD} {own : String}
    (h : Cl mi (.inr (.inr o) :: as) w (kI k)) (hmi : mi < 187) (hs : mS mi = false) (hz : (mI mi).1 = 1 ∨ (mI mi).1 = 3) (hk1 : shk o.2 = 1) (hmo : cR (shc o.2) = (mY mi).cls) (hci : shc o.2 < 11) (ho : o ∈ objsM) (hoAs : okTM as) (hc2 : (expd (.inr (.inr o) :: as)).length ≤ mM mi) (hn : as.length + 1 = mN mi)
    (hx : p.tables.exec = Jvm.exec) (hb : c.code = cc) (hml : c.maxLocals = nL) (hown : s.vm.findClass own = some m.cls) (hts : ∀ w ∈ gT, w.before args s = true) (hK : va_K D vwCl (tysOf cI cZ cJ cW cP) s) (hZ : hZs ad A s) (hP : va_P D vwCl (wsOfM ad cI cZ cJ cW cP w ++ X) H) (hD : va_D A (wsOfM ad cI cZ cJ cW cP w ++ X)) (hS : va_S A s.heap H locs) (hA : ∀ q, s.heap.size ≤ q → A q)
    (hlink : Cond.methodLink own idx (mY mi) ∈ gT) (hR : mF mi + 1 ≤ R.frames ∧ 8 + (mM mi + 11) + mO mi ≤ R.locals) (hls : ls.size = nL) (hst : (rest.map fun v => v.category).sum ≤ 8) (hdg : decode cc pc = .ok (.invokevirtual idx, 3)) (hf0 : cells ≤ R.cells ∧ slots ≤ R.slots)
    (kk : ∀ (x : Int32) (w' : PW) (H1 : Heap) (locs1 : List Loc), k x w' → va_P D vwCl (wsOfM ad cI cZ cJ cW cP w' ++ X) H1 → va_D A (wsOfM ad cI cZ cJ cW cP w' ++ X) → va_S A s.heap H1 locs1 → W p l e R s m args below meth c H1 locs1 cells slots Q (F0 m (pc + 3) ls (.int x :: rest))) :
    W p l e R s m args below meth c H locs cells slots Q (F0 m pc ls ((as.map (tV ad)).reverse ++ .ref (ad o) :: rest)) := by
  obtain ⟨hPl, hDl⟩ := b_left hP hD
  have G : ∀ {w : Cond}, w ∈ lw_tbl → goodWord w = true → w.before args s = true := fun h1 h2 => hts _ (in_gT h1 h2)
  have hFc : ∀ z, va_A (wsOfM ad cI cZ cJ cW cP w) H.size z → A z := by
    rintro z (⟨k, e2, h⟩ | h)
    · exact hDl.2 k _ h
    · exact hA z (Nat.le_trans hS.1 h)
  have hpre : ∀ U : State, U.heap = H → s.WarmedH U.vm → U.heap.size = H.size ∧ va_P D vwCl (wsOfM ad cI cZ cJ cW cP w) U.heap ∧ va_K D vwCl (tysOf cI cZ cJ cW cP) U ∧ va_D (fun _ => True) (wsOfM ad cI cZ cJ cW cP w) ∧ hZs ad (va_A (wsOfM ad cI cZ cJ cW cP w) H.size) U := by
    intro U hU hW
    refine ⟨by rw [hU], by rw [hU]; exact hPl, va_K.moved hW.alike hK, hDl.weaken (fun _ _ _ _ => trivial), ?_, ?_, va_Nw.warmM hW hZ.2.2⟩
    · rw [hU]
      exact ((hZ.1.moved hW.alike).kept hS.2.1).narrow hFc
    · rw [hU]
      exact ((hZ.2.1.moved hW.alike).kept hS.2.1).narrow hFc
  have hblind : FrameBlind (va_Pc ((.inr (.inr o) :: as : List PV).map (tV ad)) (fun U => U.heap.size = H.size ∧ va_P D vwCl (wsOfM ad cI cZ cJ cW cP w) U.heap ∧ va_K D vwCl (tysOf cI cZ cJ cW cP) U ∧ va_D (fun _ => True) (wsOfM ad cI cZ cJ cW cP w) ∧ hZs ad (va_A (wsOfM ad cI cZ cJ cW cP w) H.size) U)) := by
    rintro a U g mk ⟨q0, q1, qP, qK, qD, qZ⟩
    exact ⟨q0, q1, qP, va_K.moved (u := U) (U := U.calling g mk a) (Vm.Alike.refl U.vm) qK, qD, qZ.1.moved (U := U.calling g mk a) (Vm.Alike.refl U.vm), qZ.2.1.moved (U := U.calling g mk a) (Vm.Alike.refl U.vm), va_Nw.same rfl (U := U.calling g mk a) rfl qZ.2.2⟩
  obtain ⟨q0, hq, hw⟩ := ws_atM (ad := ad) (cI := cI) (cZ := cZ) (cJ := cJ) (cW := cW) (cP := cP) (w := w) ho
  have hcell : cellOf ad cI cZ cJ cW cP w o = .inr (shc o.2, fldL ad w o) := by unfold cellOf; rw [hk1]; rfl
  rw [hcell] at hw
  have hpl : ∀ sig, parseMethodDescriptor (mY mi).desc = some sig → (as.map (tV ad)).length = sig.parameters.length := by
    intro sig hsig
    have h3 := okM_n hmi
    rw [hsig, hs] at h3
    have h3 : sig.parameters.length = mN mi - 1 := Option.some.inj h3
    rw [List.length_map, h3, ← hn]; rfl
  have hM := MetXM (XM_ofM l h) hmi (by exact ⟨Or.inl ho, hoAs⟩) hc2 D cI cZ cJ cW cP ad H.size
  have hrun := va_runV (C := (mY mi).cls) (b := ad o) (As := as.map (tV ad)) (rest := rest) (g := F0 m pc ls ((as.map (tV ad)).reverse ++ .ref (ad o) :: rest)) (p := p) (e := e) (R := R) (below := below) (meth := meth) (locs := locs) (cells := cells) (slots := slots) (nL := nL) (n := (as.map (tV ad)).length) (own := own) (index := idx) (bytes := mB mi) (maxL := mM mi) (ret := mR mi) ⟨hx, hb, hml, hown, hts⟩ hM ⟨⟨rfl, rfl, hR.1, hR.2, pay_in hts (gT_cons (in_gT (mc_all mi hmi) rfl)), List.mem_cons_self, G (mc_all mi hmi) rfl, G (mW_in hmi (by unfold mW; rw [hs]; simp)) rfl, okM_h hmi, hpl, hts _ hlink⟩, G (mW_in hmi (by unfold mW; rw [hs]; simp)) rfl, G (mW_in hmi (by unfold mW; rw [hs]; simp)) rfl⟩ ⟨hblind, (by
      obtain ⟨cell, g1, g2, g3⟩ := va_recv hK hPl (cl_at hci) hw
      exact ⟨cell, g1, g2, by rw [← hmo]; exact g3⟩), fun U hU hW => ⟨rfl, hpre U hU hW⟩⟩ rfl rfl hls rfl (lv_room hst) hdg hf0
  have e1 : QM (BMM D cI cZ cJ cW cP ad (va_A (wsOfM ad cI cZ cJ cW cP w) H.size)) mi (va_A (wsOfM ad cI cZ cJ cW cP w) H.size) (kI k) = va_Qi (fun x u => kI k (.inl x) u) (BMM D cI cZ cJ cW cP ad (va_A (wsOfM ad cI cZ cJ cW cP w) H.size)) (va_A (wsOfM ad cI cZ cJ cW cP w) H.size) := by
    unfold QM; rcases hz with hz | hz <;> (rw [hz]; rfl)
  rw [e1] at hrun
  refine va_calli hrun hS (fun q _ hq => hFc q hq) hFc (fun x u t H1 locs1 ht hvm hw hB hz hk hS => ?_)
  obtain ⟨j1, j2⟩ := b_join2 hP hD hFc hk (by rw [← ht]; exact hB.1) hB.2.2
  exact kk x u H1 locs1 hw j1 j2 hS
end BMETH

/-! the class's objects alone: what Wp says, the machine does -/
def objsC : List Ob := [(0, 0), (0, 1), (0, 2), (0, 3), (0, 4), (0, 5), (0, 6), (0, 7), (0, 8), (0, 9), (0, 10), (0, 11), (0, 12), (0, 13), (0, 14), (0, 15), (0, 16), (0, 17), (0, 18), (0, 19), (0, 20), (0, 25), (0, 26), (0, 27), (0, 28), (0, 29), (0, 30), (0, 31), (0, 32), (1, 40), (2, 40), (3, 40), (4, 40), (5, 40), (6, 40), (7, 40), (8, 40), (1, 41), (2, 41), (3, 41), (4, 41), (5, 41), (6, 41), (7, 41), (8, 41), (1, 42), (2, 42), (3, 42), (4, 42), (5, 42), (6, 42), (7, 42), (8, 42), (1, 43), (2, 43), (3, 43), (4, 43), (5, 43), (6, 43), (7, 43), (8, 43), (1, 44), (2, 44), (3, 44), (4, 44), (5, 44), (6, 44), (7, 44), (8, 44), (1, 45), (2, 45), (3, 45), (4, 45), (5, 45), (6, 45), (7, 45), (8, 45), (1, 46), (2, 46), (3, 46), (4, 46), (5, 46), (6, 46), (7, 46), (8, 46), (1, 47), (2, 47), (3, 47), (4, 47), (5, 47), (6, 47), (7, 47), (8, 47), (1, 48), (2, 48), (3, 48), (4, 48), (5, 48), (6, 48), (7, 48), (8, 48), (1, 49), (2, 49), (3, 49), (4, 49), (5, 49), (6, 49), (7, 49), (8, 49), (1, 50), (2, 50), (3, 50), (4, 50), (5, 50), (6, 50), (7, 50), (8, 50), (1, 51), (2, 51), (3, 51), (4, 51), (5, 51), (6, 51), (7, 51), (8, 51), (1, 52), (2, 52), (3, 52), (4, 52), (5, 52), (6, 52), (7, 52), (8, 52), (1, 53), (2, 53), (3, 53), (4, 53), (5, 53), (6, 53), (7, 53), (8, 53), (99, 54), (102, 54), (103, 54), (104, 54), (105, 54), (106, 54), (107, 54), (108, 54), (109, 54), (110, 54), (111, 54), (112, 54), (113, 54), (114, 54), (115, 54), (116, 54), (117, 54), (99, 55), (102, 55), (103, 55), (104, 55), (105, 55), (106, 55), (107, 55), (108, 55), (109, 55), (110, 55), (111, 55), (112, 55), (113, 55), (114, 55), (115, 55), (116, 55), (117, 55), (99, 56), (102, 56), (103, 56), (104, 56), (105, 56), (106, 56), (107, 56), (108, 56), (109, 56), (110, 56), (111, 56), (112, 56), (113, 56), (114, 56), (115, 56), (116, 56), (117, 56), (99, 57), (102, 57), (103, 57), (104, 57), (105, 57), (106, 57), (107, 57), (108, 57), (109, 57), (110, 57), (111, 57), (112, 57), (113, 57), (114, 57), (115, 57), (116, 57), (117, 57), (1, 62), (3, 62), (4, 62), (5, 62), (6, 62), (7, 62), (8, 62), (1, 63), (3, 63), (4, 63), (5, 63), (6, 63), (7, 63), (8, 63), (1, 64), (3, 64), (4, 64), (5, 64), (6, 64), (7, 64), (8, 64), (1, 65), (3, 65), (4, 65), (5, 65), (6, 65), (7, 65), (8, 65), (1, 66), (3, 66), (4, 66), (5, 66), (6, 66), (7, 66), (8, 66), (1, 67), (3, 67), (4, 67), (5, 67), (6, 67), (7, 67), (8, 67), (1, 68), (3, 68), (4, 68), (5, 68), (6, 68), (7, 68), (8, 68), (0, 70), (1, 70), (2, 70), (3, 70), (4, 70), (5, 70), (0, 71), (1, 71), (2, 71), (3, 71), (4, 71), (5, 71), (0, 80), (1, 80), (2, 80), (3, 80), (0, 81), (1, 81), (2, 81), (3, 81), (0, 82), (1, 82), (2, 82), (3, 82)]
theorem objs_nodupC : objsC.Nodup := by decide +kernel
def wsOfC (ad : AD) (cI cZ cJ cW cP : ClassId) (w : PW) : va_W := objsC.map (fun o => (ad o, cellOf ad cI cZ cJ cW cP w o))
def okVC (v : PV) : Prop := match v with | .inr (.inr o) => o ∈ objsC ∨ o = (0, 33) | _ => True
def okTC : List PV → Prop
  | [] => True
  | v :: t => okVC v ∧ okTC t
def okLC (L : LV) : Prop := ∀ i v, lk L i = some v → okVC v
theorem okL_setC {L : LV} {i : Nat} {v : PV} (h : okLC L) (hv : okVC v) : okLC (lset L i v) := fun j u hj => by
  rcases lk_lset hj with ⟨-, rfl⟩ | ⟨-, h2⟩
  · exact hv
  · exact h j u h2
theorem okT_memC {as : List PV} (h : okTC as) : ∀ v ∈ as, okVC v := by
  induction as with
  | nil => intro v hv; cases hv
  | cons a t ih =>
    intro v hv
    rcases List.mem_cons.mp hv with rfl | hv
    · exact h.1
    · exact ih h.2 v hv
theorem okT_ofC {as : List PV} (h : ∀ v ∈ as, okVC v) : okTC as := by
  induction as with
  | nil => trivial
  | cons a t ih => exact ⟨h a List.mem_cons_self, ih fun v hv => h v (List.mem_cons_of_mem _ hv)⟩
theorem ws_atC {ad : AD} {cI cZ cJ cW cP : ClassId} {w : PW} {o : Ob} (ho : o ∈ objsC) : ∃ q0 : Nat, objsC[q0]? = some o ∧ (wsOfC ad cI cZ cJ cW cP w)[q0]? = some (ad o, cellOf ad cI cZ cJ cW cP w o) := by
  obtain ⟨q0, hq⟩ := List.getElem?_of_mem ho
  exact ⟨q0, hq, by rw [wsOfC, List.getElem?_map, hq]; rfl⟩
theorem ws_setC {ad : AD} {cI cZ cJ cW cP : ClassId} {w w' : PW} {o : Ob} {q0 : Nat} (hq : objsC[q0]? = some o) (hne : ∀ o', o' ≠ o → cellOf ad cI cZ cJ cW cP w' o' = cellOf ad cI cZ cJ cW cP w o') : (wsOfC ad cI cZ cJ cW cP w).set q0 (ad o, cellOf ad cI cZ cJ cW cP w' o) = wsOfC ad cI cZ cJ cW cP w' := by
  apply List.ext_getElem?
  intro i
  rw [List.getElem?_set]
  simp only [wsOfC, List.length_map, List.getElem?_map]
  by_cases hi : q0 = i
  · subst hi
    have hl : q0 < objsC.length := (List.getElem?_eq_some_iff.mp hq).1
    rw [if_pos rfl, if_pos hl, hq]
    rfl
  · rw [if_neg hi]
    cases h : objsC[i]? with
    | none => rfl
    | some o' =>
      have hn : o' ≠ o := by
        intro e
        subst e
        exact hi ((List.getElem?_inj (List.getElem?_eq_some_iff.mp hq).1 objs_nodupC).mp (hq.trans h.symm))
      show some (ad o', _) = some (ad o', _)
      rw [hne o' hn]
def refOKC (o : Ob) : Bool := match shk o.2 with
  | 1 => (List.range (cN (shc o.2))).all (fun k => match fd (shc o.2) k with | none => true | some (f, j) => decide ((f o.1, j) ∈ objsC))
  | 5 => (List.range (len o.1 o.2)).all (fun i => decide ((i, rfk (shc o.2)) ∈ objsC))
  | _ => true
theorem objs_refC : objsC.all refOKC = true := by decide +kernel
theorem fld_okC {o : Ob} {k : Nat} {f : Nat → Nat} {j : Nat} (ho : o ∈ objsC) (h1 : shk o.2 = 1) (hk : k < cN (shc o.2)) (hf : fd (shc o.2) k = some (f, j)) : (f o.1, j) ∈ objsC := by
  have := List.all_eq_true.mp objs_refC o ho
  rw [refOKC, h1] at this
  have := List.all_eq_true.mp this k (List.mem_range.mpr hk)
  rw [hf] at this
  exact of_decide_eq_true this
theorem row_okC {o : Ob} {i : Nat} (ho : o ∈ objsC) (h1 : shk o.2 = 5) (hi : i < len o.1 o.2) : (i, rfk (shc o.2)) ∈ objsC := by
  have := List.all_eq_true.mp objs_refC o ho
  rw [refOKC, h1] at this
  exact of_decide_eq_true (List.all_eq_true.mp this i (List.mem_range.mpr hi))
theorem objs_cC : objsC.all (fun o => decide (shk o.2 = 1 → shc o.2 < 11)) = true := by decide +kernel
def BMC (D : va_G) (cI cZ cJ cW cP : ClassId) (ad : AD) (A : Nat → Prop) : PW → State → Prop := fun u t => va_P D vwCl (wsOfC ad cI cZ cJ cW cP u) t.heap ∧ va_K D vwCl (tysOf cI cZ cJ cW cP) t ∧ va_D A (wsOfC ad cI cZ cJ cW cP u)
def XMC (l : Launch) : XT := fun mi pc L st w Q =>
  ∀ (D : va_G) (cI cZ cJ cW cP : ClassId) (ad : AD) (p : Program) (e : Env) (s : State) (m : MethodId) (args : Array Value) (below : List Frame) (meth : Method) (c : Code) (A : Nat → Prop) (H : Heap) (locs : List Loc) (ls : Array Slot),
  mi < 187 → p.tables.exec = Jvm.exec → c.code = mB mi → meth.sig.returnType = mR mi → c.maxLocals = mM mi → s.vm.findClass (mY mi).cls = some m.cls → (∀ w ∈ gT, w.before args s = true) → meth.locks = false →
  va_K D vwCl (tysOf cI cZ cJ cW cP) s → hZs ad A s → (∀ q, s.heap.size ≤ q → A q) →
  va_P D vwCl (wsOfC ad cI cZ cJ cW cP w) H → va_D A (wsOfC ad cI cZ cJ cW cP w) → va_S A s.heap H locs →
  lv_has ls (mM mi) (al ad 0 L) → L.length = mM mi → okLC L → okTC st →
  W p l e (rm mi) s m args below meth c H locs 0 0 (MQ below (QM (BMC D cI cZ cJ cW cP ad A) mi A Q) args s 0 0 A) (F0 m pc ls (st.map (tV ad)))
theorem XM_maskC (l : Launch) : MaskC (XMC l) := by
  intro mk mi pc L st w Q h D cI cZ cJ cW cP ad p e s m args below meth c A H locs ls h1 h2 h3 h4 h5 h6 h7 h8 h9 hZ hA hP hD hS hl hn hoL hoS
  exact h D cI cZ cJ cW cP ad p e s m args below meth c A H locs ls h1 h2 h3 h4 h5 h6 h7 h8 h9 hZ hA hP hD hS (lv_less hl (al_less fun j u hj => lk_mask hj)) (by rw [mask_length]; exact hn) (fun i v hv => hoL i v (lk_mask hv)) hoS
theorem wq_atC {ad : AD} {cI cZ cJ cW cP : ClassId} {w : PW} {k : Nat} {q : Nat × va_E} : (wsOfC ad cI cZ cJ cW cP w)[k]? = some q ↔ ∃ o, objsC[k]? = some o ∧ (ad o, cellOf ad cI cZ cJ cW cP w o) = q := by
  unfold wsOfC
  rw [List.getElem?_map, Option.map_eq_some_iff]
theorem XM_eqC (l : Launch) : EqC (XMC l) := by
  intro mi pc L st w w' Q hw h D cI cZ cJ cW cP ad p e s m args below meth c A H locs ls h1 h2 h3 h4 h5 h6 h7 h8 h9 hZ hA hP hD hS hl hn hoL hoS
  refine h D cI cZ cJ cW cP ad p e s m args below meth c A H locs ls h1 h2 h3 h4 h5 h6 h7 h8 h9 hZ hA ?_ ?_ hS hl hn hoL hoS
  · intro k q hq
    obtain ⟨o, ho, rfl⟩ := wq_atC.mp hq
    exact cell_eq hw o (hP k _ (wq_atC.mpr ⟨o, ho, rfl⟩))
  · refine ⟨fun i j a b ha hb he => ?_, fun k q hq => ?_⟩
    · obtain ⟨o, ho, rfl⟩ := wq_atC.mp ha
      obtain ⟨o', ho', rfl⟩ := wq_atC.mp hb
      exact hD.1 i j (ad o, cellOf ad cI cZ cJ cW cP w o) (ad o', cellOf ad cI cZ cJ cW cP w o') (wq_atC.mpr ⟨o, ho, rfl⟩) (wq_atC.mpr ⟨o', ho', rfl⟩) he
    · obtain ⟨o, ho, rfl⟩ := wq_atC.mp hq
      exact hD.2 k (ad o, cellOf ad cI cZ cJ cW cP w o) (wq_atC.mpr ⟨o, ho, rfl⟩)
theorem XM_consC (l : Launch) : ConsC (XMC l) := by
  intro mi pc L st w Q Q' hq h D cI cZ cJ cW cP ad p e s m args below meth c A H locs ls h1 h2 h3 h4 h5 h6 h7 h8 h9 hZ hA hP hD hS hl hn hoL hoS
  refine W.mono ?_ (h D cI cZ cJ cW cP ad p e s m args below meth c A H locs ls h1 h2 h3 h4 h5 h6 h7 h8 h9 hZ hA hP hD hS hl hn hoL hoS)
  rintro t ⟨o, a1, a2, a3, a4⟩
  exact ⟨o, a1, a2, QM.mono hq a3, a4⟩
theorem MetXC {l : Launch} {mj : Nat} {as : List PV} {w : PW} {Q : PQ} (h : XMC l mj 0 (mkL mj as) [] w Q) (hj : mj < 187) (ho : okTC as) (hn : (expd as).length ≤ mM mj) (D : va_G) (cI cZ cJ cW cP : ClassId) (ad : AD) (sz : Nat) :
    Met l (mY mj) (Cond.code (mY mj) (mB mj) (mM mj) (mR mj) :: gT) (rm mj) (va_Pc (as.map (tV ad)) (fun U => U.heap.size = sz ∧ va_P D vwCl (wsOfC ad cI cZ cJ cW cP w) U.heap ∧ va_K D vwCl (tysOf cI cZ cJ cW cP) U ∧ va_D (fun _ => True) (wsOfC ad cI cZ cJ cW cP w) ∧ hZs ad (va_A (wsOfC ad cI cZ cJ cW cP w) sz) U))
      (QM (BMC D cI cZ cJ cW cP ad (va_A (wsOfC ad cI cZ cJ cW cP w) sz)) mj (va_A (wsOfC ad cI cZ cJ cW cP w) sz) Q) 0 0 (va_A (wsOfC ad cI cZ cJ cW cP w) sz) := by
  refine Met.ofW (cc := mB mj) (maxL := mM mj) (ret := mR mj) (okM_p hj) rfl ?_
  intro p e s m args below meth c s₁ B hml hv
  obtain ⟨rfl, hsz, hP, hK, hD0, hZ⟩ := hv
  have hx := B.exec
  have hb := B.bytes
  have hr := B.returns
  have hts := atoms_spec (ws := Cond.code (mY mj) (mB mj) (mM mj) (mR mj) :: gT) B.pre
  have hown : s.vm.findClass (mY mj).cls = some m.cls := findClass_of_methodNamed B.named
  have hlocks := B.notSynchronized
  subst hsz
  have hD := hD0.self (sz := s.heap.size)
  have hl := lv_entry (as.map (tV ad)) (n := mM mj) (by rw [expd_len]; exact hn)
  rw [lg_entry_eq]
  have hmi := okM_i hj
  refine h D cI cZ cJ cW cP ad p e s m _ below meth c _ s.heap [] _ hj hx hb hr hml hown (fun w hw => hts w (List.mem_cons_of_mem _ hw)) hlocks hK hZ (fun q hq => Or.inr hq) hP hD va_S.rf ?_ ?_ ?_ trivial
  · refine lv_less hl ?_
    rintro ⟨j, u⟩ hq
    obtain ⟨x, -, h1, rfl⟩ := al_of hq
    have h2 := (expd_args (ad := ad) (i := 0) (lk_padL h1)).1
    simpa using h2
  · show (padL (mI mj).2 (expd as)).length = mM mj
    rw [padL_length, hmi]
  · intro i v hv
    exact okT_memC ho v (expd_args (ad := ad) (i := 0) (lk_padL hv)).2
theorem objs_n6C : objsC.all (fun o => decide (shk o.2 ≠ 6)) = true := by decide +kernel
set_option maxHeartbeats 4000000 in
theorem XM_stepC (l : Launch) : StepC (XMC l) := by
  intro Xc X1 hXc hX1 mi pc L st w Q h D cI cZ cJ cW cP ad p e s m args below meth c A H locs ls hmi hx hb hr hml hown hts hlocks hK hZ hA hP hD hS hl hn hoL hoS
  have K : ∀ (pc' : Nat) (L' : LV) (st' : List PV) (w' : PW) (H' : Heap) (locs' : List Loc) (ls' : Array Slot), X1 mi pc' L' st' w' Q → va_P D vwCl (wsOfC ad cI cZ cJ cW cP w') H' → va_D A (wsOfC ad cI cZ cJ cW cP w') → va_S A s.heap H' locs' → lv_has ls' (mM mi) (al ad 0 L') → L'.length = mM mi → okLC L' → okTC st' →
      W p l e (rm mi) s m args below meth c H' locs' 0 0 (MQ below (QM (BMC D cI cZ cJ cW cP ad A) mi A Q) args s 0 0 A) (F0 m pc' ls' (st'.map (tV ad))) :=
    fun pc' L' st' w' H' locs' ls' hX a1 a2 a3 a4 a5 a6 a7 => hX1 _ _ _ _ _ _ hX D cI cZ cJ cW cP ad p e s m args below meth c A H' locs' ls' hmi hx hb hr hml hown hts hlocks hK hZ hA a1 a2 a3 a4 a5 a6 a7
  unfold F at h
  cases he : lkE (cdl mi) pc with
  | none => rw [he] at h; exact h.elim
  | some q =>
  obtain ⟨ins, n, a, b, v, pp⟩ := q
  rw [he] at h
  have ok0 := okE_of hmi he
  obtain ⟨hd, ok⟩ : decode (mB mi) pc = .ok (ins, n) ∧ okX mi pc ins n a b v pp = true := by
    have := ok0
    unfold okE at this
    rw [Bool.and_eq_true, decide_eq_true_eq] at this
    exact this
  have G : ∀ {w : Cond}, w ∈ lw_tbl → goodWord w = true → w.before args s = true := fun h1 h2 => hts _ (in_gT h1 h2)
  have fin : ∀ (mj : Nat) (as r : List PV) (args' : Array Value), (match (mI mj).1 with | 0 => Xc mj 0 (mkL mj as) [] w (kV fun w' => X1 mi (pc + 3) L r w' Q) | 2 => Xc mj 0 (mkL mj as) [] w (kL fun x w' => X1 mi (pc + 3) L (.inr (.inl x) :: r) w' Q) | _ => Xc mj 0 (mkL mj as) [] w (kI fun x w' => X1 mi (pc + 3) L (.inl x :: r) w' Q)) → okTC r →
      (∀ Q', XMC l mj 0 (mkL mj as) [] w Q' → va_Run p l e (rm mi) s m args below meth c H locs 0 0 0 0 (F0 m pc ls (st.map (tV ad))) (r.map (tV ad)) (QM (BMC D cI cZ cJ cW cP ad (va_A (wsOfC ad cI cZ cJ cW cP w) H.size)) mj (va_A (wsOfC ad cI cZ cJ cW cP w) H.size) Q' args') (va_A (wsOfC ad cI cZ cJ cW cP w) H.size)) →
      W p l e (rm mi) s m args below meth c H locs 0 0 (MQ below (QM (BMC D cI cZ cJ cW cP ad A) mi A Q) args s 0 0 A) (F0 m pc ls (st.map (tV ad))) := by
    intro mj as r args' hm hor hrun
    have hf : ∀ q, va_A (wsOfC ad cI cZ cJ cW cP w) H.size q → A q := by
      rintro q (⟨k, e, hk⟩ | hq)
      · exact hD.2 k _ hk
      · exact hA q (Nat.le_trans hS.1 hq)
    unfold QM at hrun
    generalize (mI mj).1 = z at hm hrun
    rcases z with _ | _ | _ | z
    · refine va_callv (hrun _ (hXc _ _ _ _ _ _ hm)) hS (fun q _ hq => hf q hq) hf (fun u t H1 locs1 ht hvm hw hB hz hk hS => ?_)
      exact K _ _ _ _ _ _ _ hw (by rw [← ht]; exact hB.1) (hB.2.2.weaken (fun _ q _ hq => hf q.1 hq)) hS hl hn hoL hor
    · refine va_calli (hrun _ (hXc _ _ _ _ _ _ hm)) hS (fun q _ hq => hf q hq) hf (fun x u t H1 locs1 ht hvm hw hB hz hk hS => ?_)
      exact K _ _ _ _ _ _ _ hw (by rw [← ht]; exact hB.1) (hB.2.2.weaken (fun _ q _ hq => hf q.1 hq)) hS hl hn hoL ⟨trivial, hor⟩
    · refine va_calll (hrun _ (hXc _ _ _ _ _ _ hm)) hS (fun q _ hq => hf q hq) hf (fun x u t H1 locs1 ht hvm hw hB hz hk hS => ?_)
      exact K _ _ _ _ _ _ _ hw (by rw [← ht]; exact hB.1) (hB.2.2.weaken (fun _ q _ hq => hf q.1 hq)) hS hl hn hoL ⟨trivial, hor⟩
    · refine va_calli (hrun _ (hXc _ _ _ _ _ _ hm)) hS (fun q _ hq => hf q hq) hf (fun x u t H1 locs1 ht hvm hw hB hz hk hS => ?_)
      exact K _ _ _ _ _ _ _ hw (by rw [← ht]; exact hB.1) (hB.2.2.weaken (fun _ q _ hq => hf q.1 hq)) hS hl hn hoL ⟨trivial, hor⟩
  have hpre : ∀ U : State, U.heap = H → s.WarmedH U.vm → U.heap.size = H.size ∧ va_P D vwCl (wsOfC ad cI cZ cJ cW cP w) U.heap ∧ va_K D vwCl (tysOf cI cZ cJ cW cP) U ∧ va_D (fun _ => True) (wsOfC ad cI cZ cJ cW cP w) ∧ hZs ad (va_A (wsOfC ad cI cZ cJ cW cP w) H.size) U := by
    intro U hU hW
    have hf : ∀ q, va_A (wsOfC ad cI cZ cJ cW cP w) H.size q → A q := by
      rintro q (⟨k, e, hk⟩ | hq)
      · exact hD.2 k _ hk
      · exact hA q (Nat.le_trans hS.1 hq)
    refine ⟨by rw [hU], by rw [hU]; exact hP, va_K.moved hW.alike hK, hD.weaken (fun _ _ _ _ => trivial), ?_, ?_, va_Nw.warmM hW hZ.2.2⟩
    · rw [hU]
      exact ((hZ.1.moved hW.alike).kept hS.2.1).narrow hf
    · rw [hU]
      exact ((hZ.2.1.moved hW.alike).kept hS.2.1).narrow hf
  have hblind : ∀ as : List PV, FrameBlind (va_Pc (as.map (tV ad)) (fun U => U.heap.size = H.size ∧ va_P D vwCl (wsOfC ad cI cZ cJ cW cP w) U.heap ∧ va_K D vwCl (tysOf cI cZ cJ cW cP) U ∧ va_D (fun _ => True) (wsOfC ad cI cZ cJ cW cP w) ∧ hZs ad (va_A (wsOfC ad cI cZ cJ cW cP w) H.size) U)) := by
    rintro as a U g mk ⟨q0, q1, qP, qK, qD, qZ⟩
    exact ⟨q0, q1, qP, va_K.moved (u := U) (U := U.calling g mk a) (Vm.Alike.refl U.vm) qK, qD, qZ.1.moved (U := U.calling g mk a) (Vm.Alike.refl U.vm), qZ.2.1.moved (U := U.calling g mk a) (Vm.Alike.refl U.vm), va_Nw.same rfl (U := U.calling g mk a) rfl qZ.2.2⟩
  have hcode : ∀ mj, mj < 187 → ∀ w ∈ Cond.code (mY mj) (mB mj) (mM mj) (mR mj) :: gT, ∀ (a' : Array Value) (U : State), s.WarmedH U.vm → w.before a' U = true := by
    intro mj hj
    refine pay_in hts fun w hw => ?_
    rcases List.mem_cons.mp hw with e | hw
    · subst e
      have h1 : Cond.code (mY mj) (mB mj) (mM mj) (mR mj) ∈ gT := in_gT (mc_all mj hj) rfl
      exact ⟨h1, goodGT h1⟩
    · exact ⟨hw, goodGT hw⟩
  cases ins
  case iload_n k =>
    dsimp only [FX] at h
    obtain ⟨ha, hn1⟩ : a = k.val ∧ n = 1 := by simpa [okX] using ok
    subst hn1
    cases hv : lk L a with
    | none => rw [hv] at h; exact h.elim
    | some u =>
      rw [hv] at h
      rcases u with x | x | x
      · exact lv_iload_n hx hb hd rfl (ha ▸ lv_get hl hv) (K _ _ _ _ _ _ _ h hP hD hS hl hn hoL ⟨trivial, hoS⟩)
      · exact h.elim
      · exact h.elim
  case iload k =>
    dsimp only [FX] at h
    obtain ⟨ha, hn1⟩ : a = k ∧ n = 2 := by simpa [okX] using ok
    subst hn1
    cases hv : lk L a with
    | none => rw [hv] at h; exact h.elim
    | some u =>
      rw [hv] at h
      rcases u with x | x | x
      · exact lv_iload hx hb hd (ha ▸ lv_get hl hv) (K _ _ _ _ _ _ _ h hP hD hS hl hn hoL ⟨trivial, hoS⟩)
      · exact h.elim
      · exact h.elim
  case lload_n k =>
    dsimp only [FX] at h
    obtain ⟨ha, hn1⟩ : a = k.val ∧ n = 1 := by simpa [okX] using ok
    subst hn1
    cases hv : lk L a with
    | none => rw [hv] at h; exact h.elim
    | some u =>
      rw [hv] at h
      rcases u with x | x | x
      · exact h.elim
      · exact lv_lload_n hx hb hd rfl (ha ▸ lv_get hl hv) (K _ _ _ _ _ _ _ h hP hD hS hl hn hoL ⟨trivial, hoS⟩)
      · exact h.elim
  case lload k =>
    dsimp only [FX] at h
    obtain ⟨ha, hn1⟩ : a = k ∧ n = 2 := by simpa [okX] using ok
    subst hn1
    cases hv : lk L a with
    | none => rw [hv] at h; exact h.elim
    | some u =>
      rw [hv] at h
      rcases u with x | x | x
      · exact h.elim
      · exact lv_lload hx hb hd (ha ▸ lv_get hl hv) (K _ _ _ _ _ _ _ h hP hD hS hl hn hoL ⟨trivial, hoS⟩)
      · exact h.elim
  case aload_n k =>
    dsimp only [FX] at h
    obtain ⟨ha, hn1⟩ : a = k.val ∧ n = 1 := by simpa [okX] using ok
    subst hn1
    cases hv : lk L a with
    | none => rw [hv] at h; exact h.elim
    | some u =>
      rw [hv] at h
      rcases u with x | x | x
      · exact h.elim
      · exact h.elim
      · exact lv_aload_n hx hb hd rfl (ha ▸ lv_get hl hv) (K _ _ _ _ _ _ _ h hP hD hS hl hn hoL ⟨hoL _ _ hv, hoS⟩)
  case aload k =>
    dsimp only [FX] at h
    obtain ⟨ha, hn1⟩ : a = k ∧ n = 2 := by simpa [okX] using ok
    subst hn1
    cases hv : lk L a with
    | none => rw [hv] at h; exact h.elim
    | some u =>
      rw [hv] at h
      rcases u with x | x | x
      · exact h.elim
      · exact h.elim
      · exact lv_aload hx hb hd (ha ▸ lv_get hl hv) (K _ _ _ _ _ _ _ h hP hD hS hl hn hoL ⟨hoL _ _ hv, hoS⟩)
  case istore_n k =>
    dsimp only [FX] at h
    obtain ⟨ha, hn1⟩ : a = k.val ∧ n = 1 := by simpa [okX] using ok
    subst hn1
    rcases st with _ | ⟨(x | x | x), r⟩
    all_goals first | exact h.elim | (dsimp only at h) | skip
    cases hk : okst L a with
    | false => rw [hk] at h; exact h.elim
    | true =>
      rw [hk] at h
      refine lv_istore_n hx hb hd rfl hl (by have := okst_lt hk; omega) rfl (fun ls' hl' => ?_)
      subst ha
      exact (K _ _ _ _ _ _ _ h hP hD hS (lv_put hl' hk) (by rw [lset_length]; exact hn) (okL_setC hoL trivial) hoS.2)
  case istore k =>
    dsimp only [FX] at h
    obtain ⟨ha, hn1⟩ : a = k ∧ n = 2 := by simpa [okX] using ok
    subst hn1
    rcases st with _ | ⟨(x | x | x), r⟩
    all_goals first | exact h.elim | (dsimp only at h) | skip
    cases hk : okst L a with
    | false => rw [hk] at h; exact h.elim
    | true =>
      rw [hk] at h
      refine lv_istore hx hb hd hl (by have := okst_lt hk; omega) rfl (fun ls' hl' => ?_)
      subst ha
      exact (K _ _ _ _ _ _ _ h hP hD hS (lv_put hl' hk) (by rw [lset_length]; exact hn) (okL_setC hoL trivial) hoS.2)
  case astore_n k =>
    dsimp only [FX] at h
    obtain ⟨ha, hn1⟩ : a = k.val ∧ n = 1 := by simpa [okX] using ok
    subst hn1
    rcases st with _ | ⟨(x | x | x), r⟩
    all_goals first | exact h.elim | (dsimp only at h) | skip
    cases hk : okst L a with
    | false => rw [hk] at h; exact h.elim
    | true =>
      rw [hk] at h
      refine lv_astore_n hx hb hd rfl hl (by have := okst_lt hk; omega) rfl (fun ls' hl' => ?_)
      subst ha
      exact (K _ _ _ _ _ _ _ h hP hD hS (lv_put hl' hk) (by rw [lset_length]; exact hn) (okL_setC hoL hoS.1) hoS.2)
  case astore k =>
    dsimp only [FX] at h
    obtain ⟨ha, hn1⟩ : a = k ∧ n = 2 := by simpa [okX] using ok
    subst hn1
    rcases st with _ | ⟨(x | x | x), r⟩
    all_goals first | exact h.elim | (dsimp only at h) | skip
    cases hk : okst L a with
    | false => rw [hk] at h; exact h.elim
    | true =>
      rw [hk] at h
      refine lv_astore hx hb hd hl (by have := okst_lt hk; omega) rfl (fun ls' hl' => ?_)
      subst ha
      exact (K _ _ _ _ _ _ _ h hP hD hS (lv_put hl' hk) (by rw [lset_length]; exact hn) (okL_setC hoL hoS.1) hoS.2)
  case iinc k cst =>
    dsimp only [FX] at h
    obtain ⟨⟨ha, hn1⟩, hv⟩ : (a = k ∧ n = 3) ∧ Int32.ofInt cst = v := by simpa [okX] using ok
    subst hn1; subst ha; subst hv
    cases hv : lk L a with
    | none => rw [hv] at h; exact h.elim
    | some u =>
      rw [hv] at h
      rcases u with x | x | x
      · cases hk : okst L a with
        | false => rw [hk] at h; exact h.elim
        | true =>
          rw [hk] at h
          obtain ⟨q, hq⟩ := List.getElem?_of_mem (al_mem (ad := ad) (i := 0) hv)
          rw [Nat.zero_add] at hq
          refine lv_iinc hx hb hd hl hq rfl (by have := okst_lt hk; omega) rfl (fun ls' hl' => ?_)
          exact (K _ _ _ _ _ _ _ h hP hD hS (lv_put (v := .inl (x + Int32.ofInt cst)) hl' hk) (by rw [lset_length]; exact hn) (okL_setC hoL trivial) hoS)
      · exact h.elim
      · exact h.elim
  case iconst k =>
    dsimp only [FX] at h
    obtain ⟨hn1, hv⟩ : n = 1 ∧ Int32.ofInt k = v := by simpa [okX] using ok
    subst hn1
    exact lv_iconst hx hb hd hv (K _ _ _ _ _ _ _ h hP hD hS hl hn hoL ⟨trivial, hoS⟩)
  case bipush k =>
    dsimp only [FX] at h
    obtain ⟨hn1, hv⟩ : n = 2 ∧ (Int8.ofInt k).toInt32 = v := by simpa [okX] using ok
    subst hn1
    exact lv_bipush hx hb hd hv (K _ _ _ _ _ _ _ h hP hD hS hl hn hoL ⟨trivial, hoS⟩)
  case sipush k =>
    dsimp only [FX] at h
    obtain ⟨hn1, hv⟩ : n = 3 ∧ (Int16.ofInt k).toInt32 = v := by simpa [okX] using ok
    subst hn1
    exact lv_sipush hx hb hd hv (K _ _ _ _ _ _ _ h hP hD hS hl hn hoL ⟨trivial, hoS⟩)
  case lconst k =>
    dsimp only [FX] at h
    obtain ⟨hn1, hv⟩ : n = 1 ∧ Int64.ofNat k.val = v.toInt64 := by simpa [okX] using ok
    subst hn1
    exact lv_lconst hx hb hd hv (K _ _ _ _ _ _ _ h hP hD hS hl hn hoL ⟨trivial, hoS⟩)
  case ldc k =>
    dsimp only [FX] at h
    obtain ⟨hn1, hv⟩ : n = 2 ∧ lkT[pp]? = some (.constant (mY mi).cls k v) := by
      have := ok
      simp only [okX, Bool.and_eq_true, beq_iff_eq, decide_eq_true_eq] at this
      exact this
    subst hn1
    exact lv_ldc hx hb hown (G (lkT_in hv) rfl) hd (K _ _ _ _ _ _ _ h hP hD hS hl hn hoL ⟨trivial, hoS⟩)
  case ldc_w k =>
    dsimp only [FX] at h
    obtain ⟨hn1, hv⟩ : n = 3 ∧ lkT[pp]? = some (.constant (mY mi).cls k v) := by
      have := ok
      simp only [okX, Bool.and_eq_true, beq_iff_eq, decide_eq_true_eq] at this
      exact this
    subst hn1
    exact lv_ldcw hx hb hown (G (lkT_in hv) rfl) hd (K _ _ _ _ _ _ _ h hP hD hS hl hn hoL ⟨trivial, hoS⟩)
  case ldc2_w k =>
    dsimp only [FX] at h
    obtain ⟨hn1, hv⟩ : n = 3 ∧ lkT[pp]? = some (.constantLong (mY mi).cls k v.toInt64) := by
      have := ok
      simp only [okX, Bool.and_eq_true, beq_iff_eq, decide_eq_true_eq] at this
      exact this
    subst hn1
    exact lv_ldc2 hx hb hown (G (lkT_in hv) rfl) hd (K _ _ _ _ _ _ _ h hP hD hS hl hn hoL ⟨trivial, hoS⟩)
  case iadd =>
    dsimp only [FX] at h
    have hn1 : n = 1 := by simpa [okX] using ok
    subst hn1
    rcases st with _ | ⟨(y | y | y), (_ | ⟨(x | x | x), r⟩)⟩
    all_goals first | exact h.elim | (dsimp only at h) | skip
    exact lv_iadd hx hb hd (K _ _ _ _ _ _ _ h hP hD hS hl hn hoL ⟨trivial, hoS.2.2⟩)
  case isub =>
    dsimp only [FX] at h
    have hn1 : n = 1 := by simpa [okX] using ok
    subst hn1
    rcases st with _ | ⟨(y | y | y), (_ | ⟨(x | x | x), r⟩)⟩
    all_goals first | exact h.elim | (dsimp only at h) | skip
    exact lv_isub hx hb hd (K _ _ _ _ _ _ _ h hP hD hS hl hn hoL ⟨trivial, hoS.2.2⟩)
  case imul =>
    dsimp only [FX] at h
    have hn1 : n = 1 := by simpa [okX] using ok
    subst hn1
    rcases st with _ | ⟨(y | y | y), (_ | ⟨(x | x | x), r⟩)⟩
    all_goals first | exact h.elim | (dsimp only at h) | skip
    exact lv_imul hx hb hd (K _ _ _ _ _ _ _ h hP hD hS hl hn hoL ⟨trivial, hoS.2.2⟩)
  case iand =>
    dsimp only [FX] at h
    have hn1 : n = 1 := by simpa [okX] using ok
    subst hn1
    rcases st with _ | ⟨(y | y | y), (_ | ⟨(x | x | x), r⟩)⟩
    all_goals first | exact h.elim | (dsimp only at h) | skip
    exact lv_iand hx hb hd (K _ _ _ _ _ _ _ h hP hD hS hl hn hoL ⟨trivial, hoS.2.2⟩)
  case ior =>
    dsimp only [FX] at h
    have hn1 : n = 1 := by simpa [okX] using ok
    subst hn1
    rcases st with _ | ⟨(y | y | y), (_ | ⟨(x | x | x), r⟩)⟩
    all_goals first | exact h.elim | (dsimp only at h) | skip
    exact lv_ior hx hb hd (K _ _ _ _ _ _ _ h hP hD hS hl hn hoL ⟨trivial, hoS.2.2⟩)
  case ishl =>
    dsimp only [FX] at h
    have hn1 : n = 1 := by simpa [okX] using ok
    subst hn1
    rcases st with _ | ⟨(y | y | y), (_ | ⟨(x | x | x), r⟩)⟩
    all_goals first | exact h.elim | (dsimp only at h) | skip
    exact lv_ishl hx hb hd (K _ _ _ _ _ _ _ h hP hD hS hl hn hoL ⟨trivial, hoS.2.2⟩)
  case ishr =>
    dsimp only [FX] at h
    have hn1 : n = 1 := by simpa [okX] using ok
    subst hn1
    rcases st with _ | ⟨(y | y | y), (_ | ⟨(x | x | x), r⟩)⟩
    all_goals first | exact h.elim | (dsimp only at h) | skip
    exact lv_ishr hx hb hd (K _ _ _ _ _ _ _ h hP hD hS hl hn hoL ⟨trivial, hoS.2.2⟩)
  case iushr =>
    dsimp only [FX] at h
    have hn1 : n = 1 := by simpa [okX] using ok
    subst hn1
    rcases st with _ | ⟨(y | y | y), (_ | ⟨(x | x | x), r⟩)⟩
    all_goals first | exact h.elim | (dsimp only at h) | skip
    exact lv_iushr hx hb hd rfl (K _ _ _ _ _ _ _ h hP hD hS hl hn hoL ⟨trivial, hoS.2.2⟩)
  case idiv =>
    dsimp only [FX] at h
    have hn1 : n = 1 := by simpa [okX] using ok
    subst hn1
    rcases st with _ | ⟨(y | y | y), (_ | ⟨(x | x | x), r⟩)⟩
    all_goals first | exact h.elim | (dsimp only at h) | skip
    exact lv_idiv hx hb hd h.1 (K _ _ _ _ _ _ _ h.2 hP hD hS hl hn hoL ⟨trivial, hoS.2.2⟩)
  case ineg =>
    dsimp only [FX] at h
    have hn1 : n = 1 := by simpa [okX] using ok
    subst hn1
    rcases st with _ | ⟨(x | x | x), r⟩
    all_goals first | exact h.elim | (dsimp only at h) | skip
    exact lv_ineg hx hb hd (K _ _ _ _ _ _ _ h hP hD hS hl hn hoL ⟨trivial, hoS.2⟩)
  case i2b =>
    dsimp only [FX] at h
    have hn1 : n = 1 := by simpa [okX] using ok
    subst hn1
    rcases st with _ | ⟨(x | x | x), r⟩
    all_goals first | exact h.elim | (dsimp only at h) | skip
    exact lv_i2b hx hb hd rfl (K _ _ _ _ _ _ _ h hP hD hS hl hn hoL ⟨trivial, hoS.2⟩)
  case i2s =>
    dsimp only [FX] at h
    have hn1 : n = 1 := by simpa [okX] using ok
    subst hn1
    rcases st with _ | ⟨(x | x | x), r⟩
    all_goals first | exact h.elim | (dsimp only at h) | skip
    exact lv_i2s hx hb hd rfl (K _ _ _ _ _ _ _ h hP hD hS hl hn hoL ⟨trivial, hoS.2⟩)
  case i2l =>
    dsimp only [FX] at h
    have hn1 : n = 1 := by simpa [okX] using ok
    subst hn1
    rcases st with _ | ⟨(x | x | x), r⟩
    all_goals first | exact h.elim | (dsimp only at h) | skip
    exact lv_i2l hx hb hd rfl (K _ _ _ _ _ _ _ h hP hD hS hl hn hoL ⟨trivial, hoS.2⟩)
  case l2i =>
    dsimp only [FX] at h
    have hn1 : n = 1 := by simpa [okX] using ok
    subst hn1
    rcases st with _ | ⟨(x | x | x), r⟩
    all_goals first | exact h.elim | (dsimp only at h) | skip
    exact lv_l2i hx hb hd rfl (K _ _ _ _ _ _ _ h hP hD hS hl hn hoL ⟨trivial, hoS.2⟩)
  case lcmp =>
    dsimp only [FX] at h
    have hn1 : n = 1 := by simpa [okX] using ok
    subst hn1
    rcases st with _ | ⟨(y | y | y), (_ | ⟨(x | x | x), r⟩)⟩
    all_goals first | exact h.elim | (dsimp only at h) | skip
    exact W.lcmp hx hb hd (K _ _ _ _ _ _ _ h hP hD hS hl hn hoL ⟨trivial, hoS.2.2⟩)
  case dup =>
    dsimp only [FX] at h
    have hn1 : n = 1 := by simpa [okX] using ok
    subst hn1
    rcases st with _ | ⟨(x | x | x), r⟩
    all_goals first | exact h.elim | (dsimp only at h) | skip
    · exact lv_dup hx hb hd rfl (K _ _ _ _ _ _ _ h hP hD hS hl hn hoL ⟨hoS.1, hoS⟩)
    · exact lv_dup hx hb hd rfl (K _ _ _ _ _ _ _ h hP hD hS hl hn hoL ⟨hoS.1, hoS⟩)
  case dup2 =>
    dsimp only [FX] at h
    have hn1 : n = 1 := by simpa [okX] using ok
    subst hn1
    rcases st with _ | ⟨(y | y | y), (_ | ⟨(x | x | x), r⟩)⟩
    all_goals first | exact h.elim | (dsimp only at h) | skip
    all_goals exact lv_dup2_11 hx hb hd rfl rfl (K _ _ _ _ _ _ _ h hP hD hS hl hn hoL ⟨hoS.1, hoS.2.1, hoS⟩)
  case pop =>
    dsimp only [FX] at h
    have hn1 : n = 1 := by simpa [okX] using ok
    subst hn1
    rcases st with _ | ⟨(x | x | x), r⟩
    all_goals first | exact h.elim | (dsimp only at h) | skip
    all_goals exact lv_pop hx hb hd rfl (K _ _ _ _ _ _ _ h hP hD hS hl hn hoL hoS.2)
  case goto off =>
    dsimp only [FX] at h
    obtain ⟨hn1, hv⟩ : n = 3 ∧ (pc : Int) + off = (a : Int) := by simpa [okX] using ok
    subst hn1
    exact lv_goto hx hb hd hv (K _ _ _ _ _ _ _ h hP hD hS hl hn hoL hoS)
  case ifCond cc off =>
    dsimp only [FX] at h
    obtain ⟨hn1, hv⟩ : n = 3 ∧ (pc : Int) + off = (a : Int) := by simpa [okX] using ok
    subst hn1
    rcases st with _ | ⟨(x | x | x), r⟩
    all_goals first | exact h.elim | (dsimp only at h) | skip
    obtain ⟨h1, h2⟩ := h
    cases cc
    case eq => exact lv_if_eq hx hb hd hv (fun q => (K _ _ _ _ _ _ _ (h1 q) hP hD hS hl hn hoL hoS.2)) (fun q => (K _ _ _ _ _ _ _ (h2 (q)) hP hD hS hl hn hoL hoS.2))
    case ne => exact lv_if_ne hx hb hd hv (fun q => (K _ _ _ _ _ _ _ (h1 q) hP hD hS hl hn hoL hoS.2)) (fun q => (K _ _ _ _ _ _ _ (h2 (q)) hP hD hS hl hn hoL hoS.2))
    case lt => exact lv_if_lt hx hb hd hv (fun q => (K _ _ _ _ _ _ _ (h1 q) hP hD hS hl hn hoL hoS.2)) (fun q => (K _ _ _ _ _ _ _ (h2 (Int32.not_lt.mp q)) hP hD hS hl hn hoL hoS.2))
    case ge => exact lv_if_ge hx hb hd hv (fun q => (K _ _ _ _ _ _ _ (h1 q) hP hD hS hl hn hoL hoS.2)) (fun q => (K _ _ _ _ _ _ _ (h2 (Int32.not_le.mp q)) hP hD hS hl hn hoL hoS.2))
    case gt => exact lv_if_gt hx hb hd hv (fun q => (K _ _ _ _ _ _ _ (h1 q) hP hD hS hl hn hoL hoS.2)) (fun q => (K _ _ _ _ _ _ _ (h2 (Int32.not_lt.mp q)) hP hD hS hl hn hoL hoS.2))
    case le => exact lv_if_le hx hb hd hv (fun q => (K _ _ _ _ _ _ _ (h1 q) hP hD hS hl hn hoL hoS.2)) (fun q => (K _ _ _ _ _ _ _ (h2 (Int32.not_le.mp q)) hP hD hS hl hn hoL hoS.2))
  case if_icmp cc off =>
    dsimp only [FX] at h
    obtain ⟨hn1, hv⟩ : n = 3 ∧ (pc : Int) + off = (a : Int) := by simpa [okX] using ok
    subst hn1
    rcases st with _ | ⟨(y | y | y), (_ | ⟨(x | x | x), r⟩)⟩
    all_goals first | exact h.elim | (dsimp only at h) | skip
    obtain ⟨h1, h2⟩ := h
    cases cc
    case eq => exact lv_icmp_eq hx hb hd hv (fun q => (K _ _ _ _ _ _ _ (h1 q) hP hD hS hl hn hoL hoS.2.2)) (fun q => (K _ _ _ _ _ _ _ (h2 (q)) hP hD hS hl hn hoL hoS.2.2))
    case ne => exact lv_icmp_ne hx hb hd hv (fun q => (K _ _ _ _ _ _ _ (h1 q) hP hD hS hl hn hoL hoS.2.2)) (fun q => (K _ _ _ _ _ _ _ (h2 (q)) hP hD hS hl hn hoL hoS.2.2))
    case lt => exact lv_icmp_lt hx hb hd hv (fun q => (K _ _ _ _ _ _ _ (h1 q) hP hD hS hl hn hoL hoS.2.2)) (fun q => (K _ _ _ _ _ _ _ (h2 (Int32.not_lt.mp q)) hP hD hS hl hn hoL hoS.2.2))
    case ge => exact lv_icmp_ge hx hb hd hv (fun q => (K _ _ _ _ _ _ _ (h1 q) hP hD hS hl hn hoL hoS.2.2)) (fun q => (K _ _ _ _ _ _ _ (h2 (Int32.not_le.mp q)) hP hD hS hl hn hoL hoS.2.2))
    case gt => exact lv_icmp_gt hx hb hd hv (fun q => (K _ _ _ _ _ _ _ (h1 q) hP hD hS hl hn hoL hoS.2.2)) (fun q => (K _ _ _ _ _ _ _ (h2 (Int32.not_lt.mp q)) hP hD hS hl hn hoL hoS.2.2))
    case le => exact lv_icmp_le hx hb hd hv (fun q => (K _ _ _ _ _ _ _ (h1 q) hP hD hS hl hn hoL hoS.2.2)) (fun q => (K _ _ _ _ _ _ _ (h2 (Int32.not_le.mp q)) hP hD hS hl hn hoL hoS.2.2))
  case getstatic k =>
    dsimp only [FX] at h
    obtain ⟨hn1, hv⟩ : n = 3 ∧ lkT[pp]? = some (.fieldLink (mY mi).cls k "IceOut$Stepper" "MOST_FLOES" "[I") := by
      have := ok
      simp only [okX, Bool.and_eq_true, beq_iff_eq, decide_eq_true_eq] at this
      exact this
    subst hn1
    exact va_gets hx hb hZ.1 hS hown (G (lkT_in hv) rfl) (fun _ q => q) hd (K _ _ _ _ _ _ _ h hP hD hS hl hn hoL ⟨Or.inr rfl, hoS⟩)
  case getfield k =>
    dsimp only [FX] at h
    obtain ⟨⟨⟨hn1, hbN⟩, haN⟩, hv⟩ : ((n = 3 ∧ b < cN a) ∧ a < 11) ∧ lkT[pp]? = some (.fieldLink (mY mi).cls k (cT a b).1 (cT a b).2.1 (cT a b).2.2.1) := by
      have := ok
      simp only [okX, Bool.and_eq_true, beq_iff_eq, decide_eq_true_eq, Nat.blt_eq] at this
      exact this
    subst hn1
    rcases st with _ | ⟨(x | x | x), r⟩
    all_goals first | exact h.elim | (dsimp only at h) | skip
    have hobj : shk x.2 ≠ 6 → x ∈ objsC := by
      intro q
      rcases hoS.1 with q1 | q1
      · exact q1
      · exact absurd (by rw [q1]; rfl) q
    cases hk : (Nat.beq (shk x.2) 1 && Nat.beq (shc x.2) a) with
    | false => rw [hk] at h; exact h.elim
    | true =>
      rw [hk] at h
      have h12 := hk
      rw [Bool.and_eq_true, Nat.beq_eq, Nat.beq_eq] at h12
      obtain ⟨h1, h2⟩ := h12
      have ho := hobj (by rw [h1]; decide)
      obtain ⟨q0, hq, hw⟩ := ws_atC (ad := ad) (cI := cI) (cZ := cZ) (cJ := cJ) (cW := cW) (cP := cP) (w := w) ho
      have hcell : cellOf ad cI cZ cJ cW cP w x = .inr (a, fldL ad w x) := by unfold cellOf; rw [h1, ← h2]; rfl
      rw [hcell] at hw
      have hv2 : (fldL ad w x)[b]? = some (fldV ad w x a b) := by
        rw [fldL, List.getElem?_map, h2, List.getElem?_range hbN]; rfl
      refine va_get hx hb hts (fun z hz => fW_in haN hz) hown hK hP q0 hw (cl_at haN) b hbN (G (lkT_in hv) rfl) (fun _ q => q) hv2 hd ?_
      cases hf : fd a b with
      | none =>
        rw [hf] at h
        have e1 : fldV ad w x a b = tV ad (.inl (gI w x b)) := by unfold fldV; rw [hf]; rfl
        rw [e1]
        exact (K _ _ _ _ _ _ _ h hP hD hS hl hn hoL ⟨trivial, hoS.2⟩)
      | some fk =>
        obtain ⟨f, j⟩ := fk
        rw [hf] at h
        have e1 : fldV ad w x a b = tV ad (.inr (.inr (f x.1, j))) := by unfold fldV; rw [hf]; rfl
        rw [e1]
        exact (K _ _ _ _ _ _ _ h hP hD hS hl hn hoL ⟨Or.inl (fld_okC ho h1 (by rw [h2]; exact hbN) (by rw [h2]; exact hf)), hoS.2⟩)
  case putfield k =>
    dsimp only [FX] at h
    obtain ⟨⟨⟨⟨hn1, hbN⟩, haN⟩, hv⟩, hfin⟩ : (((n = 3 ∧ b < cN a) ∧ a < 11) ∧ lkT[pp]? = some (.fieldLink (mY mi).cls k (cT a b).1 (cT a b).2.1 (cT a b).2.2.1)) ∧ (cT a b).2.2.2 = false := by
      have := ok
      simp only [okX, Bool.and_eq_true, beq_iff_eq, decide_eq_true_eq, Nat.blt_eq, Bool.not_eq_true'] at this
      exact this
    subst hn1
    rcases st with _ | ⟨(u | u | u), (_ | ⟨(x | x | x), r⟩)⟩
    all_goals first | exact h.elim | (dsimp only at h) | skip
    have hobj : shk x.2 ≠ 6 → x ∈ objsC := by
      intro q
      rcases hoS.2.1 with q1 | q1
      · exact q1
      · exact absurd (by rw [q1]; rfl) q
    cases hk : (Nat.beq (shk x.2) 1 && Nat.beq (shc x.2) a) with
    | false => rw [hk] at h; exact h.elim
    | true =>
      rw [hk] at h
      have h12 := hk
      rw [Bool.and_eq_true, Nat.beq_eq, Nat.beq_eq] at h12
      obtain ⟨h1, h2⟩ := h12
      have ho := hobj (by rw [h1]; decide)
      obtain ⟨q0, hq, hw⟩ := ws_atC (ad := ad) (cI := cI) (cZ := cZ) (cJ := cJ) (cW := cW) (cP := cP) (w := w) ho
      have hcell : ∀ w, cellOf ad cI cZ cJ cW cP w x = .inr (a, fldL ad w x) := by intro w; unfold cellOf; rw [h1, ← h2]; rfl
      rw [hcell] at hw
      cases hf : fd a b with
      | some fk => rw [hf] at h; exact h.elim
      | none =>
        rw [hf] at h
        have hty := ty_of haN hbN hf
        have hlen : b < (fldL ad w x).length := by rw [fldL, List.length_map, List.length_range, h2]; exact hbN
        have hset : (wsOfC ad cI cZ cJ cW cP w).set q0 (ad x, .inr (a, (fldL ad w x).set b (tV ad (.inl u)))) = wsOfC ad cI cZ cJ cW cP (sI w x b u) := by
          show (wsOfC ad cI cZ cJ cW cP w).set q0 (ad x, .inr (a, (fldL ad w x).set b (.int u))) = _
          rw [fldL_s (by rw [h2]; exact hf), ← hcell]
          exact ws_setC hq cell_aI
        have h' : X1 mi (pc + 3) L r (sI w x b u) Q ∧ narrow (tyF a b) (.int u) = .int u ∧ fits (tyF a b) (.int u) = true := by
          cases hz : fz a b with
          | true =>
            rw [hz] at h hty
            have hty : tyF a b = .boolean := hty
            rw [hty]
            obtain ⟨h3, h4⟩ : b01 u ∧ X1 mi (pc + 3) L r (sI w x b u) Q := h
            refine ⟨h4, ?_⟩
            rcases h3 with rfl | rfl
            · exact ⟨by decide +kernel, by decide +kernel⟩
            · exact ⟨by decide +kernel, by decide +kernel⟩
          | false =>
            rw [hz] at h hty
            have hty : tyF a b = .int := hty
            rw [hty]
            exact ⟨h, rfl, rfl⟩
        refine va_put hx hb hts (fun z hz => fW_in haN hz) (tyF a) (tyF_ok haN) (nmF haN) hown hK hP hD hS q0 hw (cl_at haN) b hbN (G (lkT_in hv) rfl) (fun _ q => q) hfin (tyF_ok haN b hbN) h'.2.1 h'.2.2 hlen hd (fun H1 locs1 a1 a2 a3 => ?_)
        rw [hset] at a1 a2
        exact (K _ _ _ _ _ _ _ h'.1 a1 a2 a3 hl hn hoL hoS.2.2)
  case baload =>
    dsimp only [FX] at h
    have hn1 : n = 1 := by simpa [okX] using ok
    subst hn1
    rcases st with _ | ⟨(i | i | i), (_ | ⟨(x | x | x), r⟩)⟩
    all_goals first | exact h.elim | (dsimp only at h) | skip
    have hobj : shk x.2 ≠ 6 → x ∈ objsC := by
      intro q
      rcases hoS.2.1 with q1 | q1
      · exact q1
      · exact absurd (by rw [q1]; rfl) q
    cases hk : Nat.beq (shk x.2) 3 with
    | false => rw [hk] at h; exact h.elim
    | true =>
      rw [hk] at h
      have h1 := Nat.eq_of_beq_eq_true hk
      have ho := hobj (by rw [h1]; decide)
      obtain ⟨q0, hq, hw⟩ := ws_atC (ad := ad) (cI := cI) (cZ := cZ) (cJ := cJ) (cW := cW) (cP := cP) (w := w) ho
      have hcell : cellOf ad cI cZ cJ cW cP w x = .inl (cZ, len x.1 x.2, .inl (gI w x)) := by unfold cellOf; rw [h1]; rfl
      rw [hcell] at hw
      exact va_zald hx hb hK hP q0 1 hw rfl h.1 hd (K _ _ _ _ _ _ _ h.2 hP hD hS hl hn hoL ⟨trivial, hoS.2.2⟩)
  case laload =>
    dsimp only [FX] at h
    have hn1 : n = 1 := by simpa [okX] using ok
    subst hn1
    rcases st with _ | ⟨(i | i | i), (_ | ⟨(x | x | x), r⟩)⟩
    all_goals first | exact h.elim | (dsimp only at h) | skip
    have hobj : shk x.2 ≠ 6 → x ∈ objsC := by
      intro q
      rcases hoS.2.1 with q1 | q1
      · exact q1
      · exact absurd (by rw [q1]; rfl) q
    cases hk : Nat.beq (shk x.2) 4 with
    | false => rw [hk] at h; exact h.elim
    | true =>
      rw [hk] at h
      have h1 := Nat.eq_of_beq_eq_true hk
      have ho := hobj (by rw [h1]; decide)
      obtain ⟨q0, hq, hw⟩ := ws_atC (ad := ad) (cI := cI) (cZ := cZ) (cJ := cJ) (cW := cW) (cP := cP) (w := w) ho
      have hcell : cellOf ad cI cZ cJ cW cP w x = .inl (cJ, len x.1 x.2, .inr (.inl (gL w x))) := by unfold cellOf; rw [h1]; rfl
      rw [hcell] at hw
      exact va_lald hx hb hK hP q0 2 hw rfl h.1 hd (K _ _ _ _ _ _ _ h.2 hP hD hS hl hn hoL ⟨trivial, hoS.2.2⟩)
  case iaload =>
    dsimp only [FX] at h
    have hn1 : n = 1 := by simpa [okX] using ok
    subst hn1
    rcases st with _ | ⟨(i | i | i), (_ | ⟨(x | x | x), r⟩)⟩
    all_goals first | exact h.elim | (dsimp only at h) | skip
    have hobj : shk x.2 ≠ 6 → x ∈ objsC := by
      intro q
      rcases hoS.2.1 with q1 | q1
      · exact q1
      · exact absurd (by rw [q1]; rfl) q
    have h : (match shk x.2 with | 2 => vp_in i (len x.1 x.2) ∧ X1 mi (pc + 1) L (.inl (gI w x i.toNatClampNeg) :: r) w Q | 6 => vp_in i 4 ∧ X1 mi (pc + 1) L (.inl (mfl i.toNatClampNeg) :: r) w Q | _ => False) := h
    split at h
    · rename_i h1
      have ho := hobj (by rw [h1]; decide)
      obtain ⟨q0, hq, hw⟩ := ws_atC (ad := ad) (cI := cI) (cZ := cZ) (cJ := cJ) (cW := cW) (cP := cP) (w := w) ho
      have hcell : cellOf ad cI cZ cJ cW cP w x = .inl (cI, len x.1 x.2, .inl (gI w x)) := by unfold cellOf; rw [h1]; rfl
      rw [hcell] at hw
      exact va_iald hx hb hK hP q0 0 hw rfl h.1 hd (K _ _ _ _ _ _ _ h.2 hP hD hS hl hn hoL ⟨trivial, hoS.2.2⟩)
    · rename_i h1
      have hx33 : x = (0, 33) := by
        rcases hoS.2.1 with q1 | q1
        · exact absurd h1 (by have := List.all_eq_true.mp objs_n6C x q1; simpa using this)
        · exact q1
      subst hx33
      exact va_ti hx hb hZ.2.1 hS h.1 rfl hd (K _ _ _ _ _ _ _ h.2 hP hD hS hl hn hoL ⟨trivial, hoS.2.2⟩)
    · exact h.elim
  case aaload =>
    dsimp only [FX] at h
    have hn1 : n = 1 := by simpa [okX] using ok
    subst hn1
    rcases st with _ | ⟨(i | i | i), (_ | ⟨(x | x | x), r⟩)⟩
    all_goals first | exact h.elim | (dsimp only at h) | skip
    have hobj : shk x.2 ≠ 6 → x ∈ objsC := by
      intro q
      rcases hoS.2.1 with q1 | q1
      · exact q1
      · exact absurd (by rw [q1]; rfl) q
    cases hk : Nat.beq (shk x.2) 5 with
    | false => rw [hk] at h; exact h.elim
    | true =>
      rw [hk] at h
      have h1 := Nat.eq_of_beq_eq_true hk
      have ho := hobj (by rw [h1]; decide)
      obtain ⟨q0, hq, hw⟩ := ws_atC (ad := ad) (cI := cI) (cZ := cZ) (cJ := cJ) (cW := cW) (cP := cP) (w := w) ho
      have hcell : cellOf ad cI cZ cJ cW cP w x = .inl (bif Nat.beq (shc x.2) 0 then cW else cP, len x.1 x.2, .inr (.inr (.inr (.inr (fun i => some (ad (i, rfk (shc x.2)))))))) := by unfold cellOf; rw [h1]; rfl
      rw [hcell] at hw
      have hi : i.toNatClampNeg < len x.1 x.2 := Nat.not_le.mp fun q => h.1 (Or.inr q)
      have hok : okVC (rfo (shc x.2) i.toNatClampNeg) := Or.inl (row_okC ho h1 hi)
      cases hc : Nat.beq (shc x.2) 0 with
      | true =>
        rw [hc] at hw
        exact va_aldq hx hb hK hP q0 3 hw rfl h.1 hd (K _ _ _ _ _ _ _ h.2 hP hD hS hl hn hoL ⟨hok, hoS.2.2⟩)
      | false =>
        rw [hc] at hw
        exact va_aldq hx hb hK hP q0 4 hw rfl h.1 hd (K _ _ _ _ _ _ _ h.2 hP hD hS hl hn hoL ⟨hok, hoS.2.2⟩)
  case arraylength =>
    dsimp only [FX] at h
    have hn1 : n = 1 := by simpa [okX] using ok
    subst hn1
    rcases st with _ | ⟨(x | x | x), r⟩
    all_goals first | exact h.elim | (dsimp only at h) | skip
    have hobj : shk x.2 ≠ 6 → x ∈ objsC := by
      intro q
      rcases hoS.1 with q1 | q1
      · exact q1
      · exact absurd (by rw [q1]; rfl) q
    cases hk : Nat.beq (shk x.2) 2 with
    | false => rw [hk] at h; exact h.elim
    | true =>
      rw [hk] at h
      have h1 := Nat.eq_of_beq_eq_true hk
      have ho := hobj (by rw [h1]; decide)
      obtain ⟨q0, hq, hw⟩ := ws_atC (ad := ad) (cI := cI) (cZ := cZ) (cJ := cJ) (cW := cW) (cP := cP) (w := w) ho
      have hcell : cellOf ad cI cZ cJ cW cP w x = .inl (cI, len x.1 x.2, .inl (gI w x)) := by unfold cellOf; rw [h1]; rfl
      rw [hcell] at hw
      exact va_alen hx hb hK hP q0 0 hw (ty := .int) rfl rfl hd (K _ _ _ _ _ _ _ h hP hD hS hl hn hoL ⟨trivial, hoS.2⟩)
  case iastore =>
    dsimp only [FX] at h
    have hn1 : n = 1 := by simpa [okX] using ok
    subst hn1
    rcases st with _ | ⟨(u | u | u), (_ | ⟨(i | i | i), (_ | ⟨(x | x | x), r⟩)⟩)⟩
    all_goals first | exact h.elim | (dsimp only at h) | skip
    have hobj : shk x.2 ≠ 6 → x ∈ objsC := by
      intro q
      rcases hoS.2.2.1 with q1 | q1
      · exact q1
      · exact absurd (by rw [q1]; rfl) q
    cases hk : Nat.beq (shk x.2) 2 with
    | false => rw [hk] at h; exact h.elim
    | true =>
      rw [hk] at h
      have h1 := Nat.eq_of_beq_eq_true hk
      have ho := hobj (by rw [h1]; decide)
      obtain ⟨q0, hq, hw⟩ := ws_atC (ad := ad) (cI := cI) (cZ := cZ) (cJ := cJ) (cW := cW) (cP := cP) (w := w) ho
      have hcell : ∀ w, cellOf ad cI cZ cJ cW cP w x = .inl (cI, len x.1 x.2, .inl (gI w x)) := by intro w; unfold cellOf; rw [h1]; rfl
      rw [hcell] at hw
      have hnew : cellOf ad cI cZ cJ cW cP (sI w x i.toNatClampNeg u) x = .inl (cI, len x.1 x.2, .inl (upd (gI w x) i.toNatClampNeg u)) := by rw [hcell, sI, gI_aI, ub_upd]
      have hset : (wsOfC ad cI cZ cJ cW cP w).set q0 (ad x, .inl (cI, len x.1 x.2, .inl (upd (gI w x) i.toNatClampNeg u))) = wsOfC ad cI cZ cJ cW cP (sI w x i.toNatClampNeg u) := by
        rw [← hnew]
        exact ws_setC hq cell_aI
      obtain ⟨hin, h⟩ : vp_in i (len x.1 x.2) ∧ X1 mi (pc + 1) L r (sI w x i.toNatClampNeg u) Q := h
      refine va_iast hx hb hK hP hD hS q0 0 hw rfl hin hd (fun H1 locs1 a1 a2 a3 => ?_)
      rw [hset] at a1 a2
      exact (K _ _ _ _ _ _ _ h a1 a2 a3 hl hn hoL hoS.2.2.2)
  case bastore =>
    dsimp only [FX] at h
    have hn1 : n = 1 := by simpa [okX] using ok
    subst hn1
    rcases st with _ | ⟨(u | u | u), (_ | ⟨(i | i | i), (_ | ⟨(x | x | x), r⟩)⟩)⟩
    all_goals first | exact h.elim | (dsimp only at h) | skip
    have hobj : shk x.2 ≠ 6 → x ∈ objsC := by
      intro q
      rcases hoS.2.2.1 with q1 | q1
      · exact q1
      · exact absurd (by rw [q1]; rfl) q
    cases hk : Nat.beq (shk x.2) 3 with
    | false => rw [hk] at h; exact h.elim
    | true =>
      rw [hk] at h
      have h1 := Nat.eq_of_beq_eq_true hk
      have ho := hobj (by rw [h1]; decide)
      obtain ⟨q0, hq, hw⟩ := ws_atC (ad := ad) (cI := cI) (cZ := cZ) (cJ := cJ) (cW := cW) (cP := cP) (w := w) ho
      have hcell : ∀ w, cellOf ad cI cZ cJ cW cP w x = .inl (cZ, len x.1 x.2, .inl (gI w x)) := by intro w; unfold cellOf; rw [h1]; rfl
      rw [hcell] at hw
      have hnew : cellOf ad cI cZ cJ cW cP (sI w x i.toNatClampNeg u) x = .inl (cZ, len x.1 x.2, .inl (upd (gI w x) i.toNatClampNeg u)) := by rw [hcell, sI, gI_aI, ub_upd]
      have hset : (wsOfC ad cI cZ cJ cW cP w).set q0 (ad x, .inl (cZ, len x.1 x.2, .inl (upd (gI w x) i.toNatClampNeg u))) = wsOfC ad cI cZ cJ cW cP (sI w x i.toNatClampNeg u) := by
        rw [← hnew]
        exact ws_setC hq cell_aI
      obtain ⟨hbu, hin, h⟩ : b01 u ∧ vp_in i (len x.1 x.2) ∧ X1 mi (pc + 1) L r (sI w x i.toNatClampNeg u) Q := h
      refine va_zast hx hb hK hP hD hS q0 1 hw rfl hin hd (fun H1 locs1 a1 a2 a3 => ?_)
      have hu : vp_nar .boolean u = u := by rcases hbu with rfl | rfl <;> decide +kernel
      rw [hu] at a1 a2
      rw [hset] at a1 a2
      exact (K _ _ _ _ _ _ _ h a1 a2 a3 hl hn hoL hoS.2.2.2)
  case lastore =>
    dsimp only [FX] at h
    have hn1 : n = 1 := by simpa [okX] using ok
    subst hn1
    rcases st with _ | ⟨(u | u | u), (_ | ⟨(i | i | i), (_ | ⟨(x | x | x), r⟩)⟩)⟩
    all_goals first | exact h.elim | (dsimp only at h) | skip
    have hobj : shk x.2 ≠ 6 → x ∈ objsC := by
      intro q
      rcases hoS.2.2.1 with q1 | q1
      · exact q1
      · exact absurd (by rw [q1]; rfl) q
    cases hk : Nat.beq (shk x.2) 4 with
    | false => rw [hk] at h; exact h.elim
    | true =>
      rw [hk] at h
      have h1 := Nat.eq_of_beq_eq_true hk
      have ho := hobj (by rw [h1]; decide)
      obtain ⟨q0, hq, hw⟩ := ws_atC (ad := ad) (cI := cI) (cZ := cZ) (cJ := cJ) (cW := cW) (cP := cP) (w := w) ho
      have hcell : ∀ w, cellOf ad cI cZ cJ cW cP w x = .inl (cJ, len x.1 x.2, .inr (.inl (gL w x))) := by intro w; unfold cellOf; rw [h1]; rfl
      rw [hcell] at hw
      have hnew : cellOf ad cI cZ cJ cW cP (sL w x i.toNatClampNeg u) x = .inl (cJ, len x.1 x.2, .inr (.inl (vp_updL (gL w x) i.toNatClampNeg u))) := by rw [hcell, sL, gL_aL, ub_updL]
      have hset : (wsOfC ad cI cZ cJ cW cP w).set q0 (ad x, .inl (cJ, len x.1 x.2, .inr (.inl (vp_updL (gL w x) i.toNatClampNeg u)))) = wsOfC ad cI cZ cJ cW cP (sL w x i.toNatClampNeg u) := by
        rw [← hnew]
        exact ws_setC hq cell_aL
      obtain ⟨hin, h⟩ : vp_in i (len x.1 x.2) ∧ X1 mi (pc + 1) L r (sL w x i.toNatClampNeg u) Q := h
      refine va_last hx hb hK hP hD hS q0 2 hw rfl hin hd (fun H1 locs1 a1 a2 a3 => ?_)
      rw [hset] at a1 a2
      exact (K _ _ _ _ _ _ _ h a1 a2 a3 hl hn hoL hoS.2.2.2)
  case tableswitch dflt lo hi offs =>
    dsimp only [FX] at h
    obtain ⟨⟨hv, hsz⟩, hok⟩ : ((pc : Int) + dflt = (a : Int) ∧ hi - lo + 1 = (offs.size : Int)) ∧ okS pc lo offs.toList (swL.getD pp []) = true := by
      have := ok
      simp only [okX, Bool.and_eq_true, decide_eq_true_eq] at this
      exact this
    rcases st with _ | ⟨(x | x | x), r⟩
    all_goals first | exact h.elim | (dsimp only at h) | skip
    have h : swP x (fun t => X1 mi t L r w Q) a (swL.getD pp []) := h
    have hstep : ∀ (os : List Int) (sw : List (Int32 × Nat)) (lo' : Int), okS pc lo' os sw = true → swP x (fun t => X1 mi t L r w Q) a sw → (∃ (j : Nat) (off : Int) (t : Nat), os[j]? = some off ∧ x.toInt = lo' + j ∧ (pc : Int) + off = (t : Int) ∧ X1 mi t L r w Q) ∨ ((x.toInt < lo' ∨ lo' + os.length ≤ x.toInt) ∧ X1 mi a L r w Q) := by
      intro os
      induction os with
      | nil =>
        intro sw lo' h1 h2
        cases sw with
        | nil => exact Or.inr ⟨by simp only [List.length_nil]; omega, h2⟩
        | cons q t => cases h1
      | cons o os ih =>
        intro sw lo' h1 h2
        cases sw with
        | nil => cases h1
        | cons q t =>
          obtain ⟨vv, tt⟩ := q
          simp only [okS, Bool.and_eq_true, decide_eq_true_eq] at h1
          obtain ⟨⟨g1, g2⟩, g3⟩ := h1
          obtain ⟨k1, k2⟩ := h2
          by_cases hxv : x = vv
          · exact Or.inl ⟨0, o, tt, rfl, by rw [hxv, g1]; simp, g2, k1 hxv⟩
          · have hne : x.toInt ≠ lo' := fun q => hxv (Int32.toInt_inj.mp (q.trans g1.symm))
            rcases ih t (lo' + 1) g3 (k2 hxv) with ⟨j, off, t', q1, q2, q3, q4⟩ | ⟨q1, q2⟩
            · exact Or.inl ⟨j + 1, off, t', q1, by rw [q2]; push_cast; omega, q3, q4⟩
            · refine Or.inr ⟨?_, q2⟩
              simp only [List.length_cons]
              push_cast
              omega
    rcases hstep _ _ _ hok h with ⟨j, off, t, q1, q2, q3, q4⟩ | ⟨q1, q2⟩
    · have hj : j < offs.size := by
        have := (List.getElem?_eq_some_iff.mp q1).1
        simpa using this
      refine lv_tableIn hx hb hd (by omega) (by omega) (off := off) ?_ q3 (K _ _ _ _ _ _ _ q4 hP hD hS hl hn hoL hoS.2)
      rw [show (x.toInt - lo).toNat = j by omega, ← Array.getElem?_toList]
      exact q1
    · have : (offs.toList.length : Int) = offs.size := by simp
      exact lv_tableOut hx hb hd (by omega) hv (K _ _ _ _ _ _ _ q2 hP hD hS hl hn hoL hoS.2)
  case ireturn =>
    dsimp only [FX] at h
    have hn1 : n = 1 := by simpa [okX] using ok
    subst hn1
    rcases st with _ | ⟨(x | x | x), (_ | ⟨y, r⟩)⟩
    all_goals first | exact h.elim | (dsimp only at h) | skip
    have hi := okM_i hmi
    have hB : ∀ t : State, t.heap = H → s.WarmedH t.vm → BMC D cI cZ cJ cW cP ad A w t := fun t ht hW => ⟨by rw [ht]; exact hP, va_K.moved hW.alike hK, hD⟩
    cases hR : mR mi with
    | none => rw [hR] at hi; rw [hi] at h; exact h.elim
    | some ty =>
      rw [hR] at hi hr
      cases ty
      case int =>
        have e1 : (mI mi).1 = 1 := by rw [hi]
        rw [e1] at h
        have eq : QM (BMC D cI cZ cJ cW cP ad A) mi A Q = va_Qi (fun x u => Q (.inl x) u) (BMC D cI cZ cJ cW cP ad A) A := by unfold QM; rw [e1]; rfl
        rw [eq]
        exact W.iret hx hb hr (fun t ht hW => ⟨⟨x, w, rfl, h, hB t ht hW⟩, hS.F ht⟩) hS.2.2 hd
      case boolean =>
        have e1 : (mI mi).1 = 3 := by rw [hi]
        rw [e1] at h
        have eq : QM (BMC D cI cZ cJ cW cP ad A) mi A Q = va_Qi (fun x u => Q (.inl x) u) (BMC D cI cZ cJ cW cP ad A) A := by unfold QM; rw [e1]; rfl
        rw [eq]
        obtain ⟨h3, h4⟩ : b01 x ∧ Q (.inl x) w := h
        have hnw : narrow .boolean (.int x) = .int x := by rcases h3 with rfl | rfl <;> decide +kernel
        exact W.zret hx hb hr hnw (fun t ht hW => ⟨⟨x, w, rfl, h4, hB t ht hW⟩, hS.F ht⟩) hS.2.2 hd
      all_goals (rw [hi] at h; exact h.elim)
  case lreturn =>
    dsimp only [FX] at h
    have hn1 : n = 1 := by simpa [okX] using ok
    subst hn1
    rcases st with _ | ⟨(x | x | x), (_ | ⟨y, r⟩)⟩
    all_goals first | exact h.elim | (dsimp only at h) | skip
    have hi := okM_i hmi
    have hB : ∀ t : State, t.heap = H → s.WarmedH t.vm → BMC D cI cZ cJ cW cP ad A w t := fun t ht hW => ⟨by rw [ht]; exact hP, va_K.moved hW.alike hK, hD⟩
    cases hR : mR mi with
    | none => rw [hR] at hi; rw [hi] at h; exact h.elim
    | some ty =>
      rw [hR] at hi hr
      cases ty
      case long =>
        have e1 : (mI mi).1 = 2 := by rw [hi]
        rw [e1] at h
        have eq : QM (BMC D cI cZ cJ cW cP ad A) mi A Q = va_Ql (fun x u => Q (.inr (.inl x)) u) (BMC D cI cZ cJ cW cP ad A) A := by unfold QM; rw [e1]; rfl
        rw [eq]
        exact W.lret hx hb hr (fun t ht hW => ⟨⟨x, w, rfl, h, hB t ht hW⟩, hS.F ht⟩) hS.2.2 hd
      all_goals (rw [hi] at h; exact h.elim)
  case return_ =>
    dsimp only [FX] at h
    have hn1 : n = 1 := by simpa [okX] using ok
    subst hn1
    rcases st with _ | ⟨x, r⟩
    all_goals first | exact h.elim | (dsimp only at h) | skip
    have hi := okM_i hmi
    have hB : ∀ t : State, t.heap = H → s.WarmedH t.vm → BMC D cI cZ cJ cW cP ad A w t := fun t ht hW => ⟨by rw [ht]; exact hP, va_K.moved hW.alike hK, hD⟩
    cases hR : mR mi with
    | none =>
      rw [hR] at hi hr
      have e1 : (mI mi).1 = 0 := by rw [hi]
      rw [e1] at h
      have eq : QM (BMC D cI cZ cJ cW cP ad A) mi A Q = va_Qv (fun u : PW => Q (.inl 0) u) (BMC D cI cZ cJ cW cP ad A) A := by unfold QM; rw [e1]; rfl
      rw [eq]
      exact W.vret hx hb hr (fun t ht hW => ⟨⟨w, rfl, h, hB t ht hW⟩, hS.F ht⟩) hS.2.2 hd
    | some ty =>
      rw [hR] at hi
      cases ty <;> (rw [hi] at h; exact h.elim)
  case invokevirtual k =>
    dsimp only [FX] at h
    obtain ⟨⟨⟨⟨⟨⟨hn1, ha⟩, hs⟩, hb2⟩, hF⟩, hO⟩, hv⟩ : (((((n = 3 ∧ a < 187) ∧ mS a = false) ∧ b = mN a) ∧ mF a + 1 ≤ mF mi) ∧ 8 + (mM a + 11) + mO a ≤ mO mi) ∧ lkT[pp]? = some (.methodLink (mY mi).cls k (mY a)) := by
      have := ok
      simp only [okX, Bool.and_eq_true, beq_iff_eq, decide_eq_true_eq, Nat.blt_eq, Bool.not_eq_true'] at this
      exact this
    subst hn1
    unfold Fcall at h
    cases hp : popN b [] st with
    | none => rw [hp] at h; exact h.elim
    | some q =>
      obtain ⟨as, r⟩ := q
      rw [hp] at h
      dsimp only at h
      obtain ⟨ps, e1, e2, e3⟩ := popN_spec hp
      rw [List.append_nil] at e2
      have hall : ∀ v ∈ st, okVC v := okT_memC hoS
      have hoAs : okTC as := okT_ofC fun v hv => hall v (by rw [e1]; exact List.mem_append_left _ (by rw [e2] at hv; exact List.mem_reverse.mp hv))
      have hor : okTC r := okT_ofC fun v hv => hall v (by rw [e1]; exact List.mem_append_right _ hv)
      have hst : st = as.reverse ++ r := by rw [e2, List.reverse_reverse]; exact e1
      have hlas : as.length = b := by rw [e2, List.length_reverse]; exact e3
      cases hc : Nat.ble (cats r) 8 && Nat.ble (expd as).length (mI a).2 && rcok 1 a as with
      | false => rw [hc] at h; exact h.elim
      | true =>
        rw [hc] at h
        have h : (match (mI a).1 with | 0 => Xc a 0 (mkL a as) [] w (kV fun w' => X1 mi (pc + 3) L r w' Q) | 2 => Xc a 0 (mkL a as) [] w (kL fun x w' => X1 mi (pc + 3) L (.inr (.inl x) :: r) w' Q) | _ => Xc a 0 (mkL a as) [] w (kI fun x w' => X1 mi (pc + 3) L (.inl x :: r) w' Q)) := h
        rw [Bool.and_eq_true, Bool.and_eq_true, Nat.ble_eq, Nat.ble_eq] at hc
        obtain ⟨⟨hc1, hc2⟩, hc3⟩ := hc
        rw [okM_i ha] at hc2
        rcases as with _ | ⟨(x | x | x), As⟩
        all_goals first | (cases hc3; done) | skip
        have hc3 : (Nat.beq (shk x.2) 1 && Nat.beq (shc x.2) (mK a)) = true := hc3
        rw [Bool.and_eq_true, Nat.beq_eq, Nat.beq_eq] at hc3
        obtain ⟨h1, h20⟩ := hc3
        have h2 : cR (shc x.2) = (mY a).cls := by
          have := List.all_eq_true.mp mK_ok a (List.mem_range.mpr ha)
          rw [hs, Bool.false_or, Bool.and_eq_true, decide_eq_true_eq] at this
          rw [h20]
          exact this.2
        have ho : x ∈ objsC := by
          rcases hoAs.1 with q1 | q1
          · exact q1
          · rw [q1] at h1; cases h1
        obtain ⟨q0, hq, hw⟩ := ws_atC (ad := ad) (cI := cI) (cZ := cZ) (cJ := cJ) (cW := cW) (cP := cP) (w := w) ho
        have hcell : cellOf ad cI cZ cJ cW cP w x = .inr (shc x.2, fldL ad w x) := by unfold cellOf; rw [h1]; rfl
        rw [hcell] at hw
        have hci : shc x.2 < 11 := by
          have := List.all_eq_true.mp objs_cC x ho
          rw [decide_eq_true_eq] at this
          exact this h1
        have hpl : ∀ sig, parseMethodDescriptor (mY a).desc = some sig → (As.map (tV ad)).length = sig.parameters.length := by
          intro sig hsig
          have h3 := okM_n ha
          rw [hsig, hs] at h3
          have h3 : sig.parameters.length = mN a - 1 := Option.some.inj h3
          rw [List.length_map, h3, ← hb2, ← hlas]
          rfl
        refine fin a (.inr (.inr x) :: As) r (Value.ref (ad x) :: As.map (tV ad)).toArray h hor (fun Q' hq' => ?_)
        refine va_runV (C := (mY a).cls) (b := ad x) (As := As.map (tV ad)) (rest := r.map (tV ad)) (nL := mM mi) (n := (As.map (tV ad)).length) (own := (mY mi).cls) (index := k) (bytes := mB a) (maxL := mM a) (ret := mR a) ⟨hx, hb, hml, hown, hts⟩ (MetXC hq' ha hoAs hc2 D cI cZ cJ cW cP ad H.size) ⟨⟨rfl, rfl, hF, hO, hcode a ha, List.mem_cons_self, G (mc_all a ha) rfl, G (mW_in ha (by unfold mW; rw [hs]; simp)) rfl, okM_h ha, hpl, G (lkT_in hv) rfl⟩, G (mW_in ha (by unfold mW; rw [hs]; simp)) rfl, G (mW_in ha (by unfold mW; rw [hs]; simp)) rfl⟩ ⟨hblind _, ?_, fun U hU hW => ⟨rfl, hpre U hU hW⟩⟩ rfl rfl hl.1 ?_ (lv_room (by rw [cats_sum]; exact hc1)) hd ⟨Nat.zero_le _, Nat.zero_le _⟩
        · obtain ⟨cell, g1, g2, g3⟩ := va_recv hK hP (cl_at hci) hw
          exact ⟨cell, g1, g2, by rw [← h2]; exact g3⟩
        · show st.map (tV ad) = (As.map (tV ad)).reverse ++ .ref (ad x) :: r.map (tV ad)
          rw [hst]
          simp [tV]
  case invokestatic k =>
    dsimp only [FX] at h
    have ok2 := ok
    unfold okX at ok2
    dsimp only at ok2
    rw [Bool.and_eq_true, beq_iff_eq] at ok2
    obtain ⟨hn1, ok2⟩ := ok2
    subst hn1
    by_cases a9 : a = 999
    · subst a9
      simp only [beq_self_eq_true, cond_true, Bool.and_eq_true, decide_eq_true_eq] at ok2
      obtain ⟨⟨hF, hO⟩, hv⟩ := ok2
      rw [show Nat.beq 999 999 = true from rfl, cond_true] at h
      rcases st with _ | ⟨(k | k | k), (_ | ⟨(j | j | j), (_ | ⟨(d | d | d), (_ | ⟨(i | i | i), (_ | ⟨(x | x | x), r⟩)⟩)⟩)⟩)⟩
      all_goals first | exact h.elim | (dsimp only at h) | skip
      cases hc : Nat.ble (cats r) 8 with
      | false => rw [hc] at h; exact h.elim
      | true =>
      rw [hc, cond_true] at h
      have hc1 := Nat.le_of_ble_eq_true hc
      have hobj : ∀ y : Ob, okVC (.inr (.inr y)) → shk y.2 ≠ 6 → y ∈ objsC := by
        intro y hy q
        rcases hy with q1 | q1
        · exact q1
        · exact absurd (by rw [q1]; rfl) q
      have hS5 : lv_room (m := m) (pc := pc) (ls := ls) (rest := []) (st := r.map (tV ad)) (by rw [cats_sum]; exact hc1) = lv_room (by rw [cats_sum]; exact hc1) := rfl
      have hsum : ((r.map (tV ad)).map fun v => v.category).sum + (nativeFrameWords "java/lang/System" "arraycopy" 5 + 11) ≤ (rm mi).locals := by
        rw [cats_sum]
        have : nativeFrameWords "java/lang/System" "arraycopy" 5 = 7 := by decide +kernel
        rw [this]
        show _ ≤ mO mi
        omega
      have hG1 := G (lkT_in hv) rfl
      cases hk2 : (Nat.beq (shk x.2) 2 && Nat.beq (shk d.2) 2) with
      | true =>
        rw [hk2, cond_true] at h
        obtain ⟨⟨p1, p2, p3, p4, p5⟩, h⟩ := h
        rw [Bool.and_eq_true, Nat.beq_eq, Nat.beq_eq] at hk2
        obtain ⟨hx1, hd1⟩ := hk2
        have hox := hobj x hoS.2.2.2.2.1 (by rw [hx1]; decide)
        have hod := hobj d hoS.2.2.1 (by rw [hd1]; decide)
        obtain ⟨q0, hq, hw⟩ := ws_atC (ad := ad) (cI := cI) (cZ := cZ) (cJ := cJ) (cW := cW) (cP := cP) (w := w) hox
        obtain ⟨q1, hq1, hw1⟩ := ws_atC (ad := ad) (cI := cI) (cZ := cZ) (cJ := cJ) (cW := cW) (cP := cP) (w := w) hod
        have hcell : ∀ w, cellOf ad cI cZ cJ cW cP w x = .inl (cI, len x.1 x.2, .inl (gI w x)) := by intro w; unfold cellOf; rw [hx1]; rfl
        have hcell1 : ∀ w, cellOf ad cI cZ cJ cW cP w d = .inl (cI, len d.1 d.2, .inl (gI w d)) := by intro w; unfold cellOf; rw [hd1]; rfl
        rw [hcell] at hw
        rw [hcell1] at hw1
        refine va_copyi hx hb (hml.trans hl.1.symm) hown hG1 (G natv_in rfl) (G nats_in rfl) (G nati_in rfl) hK hP hD hS q0 q1 0 0 hw hw1 (ty := .int) rfl rfl rfl (Int32.not_lt.mpr p1) (Int32.not_lt.mpr p2) (Int32.not_lt.mpr p3) p4 p5 (fun _ _ => rfl) hF hsum hd (fun H1 locs1 a1 a2 a3 => ?_)
        have hset : (wsOfC ad cI cZ cJ cW cP w).set q1 (ad d, .inl (cI, len d.1 d.2, .inl (va_cpy (gI w x) (gI w d) i.toNatClampNeg j.toNatClampNeg k.toNatClampNeg))) = wsOfC ad cI cZ cJ cW cP (aI w d (va_cpy (gI w x) (gI w d) i.toNatClampNeg j.toNatClampNeg k.toNatClampNeg)) := by
          have hnew : cellOf ad cI cZ cJ cW cP (aI w d (va_cpy (gI w x) (gI w d) i.toNatClampNeg j.toNatClampNeg k.toNatClampNeg)) d = .inl (cI, len d.1 d.2, .inl (va_cpy (gI w x) (gI w d) i.toNatClampNeg j.toNatClampNeg k.toNatClampNeg)) := by rw [hcell1, gI_aI]
          rw [← hnew]
          exact ws_setC hq1 cell_aI
        rw [hset] at a1 a2
        exact (K _ _ _ _ _ _ _ h a1 a2 a3 hl hn hoL hoS.2.2.2.2.2)
      | false =>
        rw [hk2, cond_false] at h
        cases hk4 : (Nat.beq (shk x.2) 4 && Nat.beq (shk d.2) 4) with
        | false => rw [hk4] at h; exact h.elim
        | true =>
        rw [hk4, cond_true] at h
        obtain ⟨⟨p1, p2, p3, p4, p5⟩, h⟩ := h
        rw [Bool.and_eq_true, Nat.beq_eq, Nat.beq_eq] at hk4
        obtain ⟨hx1, hd1⟩ := hk4
        have hox := hobj x hoS.2.2.2.2.1 (by rw [hx1]; decide)
        have hod := hobj d hoS.2.2.1 (by rw [hd1]; decide)
        obtain ⟨q0, hq, hw⟩ := ws_atC (ad := ad) (cI := cI) (cZ := cZ) (cJ := cJ) (cW := cW) (cP := cP) (w := w) hox
        obtain ⟨q1, hq1, hw1⟩ := ws_atC (ad := ad) (cI := cI) (cZ := cZ) (cJ := cJ) (cW := cW) (cP := cP) (w := w) hod
        have hcell : ∀ w, cellOf ad cI cZ cJ cW cP w x = .inl (cJ, len x.1 x.2, .inr (.inl (gL w x))) := by intro w; unfold cellOf; rw [hx1]; rfl
        have hcell1 : ∀ w, cellOf ad cI cZ cJ cW cP w d = .inl (cJ, len d.1 d.2, .inr (.inl (gL w d))) := by intro w; unfold cellOf; rw [hd1]; rfl
        rw [hcell] at hw
        rw [hcell1] at hw1
        refine va_copyl hx hb (hml.trans hl.1.symm) hown hG1 (G natv_in rfl) (G nats_in rfl) (G nati_in rfl) hK hP hD hS q0 q1 2 2 hw hw1 (ty := .long) rfl rfl rfl (Int32.not_lt.mpr p1) (Int32.not_lt.mpr p2) (Int32.not_lt.mpr p3) p4 p5 (fun _ _ => rfl) hF hsum hd (fun H1 locs1 a1 a2 a3 => ?_)
        have hset : (wsOfC ad cI cZ cJ cW cP w).set q1 (ad d, .inl (cJ, len d.1 d.2, .inr (.inl (va_cpy (gL w x) (gL w d) i.toNatClampNeg j.toNatClampNeg k.toNatClampNeg)))) = wsOfC ad cI cZ cJ cW cP (aL w d (va_cpy (gL w x) (gL w d) i.toNatClampNeg j.toNatClampNeg k.toNatClampNeg)) := by
          have hnew : cellOf ad cI cZ cJ cW cP (aL w d (va_cpy (gL w x) (gL w d) i.toNatClampNeg j.toNatClampNeg k.toNatClampNeg)) d = .inl (cJ, len d.1 d.2, .inr (.inl (va_cpy (gL w x) (gL w d) i.toNatClampNeg j.toNatClampNeg k.toNatClampNeg))) := by rw [hcell1, gL_aL]
          rw [← hnew]
          exact ws_setC hq1 cell_aL
        rw [hset] at a1 a2
        exact (K _ _ _ _ _ _ _ h a1 a2 a3 hl hn hoL hoS.2.2.2.2.2)
    have n9 : Nat.beq a 999 = false := nbf a9
    rw [n9, cond_false] at h
    rw [beq_false_of_ne a9, cond_false] at ok2
    by_cases a8 : a = 998
    · subst a8
      simp only [beq_self_eq_true, cond_true, Bool.and_eq_true, decide_eq_true_eq] at ok2
      obtain ⟨⟨hF, hO⟩, hv⟩ := ok2
      rw [show Nat.beq 998 998 = true from rfl, cond_true] at h
      rcases st with _ | ⟨(y | y | y), (_ | ⟨(x | x | x), r⟩)⟩
      all_goals first | exact h.elim | (dsimp only at h) | skip
      cases hc : Nat.ble (cats r) 8 with
      | false => rw [hc] at h; exact h.elim
      | true =>
      rw [hc, cond_true] at h
      have hc1 := Nat.le_of_ble_eq_true hc
      exact va_mmax hx hb (hml.trans hl.1.symm) hown (G (lkT_in hv) rfl) (G maxs_in rfl) (G mati_in rfl) (G maxc_in rfl) hF (by rw [cats_sum]; show _ ≤ mO mi; omega) (Nat.zero_le _) (Nat.zero_le _) hd (K _ _ _ _ _ _ _ h hP hD hS hl hn hoL ⟨trivial, hoS.2.2⟩)
    have n8 : Nat.beq a 998 = false := nbf a8
    rw [n8, cond_false] at h
    rw [beq_false_of_ne a8, cond_false] at ok2
    by_cases a7 : a = 997
    · subst a7
      simp only [beq_self_eq_true, cond_true, Bool.and_eq_true, decide_eq_true_eq] at ok2
      obtain ⟨⟨hF, hO⟩, hv⟩ := ok2
      rw [show Nat.beq 997 997 = true from rfl, cond_true] at h
      rcases st with _ | ⟨(y | y | y), (_ | ⟨(x | x | x), r⟩)⟩
      all_goals first | exact h.elim | (dsimp only at h) | skip
      cases hc : Nat.ble (cats r) 8 with
      | false => rw [hc] at h; exact h.elim
      | true =>
      rw [hc, cond_true] at h
      have hc1 := Nat.le_of_ble_eq_true hc
      exact va_mmin hx hb (hml.trans hl.1.symm) hown (G (lkT_in hv) rfl) (G mins_in rfl) (G mati_in rfl) (G minc_in rfl) hF (by rw [cats_sum]; show _ ≤ mO mi; omega) (Nat.zero_le _) (Nat.zero_le _) hd (K _ _ _ _ _ _ _ h hP hD hS hl hn hoL ⟨trivial, hoS.2.2⟩)
    have n7 : Nat.beq a 997 = false := nbf a7
    rw [n7, cond_false] at h
    rw [beq_false_of_ne a7, cond_false] at ok2
    simp only [Bool.and_eq_true, decide_eq_true_eq, beq_iff_eq, Nat.blt_eq] at ok2
    obtain ⟨⟨⟨⟨⟨ha, hs⟩, hb2⟩, hF⟩, hO⟩, hv⟩ := ok2
    unfold Fcall at h
    cases hp : popN b [] st with
    | none => rw [hp] at h; exact h.elim
    | some q =>
      obtain ⟨as, r⟩ := q
      rw [hp] at h
      dsimp only at h
      obtain ⟨ps, e1, e2, e3⟩ := popN_spec hp
      rw [List.append_nil] at e2
      have hall : ∀ v ∈ st, okVC v := okT_memC hoS
      have hoAs : okTC as := okT_ofC fun v hv => hall v (by rw [e1]; exact List.mem_append_left _ (by rw [e2] at hv; exact List.mem_reverse.mp hv))
      have hor : okTC r := okT_ofC fun v hv => hall v (by rw [e1]; exact List.mem_append_right _ hv)
      have hst : st = as.reverse ++ r := by rw [e2, List.reverse_reverse]; exact e1
      have hlas : as.length = b := by rw [e2, List.length_reverse]; exact e3
      cases hc : Nat.ble (cats r) 8 && Nat.ble (expd as).length (mI a).2 && rcok 0 a as with
      | false => rw [hc] at h; exact h.elim
      | true =>
        rw [hc] at h
        have h : (match (mI a).1 with | 0 => Xc a 0 (mkL a as) [] w (kV fun w' => X1 mi (pc + 3) L r w' Q) | 2 => Xc a 0 (mkL a as) [] w (kL fun x w' => X1 mi (pc + 3) L (.inr (.inl x) :: r) w' Q) | _ => Xc a 0 (mkL a as) [] w (kI fun x w' => X1 mi (pc + 3) L (.inl x :: r) w' Q)) := h
        rw [Bool.and_eq_true, Bool.and_eq_true, Nat.ble_eq, Nat.ble_eq] at hc
        obtain ⟨⟨hc1, hc2⟩, hc3⟩ := hc
        rw [okM_i ha] at hc2
        have hpl : ∀ sig, parseMethodDescriptor (mY a).desc = some sig → (as.map (tV ad)).length = sig.parameters.length := by
          intro sig hsig
          have h3 := okM_n ha
          rw [hsig, hs] at h3
          have h3 : sig.parameters.length = mN a - 0 := Option.some.inj h3
          rw [List.length_map, h3, ← hb2, ← hlas]
          rfl
        have hstk : st.map (tV ad) = (as.map (tV ad)).reverse ++ r.map (tV ad) := by
          rw [hst]
          simp
        refine fin a as r (as.map (tV ad)).toArray h hor (fun Q' hq' => ?_)
        cases hv1 : (v == 1) with
        | false =>
          rw [hv1] at hv
          have hv : lkT[pp]? = some (.methodLink (mY mi).cls k (mY a)) := of_decide_eq_true hv
          exact va_runS (As := as.map (tV ad)) (rest := r.map (tV ad)) (nL := mM mi) (n := (as.map (tV ad)).length) (own := (mY mi).cls) (index := k) (bytes := mB a) (maxL := mM a) (ret := mR a) ⟨hx, hb, hml, hown, hts⟩ (MetXC hq' ha hoAs hc2 D cI cZ cJ cW cP ad H.size) ⟨⟨rfl, rfl, hF, hO, hcode a ha, List.mem_cons_self, G (mc_all a ha) rfl, G (mW_in ha (by unfold mW; rw [hs]; simp)) rfl, okM_h ha, hpl, G (lkT_in hv) rfl⟩, G (mW_in ha (by unfold mW; rw [hs]; simp)) rfl⟩ ⟨hblind _, fun U hU hW => ⟨rfl, hpre U hU hW⟩⟩ rfl rfl hl.1 hstk (lv_room (by rw [cats_sum]; exact hc1)) hd ⟨Nat.zero_le _, Nat.zero_le _⟩
        | true =>
          rw [hv1] at hv
          have hv : lkT[pp]? = some (.methodLinkNest (mY mi).cls k (mY a) "IceOut") := of_decide_eq_true hv
          refine va_runSN (host := "IceOut") (As := as.map (tV ad)) (rest := r.map (tV ad)) (nL := mM mi) (n := (as.map (tV ad)).length) (own := (mY mi).cls) (index := k) (bytes := mB a) (maxL := mM a) (ret := mR a) ⟨hx, hb, hml, hown, hts⟩ (MetXC hq' ha hoAs hc2 D cI cZ cJ cW cP ad H.size) ⟨⟨⟨rfl, rfl, hF, hO, hcode a ha, List.mem_cons_self⟩, G (mc_all a ha) rfl, G (mW_in ha (by unfold mW; rw [hs]; simp)) rfl, okM_h ha, hpl, ?_⟩, G (mW_in ha (by unfold mW; rw [hs]; simp)) rfl, trivial⟩ ⟨hblind _, fun U hU hW => ⟨rfl, hpre U hU hW⟩⟩ rfl rfl hl.1 hstk (lv_room (by rw [cats_sum]; exact hc1)) hd ⟨Nat.zero_le _, Nat.zero_le _⟩
          have hw9 := List.mem_of_getElem? hv
          have hall9 : ∀ w ∈ lkT, (match w with | .methodLinkNest _ _ _ _ => decide (w = .methodLinkNest "IceOut$Marks" 25 yX9_isWithin "IceOut") | _ => true) = true := List.all_eq_true.mp lkT_nest
          have h9 := hall9 _ hw9
          rw [of_decide_eq_true h9]
          exact va_Nw.use rfl hZ.2.2
  all_goals exact h.elim
theorem XM_ofC (l : Launch) {mi pc : Nat} {L : LV} {st : List PV} {w : PW} {Q : PQ} (h : Wp mi pc L st w Q) : XMC l mi pc L st w Q := h (XMC l) (XM_stepC l) (XM_maskC l) (XM_consC l) (XM_eqC l)

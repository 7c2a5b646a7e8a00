/-! a constructor is called for an object just made */ -/
theorem WS_app {ad : AD} {cI cZ cJ cW cP : ClassId} {w : PW} {S S' : List Ob} : WS ad cI cZ cJ cW cP w (S ++ S') = WS ad cI cZ cJ cW cP w S ++ WS ad cI cZ cJ cW cP w S' := List.map_append
/-- cells that two numberings of addresses agree on -/
def refsIn (T : List Ob) (o : Ob) : Prop := (shk o.2 = 1 → ∀ k f j, k < cN (shc o.2) → fd (shc o.2) k = some (f, j) → (f o.1, j) ∈ T) ∧ (shk o.2 = 1 ∨ shk o.2 = 2 ∨ shk o.2 = 3 ∨ shk o.2 = 4)
theorem cell_ad {ad ad' : AD} {cI cZ cJ cW cP : ClassId} {w : PW} {T : List Ob} {o : Ob} (hr : refsIn T o) (h : ∀ x, x ∈ T → ad' x = ad x) : cellOf ad' cI cZ cJ cW cP w o = cellOf ad cI cZ cJ cW cP w o := by
  obtain ⟨h1, h2⟩ := hr
  unfold cellOf
  rcases h2 with e | e | e | e
  · rw [e]
    show Sum.inr (shc o.2, fldL ad' w o) = Sum.inr (shc o.2, fldL ad w o)
    have : fldL ad' w o = fldL ad w o := by
      unfold fldL
      refine List.map_congr_left (fun k hk => ?_)
      unfold fldV
      cases hf : fd (shc o.2) k with
      | none => rfl
      | some q =>
        obtain ⟨f, j⟩ := q
        show Value.ref (ad' (f o.1, j)) = Value.ref (ad (f o.1, j))
        rw [h _ (h1 e k f j (List.mem_range.mp hk) hf)]
    rw [this]
  · rw [e]; rfl
  · rw [e]; rfl
  · rw [e]; rfl
theorem WS_ad {ad ad' : AD} {cI cZ cJ cW cP : ClassId} {w : PW} {S T : List Ob} (hr : ∀ o, o ∈ S → refsIn T o) (hT : ∀ o, o ∈ S → o ∈ T) (h : ∀ x, x ∈ T → ad' x = ad x) : WS ad' cI cZ cJ cW cP w S = WS ad cI cZ cJ cW cP w S := by
  unfold WS
  refine List.map_congr_left (fun o ho => ?_)
  rw [h o (hT o ho), cell_ad (hr o ho) h]
theorem gT_cons {y : MethodName} {bytes : ByteArray} {maxL : Nat} {ret : Option FieldType} (h : Cond.code y bytes maxL ret ∈ gT) : GoodIn gT (Cond.code y bytes maxL ret :: gT) := fun w hw => by
  rcases List.mem_cons.mp hw with e | hw
  · subst e; exact ⟨h, goodGT h⟩
  · exact ⟨hw, goodGT hw⟩
section BCALL
variable {p : Program} {l : Launch} {e : Env} {R : Room} {s : State} {m : MethodId} {args : Array Value} {below : List Frame} {meth : Method} {c : Code} {H : Heap} {locs : List Loc} {cells slots : Nat} {Q : State → Prop}
variable {cc : ByteArray} {pc idx ci : Nat} {ls : Array Slot} {D : va_G} {A : Nat → Prop} {rest : List Value}
/-- behind a call that had one cell, the last: what was ahead of it is as it was -/
theorem b_join {X w1 : va_W} {cell : Nat × va_E} {H1 : Heap} (hP : va_P D vwCl (X ++ [cell]) H) (hD : va_D A (X ++ [cell])) (hF : ∀ z, va_A [cell] H.size z → A z) (hk : ∀ z : Nat, z < H.size → ¬ va_A [cell] H.size z → H1[z]? = H[z]?) (hP1 : va_P D vwCl w1 H1) (hD1 : va_D (va_A [cell] H.size) w1) : va_P D vwCl (X ++ w1) H1 ∧ va_D A (X ++ w1) := by
  have left : ∀ (k : Nat) (x : Nat × va_E), X[k]? = some x → (X ++ [cell])[k]? = some x := fun k x hx => by
    rw [List.getElem?_append_left (List.getElem?_eq_some_iff.mp hx).1]; exact hx
  have lastc : (X ++ [cell])[X.length]? = some cell := by rw [List.getElem?_append_right (Nat.le_refl _), Nat.sub_self]; rfl
  have apart : ∀ (k : Nat) (x : Nat × va_E), X[k]? = some x → x.1 < H.size ∧ ¬ va_A [cell] H.size x.1 := by
    intro k x hx
    have hl := (hP k x (left k x hx)).lt
    refine ⟨hl, fun h => ?_⟩
    rcases h with ⟨k2, e2, h⟩ | h
    · have hk2 : k2 < 1 := (List.getElem?_eq_some_iff.mp h).1
      obtain rfl : k2 = 0 := by omega
      have h : cell = (x.1, e2) := Option.some.inj h
      have := hD.1 k X.length x cell (left k x hx) lastc (by rw [h])
      have := (List.getElem?_eq_some_iff.mp hx).1
      omega
    · omega
  refine ⟨va_P.app (fun k x hx => ?_) hP1, va_D.app ⟨fun i j a b ha hb he => hD.1 i j a b (left i a ha) (left j b hb) he, fun k x hx => hD.2 k x (left k x hx)⟩ (hD1.weaken (fun k q _ h => hF q.1 h)) (fun i j a b ha hb hab => ?_)⟩
  · obtain ⟨g1, g2⟩ := apart k x hx
    exact (hP k x (left k x hx)).kept (hk x.1 g1 g2)
  · exact (apart i a ha).2 (by rw [hab]; exact hD1.2 j b hb)
theorem b_last {X : va_W} {cell : Nat × va_E} (hP : va_P D vwCl (X ++ [cell]) H) (hD : va_D A (X ++ [cell])) : va_P D vwCl [cell] H ∧ va_D A [cell] := by
  have lastc : ∀ (k : Nat) (x : Nat × va_E), [cell][k]? = some x → (X ++ [cell])[X.length + k]? = some x := fun k x hx => by
    rw [List.getElem?_append_right (by omega), show X.length + k - X.length = k by omega]; exact hx
  exact ⟨fun k x hx => hP _ x (lastc k x hx), ⟨fun i j a b ha hb he => by have := hD.1 _ _ a b (lastc i a ha) (lastc j b hb) he; omega, fun k x hx => hD.2 _ x (lastc k x hx)⟩⟩
theorem b_call {y : MethodName} {bytes : ByteArray} {maxL mc ms nL ci' : Nat} {own : String} {rm : Room} {fs' As : List Value} {S' : List Ob} {w : PW} {post : AD → Prop} {X : va_W} {q : Nat} {cI cZ cJ cW cP : ClassId}
    (hx : p.tables.exec = Jvm.exec) (hb : c.code = cc) (hml : c.maxLocals = nL) (hown : s.vm.findClass own = some m.cls) (hts : ∀ w ∈ gT, w.before args s = true) (hK : va_K D vwCl (KT cI cZ cJ) s) (hP : va_P D vwCl (X ++ [(q, .inr (ci', fs'))]) H) (hD : va_D A (X ++ [(q, .inr (ci', fs'))])) (hS : va_S A s.heap H locs) (hA : ∀ z, s.heap.size ≤ z → A z)
    (hM : Met l y (Cond.code y bytes maxL none :: gT) rm (va_Pc (.ref q :: As) (fun U => U.heap.size = H.size ∧ va_P D vwCl [(q, .inr (ci', fs'))] U.heap ∧ va_K D vwCl (KT cI cZ cJ) U ∧ va_D (fun _ => True) [(q, .inr (ci', fs'))])) (va_Qv post (fun ad t => va_P D vwCl (WS ad cI cZ cJ cW cP w S') t.heap ∧ va_K D vwCl (KT cI cZ cJ) t ∧ va_D (va_A [(q, .inr (ci', fs'))] H.size) (WS ad cI cZ cJ cW cP w S')) (va_A [(q, .inr (ci', fs'))] H.size)) mc ms (va_A [(q, .inr (ci', fs'))] H.size))
    (hcode : Cond.code y bytes maxL none ∈ gT) (hini : Cond.initialized y.cls ∈ gT) (hinst : Cond.instanceMethod y ∈ gT) (hlink : Cond.methodLink own idx y ∈ gT) (hy : y.name = "<init>") (hd : y.cls ≠ "java/lang/invoke/MethodHandle" ∧ y.cls ≠ "java/lang/invoke/VarHandle" ∧ (parseMethodDescriptor y.desc).map (fun d => d.parameters.length) = some As.length)
    (hrc : rm.cells = mc) (hrs : rm.slots = ms) (hR : rm.frames + 1 ≤ R.frames ∧ 8 + (maxL + 11) + rm.locals ≤ R.locals) (hls : ls.size = nL) (hst : (rest.map fun v => v.category).sum ≤ 8) (hdg : decode cc pc = .ok (.invokespecial idx, 3)) (hf : cells + mc ≤ R.cells ∧ slots + ms ≤ R.slots)
    (kk : ∀ (ad : AD) (H1 : Heap) (locs1 : List Loc), post ad → va_P D vwCl (X ++ WS ad cI cZ cJ cW cP w S') H1 → va_D A (X ++ WS ad cI cZ cJ cW cP w S') → va_S A s.heap H1 locs1 → W p l e R s m args below meth c H1 locs1 (cells + mc) (slots + ms) Q (F0 m (pc + 3) ls rest)) :
    W p l e R s m args below meth c H locs cells slots Q (F0 m pc ls (As.reverse ++ .ref q :: rest)) := by
  obtain ⟨hPc, hDc⟩ := b_last hP hD
  have hFc : ∀ z, va_A [(q, .inr (ci', fs'))] H.size z → A z := by
    rintro z (⟨k, e2, h⟩ | h)
    · exact hDc.2 k _ h
    · exact hA z (Nat.le_trans hS.1 h)
  refine va_callv (va_runI (As := As) (rest := rest) (own := own) ⟨hx, hb, hml, hown, hts⟩ hM (cwI As.length hts (gT_cons hcode) rfl hrc hrs (hts _ hini) (hts _ hlink) (hts _ hinst) hy hd hR) ⟨fun a U g mk q => by obtain ⟨q0, q1, qP, qK, qD⟩ := q; exact ⟨q0, q1, qP, va_K.moved (u := U) (U := U.calling g mk a) (Vm.Alike.refl U.vm) qK, qD⟩, fun U hU hW => ⟨rfl, by rw [hU], by rw [hU]; exact hPc, va_K.moved hW.alike hK, hDc.weaken (fun _ _ _ _ => trivial)⟩⟩ rfl rfl hls rfl (lv_room hst) hdg hf) hS (fun q _ h => hFc q h) hFc (fun ad t H1 locs1 ht hvm hw hB hz1 hk1 hS => ?_)
  obtain ⟨hP1, hK1, hD1⟩ := hB
  rw [ht] at hP1
  obtain ⟨j1, j2⟩ := b_join hP hD hFc hk1 hP1 hD1
  exact kk ad H1 locs1 hw j1 j2 hS
theorem b_callN {y : MethodName} {host : String} {bytes : ByteArray} {maxL mc ms nL ci' : Nat} {own : String} {rm : Room} {fs' As : List Value} {S' : List Ob} {w : PW} {post : AD → Prop} {X : va_W} {q : Nat} {cI cZ cJ cW cP : ClassId}
    (hx : p.tables.exec = Jvm.exec) (hb : c.code = cc) (hml : c.maxLocals = nL) (hown : s.vm.findClass own = some m.cls) (hts : ∀ w ∈ gT, w.before args s = true) (hK : va_K D vwCl (KT cI cZ cJ) s) (hP : va_P D vwCl (X ++ [(q, .inr (ci', fs'))]) H) (hD : va_D A (X ++ [(q, .inr (ci', fs'))])) (hS : va_S A s.heap H locs) (hA : ∀ z, s.heap.size ≤ z → A z)
    (hM : Met l y (Cond.code y bytes maxL none :: gT) rm (va_Pc (.ref q :: As) (fun U => U.heap.size = H.size ∧ va_P D vwCl [(q, .inr (ci', fs'))] U.heap ∧ va_K D vwCl (KT cI cZ cJ) U ∧ va_D (fun _ => True) [(q, .inr (ci', fs'))])) (va_Qv post (fun ad t => va_P D vwCl (WS ad cI cZ cJ cW cP w S') t.heap ∧ va_K D vwCl (KT cI cZ cJ) t ∧ va_D (va_A [(q, .inr (ci', fs'))] H.size) (WS ad cI cZ cJ cW cP w S')) (va_A [(q, .inr (ci', fs'))] H.size)) mc ms (va_A [(q, .inr (ci', fs'))] H.size))
    (hcode : Cond.code y bytes maxL none ∈ gT) (hini : Cond.initialized y.cls ∈ gT) (hinst : Cond.instanceMethod y ∈ gT) (hlink : va_Nw (.methodLinkNest own idx y host) s) (hy : y.name = "<init>") (hd : y.cls ≠ "java/lang/invoke/MethodHandle" ∧ y.cls ≠ "java/lang/invoke/VarHandle" ∧ (parseMethodDescriptor y.desc).map (fun d => d.parameters.length) = some As.length)
    (hrc : rm.cells = mc) (hrs : rm.slots = ms) (hR : rm.frames + 1 ≤ R.frames ∧ 8 + (maxL + 11) + rm.locals ≤ R.locals) (hls : ls.size = nL) (hst : (rest.map fun v => v.category).sum ≤ 8) (hdg : decode cc pc = .ok (.invokespecial idx, 3)) (hf : cells + mc ≤ R.cells ∧ slots + ms ≤ R.slots)
    (kk : ∀ (ad : AD) (H1 : Heap) (locs1 : List Loc), post ad → va_P D vwCl (X ++ WS ad cI cZ cJ cW cP w S') H1 → va_D A (X ++ WS ad cI cZ cJ cW cP w S') → va_S A s.heap H1 locs1 → W p l e R s m args below meth c H1 locs1 (cells + mc) (slots + ms) Q (F0 m (pc + 3) ls rest)) :
    W p l e R s m args below meth c H locs cells slots Q (F0 m pc ls (As.reverse ++ .ref q :: rest)) := by
  obtain ⟨hPc, hDc⟩ := b_last hP hD
  have hFc : ∀ z, va_A [(q, .inr (ci', fs'))] H.size z → A z := by
    rintro z (⟨k, e2, h⟩ | h)
    · exact hDc.2 k _ h
    · exact hA z (Nat.le_trans hS.1 h)
  refine va_callv (va_runIN (As := As) (rest := rest) (own := own) (host := host) ⟨hx, hb, hml, hown, hts⟩ hM ⟨va_cnB As.length hts (gT_cons hcode) rfl hrc hrs hlink (hts _ hini) hd hR, hy, hts _ hinst⟩ ⟨fun a U g mk q => by obtain ⟨q0, q1, qP, qK, qD⟩ := q; exact ⟨q0, q1, qP, va_K.moved (u := U) (U := U.calling g mk a) (Vm.Alike.refl U.vm) qK, qD⟩, fun U hU hW => ⟨rfl, by rw [hU], by rw [hU]; exact hPc, va_K.moved hW.alike hK, hDc.weaken (fun _ _ _ _ => trivial)⟩⟩ rfl rfl hls rfl (lv_room hst) hdg hf) hS (fun q _ h => hFc q h) hFc (fun ad t H1 locs1 ht hvm hw hB hz1 hk1 hS => ?_)
  obtain ⟨hP1, hK1, hD1⟩ := hB
  rw [ht] at hP1
  obtain ⟨j1, j2⟩ := b_join hP hD hFc hk1 hP1 hD1
  exact kk ad H1 locs1 hw j1 j2 hS
end BCALL

/-! how objects are born: an array a field, the classes of the arrays fixed */ -/
theorem arrI_in : Cond.arrayClass (newarray.typeOf .int) ∈ lw_tbl := List.mem_of_getElem? (i := 163) (by decide +kernel)
theorem arrZ_in : Cond.arrayClass (newarray.typeOf .boolean) ∈ lw_tbl := List.mem_of_getElem? (i := 164) (by decide +kernel)
theorem arrJ_in : Cond.arrayClass (newarray.typeOf .long) ∈ lw_tbl := List.mem_of_getElem? (i := 454) (by decide +kernel)
abbrev KT (cI cZ cJ : ClassId) : List (ClassId × FieldType) := [(cI, .int), (cZ, .boolean), (cJ, .long)]
def WS (ad : AD) (cI cZ cJ cW cP : ClassId) (w : PW) (S : List Ob) : va_W := S.map (fun o => (ad o, cellOf ad cI cZ cJ cW cP w o))
section BORN
variable {p : Program} {l : Launch} {e : Env} {R : Room} {s : State} {m : MethodId} {args : Array Value} {below : List Frame} {meth : Method} {c : Code} {H : Heap} {locs : List Loc} {cells slots : Nat} {Q : State → Prop}
variable {cc : ByteArray} {pc idx ci : Nat} {ls : Array Slot} {D : va_G} {A : Nat → Prop} {h0 : Nat} {fs : List Value} {L : va_W} {rest : List Value}
theorem b_put {tys : List (ClassId × FieldType)} {v : Nat} {ty : FieldType} (hx : p.tables.exec = Jvm.exec) (hb : c.code = cc) (hts : ∀ w ∈ gT, w.before args s = true) (hown : s.vm.findClass (cR ci) = some m.cls) (hin : meth.name = "<init>") (hci : ci < 11) (hK : va_K D vwCl tys s) (hP : va_P D vwCl ((h0, .inr (ci, fs)) :: L) H) (hD : va_D A ((h0, .inr (ci, fs)) :: L)) (hS : va_S A s.heap H locs)
    (k : Nat) (hk : k < cN ci) (hlink : Cond.fieldLink (cR ci) idx (cR ci) (cT ci k).2.1 (cT ci k).2.2.1 ∈ gT) (hfin : (cT ci k).2.2.2 = true) (hdecl : (cT ci k).1 = cR ci) (hty : parseFieldDescriptor (cT ci k).2.2.1 = some ty) (hn : narrow ty (.ref v) = .ref v) (hfit : fits ty (.ref v) = true) (hl : k < fs.length)
    (d2 : decode cc pc = .ok (.putfield idx, 3)) (kk : ∀ (H1 : Heap) (locs1 : List Loc), va_P D vwCl ((h0, .inr (ci, fs.set k (.ref v))) :: L) H1 → va_D A ((h0, .inr (ci, fs.set k (.ref v))) :: L) → va_S A s.heap H1 locs1 → W p l e R s m args below meth c H1 locs1 cells slots Q (F0 m (pc + 3) ls rest)) :
    W p l e R s m args below meth c H locs cells slots Q (F0 m pc ls (.ref v :: .ref h0 :: rest)) :=
  va_putF (C := cR ci) (T := cT ci) (N := cN ci) (own := cR ci) (ref := cR ci) hx hb hts (fun w hw => fW_in hci hw) (tyF ci) (tyF_ok hci) (nmF hci) hown hK hP hD hS 0 rfl (cl_at hci) k hk (hts _ hlink) (fun x h => by rw [hdecl] at h; exact h) hfin hin hdecl hty hn hfit hl d2 kk
theorem b_newaI {cI cZ cJ : ClassId} {N : Nat} (hx : p.tables.exec = Jvm.exec) (hb : c.code = cc) (hts : ∀ w ∈ gT, w.before args s = true) (hK : va_K D vwCl (KT cI cZ cJ) s) (hP : va_P D vwCl L H) (hD : va_D A L) (hS : va_S A s.heap H locs) (hA : ∀ q, s.heap.size ≤ q → A q) (hN : N * 8 ≤ 536870912) (hcl : cells + 1 ≤ R.cells) (hsl : slots + N ≤ R.slots)
    (d1 : decode cc pc = .ok (.newarray .int, 2)) (kk : ∀ (q : Nat) (H1 : Heap), va_P D vwCl (L ++ [(q, .inl (cI, N, .inl (fun _ => 0)))]) H1 → va_D A (L ++ [(q, .inl (cI, N, .inl (fun _ => 0)))]) → va_S A s.heap H1 locs → W p l e R s m args below meth c H1 locs (cells + 1) (slots + N) Q (F0 m (pc + 2) ls (.ref q :: rest))) :
    W p l e R s m args below meth c H locs cells slots Q (F0 m pc ls (.int (nI N) :: rest)) := by
  have hcb : N * componentBytes .int ≤ 536870912 := Nat.le_trans (Nat.mul_le_mul_left N (show componentBytes .int ≤ 8 by decide)) hN
  refine va_newa (atype := .int) (ty := .int) (N' := N) (a0 := (N, .inl (fun _ => 0))) hx hb (hts _ (in_gT arrI_in rfl)) rfl hK hP hD hS hA (fun _ => rfl) (nI_pos (by omega)) (nI_clamp (by omega)) hcb hcl hsl d1 (fun q cA H1 hK' hP' hD' hS' => ?_)
  have e1 : s.vm.findClass ("[" ++ (.int : FieldType).toString) = some cA := (hK'.2 3 (cA, .int) rfl).2
  have e2 : s.vm.findClass ("[" ++ (.int : FieldType).toString) = some cI := (hK.2 0 (cI, .int) rfl).2
  have e3 : cI = cA := Option.some.inj (e2.symm.trans e1)
  rw [← e3] at hP' hD'
  exact kk q H1 hP' hD' hS'
theorem b_arrI {cI cZ cJ : ClassId} {N : Nat} (hx : p.tables.exec = Jvm.exec) (hb : c.code = cc) (hts : ∀ w ∈ gT, w.before args s = true) (hown : s.vm.findClass (cR ci) = some m.cls) (hin : meth.name = "<init>") (hci : ci < 11) (hK : va_K D vwCl (KT cI cZ cJ) s) (hP : va_P D vwCl ((h0, .inr (ci, fs)) :: L) H) (hD : va_D A ((h0, .inr (ci, fs)) :: L)) (hS : va_S A s.heap H locs) (hA : ∀ q, s.heap.size ≤ q → A q)
    (k : Nat) (hk : k < cN ci) (hlink : Cond.fieldLink (cR ci) idx (cR ci) (cT ci k).2.1 (cT ci k).2.2.1 ∈ gT) (hfin : (cT ci k).2.2.2 = true) (hdecl : (cT ci k).1 = cR ci) (hty : parseFieldDescriptor (cT ci k).2.2.1 = some (.array .int)) (hl : k < fs.length) (hN : N * 8 ≤ 536870912) (hcl : cells + 1 ≤ R.cells) (hsl : slots + N ≤ R.slots)
    (d1 : decode cc pc = .ok (.newarray .int, 2)) (d2 : decode cc (pc + 2) = .ok (.putfield idx, 3))
    (kk : ∀ (q : Nat) (H1 : Heap) (locs1 : List Loc), va_P D vwCl ((h0, .inr (ci, fs.set k (.ref q))) :: (L ++ [(q, .inl (cI, N, .inl (fun _ => 0)))])) H1 → va_D A ((h0, .inr (ci, fs.set k (.ref q))) :: (L ++ [(q, .inl (cI, N, .inl (fun _ => 0)))])) → va_S A s.heap H1 locs1 → W p l e R s m args below meth c H1 locs1 (cells + 1) (slots + N) Q (F0 m (pc + 5) ls rest)) :
    W p l e R s m args below meth c H locs cells slots Q (F0 m pc ls (.int (nI N) :: .ref h0 :: rest)) :=
  b_newaI hx hb hts hK hP hD hS hA hN hcl hsl d1 (fun q _ hP' hD' hS' => b_put hx hb hts hown hin hci hK hP' hD' hS' k hk hlink hfin hdecl hty rfl rfl hl d2 (fun H2 locs2 hP2 hD2 hS2 => kk q H2 locs2 hP2 hD2 hS2))
theorem b_newaZ {cI cZ cJ : ClassId} {N : Nat} (hx : p.tables.exec = Jvm.exec) (hb : c.code = cc) (hts : ∀ w ∈ gT, w.before args s = true) (hK : va_K D vwCl (KT cI cZ cJ) s) (hP : va_P D vwCl L H) (hD : va_D A L) (hS : va_S A s.heap H locs) (hA : ∀ q, s.heap.size ≤ q → A q) (hN : N * 8 ≤ 536870912) (hcl : cells + 1 ≤ R.cells) (hsl : slots + N ≤ R.slots)
    (d1 : decode cc pc = .ok (.newarray .boolean, 2)) (kk : ∀ (q : Nat) (H1 : Heap), va_P D vwCl (L ++ [(q, .inl (cZ, N, .inl (fun _ => 0)))]) H1 → va_D A (L ++ [(q, .inl (cZ, N, .inl (fun _ => 0)))]) → va_S A s.heap H1 locs → W p l e R s m args below meth c H1 locs (cells + 1) (slots + N) Q (F0 m (pc + 2) ls (.ref q :: rest))) :
    W p l e R s m args below meth c H locs cells slots Q (F0 m pc ls (.int (nI N) :: rest)) := by
  have hcb : N * componentBytes .boolean ≤ 536870912 := Nat.le_trans (Nat.mul_le_mul_left N (show componentBytes .boolean ≤ 8 by decide)) hN
  refine va_newa (atype := .boolean) (ty := .boolean) (N' := N) (a0 := (N, .inl (fun _ => 0))) hx hb (hts _ (in_gT arrZ_in rfl)) rfl hK hP hD hS hA (fun _ => rfl) (nI_pos (by omega)) (nI_clamp (by omega)) hcb hcl hsl d1 (fun q cA H1 hK' hP' hD' hS' => ?_)
  have e1 : s.vm.findClass ("[" ++ (.boolean : FieldType).toString) = some cA := (hK'.2 3 (cA, .boolean) rfl).2
  have e2 : s.vm.findClass ("[" ++ (.boolean : FieldType).toString) = some cZ := (hK.2 1 (cZ, .boolean) rfl).2
  have e3 : cZ = cA := Option.some.inj (e2.symm.trans e1)
  rw [← e3] at hP' hD'
  exact kk q H1 hP' hD' hS'
theorem b_arrZ {cI cZ cJ : ClassId} {N : Nat} (hx : p.tables.exec = Jvm.exec) (hb : c.code = cc) (hts : ∀ w ∈ gT, w.before args s = true) (hown : s.vm.findClass (cR ci) = some m.cls) (hin : meth.name = "<init>") (hci : ci < 11) (hK : va_K D vwCl (KT cI cZ cJ) s) (hP : va_P D vwCl ((h0, .inr (ci, fs)) :: L) H) (hD : va_D A ((h0, .inr (ci, fs)) :: L)) (hS : va_S A s.heap H locs) (hA : ∀ q, s.heap.size ≤ q → A q)
    (k : Nat) (hk : k < cN ci) (hlink : Cond.fieldLink (cR ci) idx (cR ci) (cT ci k).2.1 (cT ci k).2.2.1 ∈ gT) (hfin : (cT ci k).2.2.2 = true) (hdecl : (cT ci k).1 = cR ci) (hty : parseFieldDescriptor (cT ci k).2.2.1 = some (.array .boolean)) (hl : k < fs.length) (hN : N * 8 ≤ 536870912) (hcl : cells + 1 ≤ R.cells) (hsl : slots + N ≤ R.slots)
    (d1 : decode cc pc = .ok (.newarray .boolean, 2)) (d2 : decode cc (pc + 2) = .ok (.putfield idx, 3))
    (kk : ∀ (q : Nat) (H1 : Heap) (locs1 : List Loc), va_P D vwCl ((h0, .inr (ci, fs.set k (.ref q))) :: (L ++ [(q, .inl (cZ, N, .inl (fun _ => 0)))])) H1 → va_D A ((h0, .inr (ci, fs.set k (.ref q))) :: (L ++ [(q, .inl (cZ, N, .inl (fun _ => 0)))])) → va_S A s.heap H1 locs1 → W p l e R s m args below meth c H1 locs1 (cells + 1) (slots + N) Q (F0 m (pc + 5) ls rest)) :
    W p l e R s m args below meth c H locs cells slots Q (F0 m pc ls (.int (nI N) :: .ref h0 :: rest)) :=
  b_newaZ hx hb hts hK hP hD hS hA hN hcl hsl d1 (fun q _ hP' hD' hS' => b_put hx hb hts hown hin hci hK hP' hD' hS' k hk hlink hfin hdecl hty rfl rfl hl d2 (fun H2 locs2 hP2 hD2 hS2 => kk q H2 locs2 hP2 hD2 hS2))
theorem b_newaJ {cI cZ cJ : ClassId} {N : Nat} (hx : p.tables.exec = Jvm.exec) (hb : c.code = cc) (hts : ∀ w ∈ gT, w.before args s = true) (hK : va_K D vwCl (KT cI cZ cJ) s) (hP : va_P D vwCl L H) (hD : va_D A L) (hS : va_S A s.heap H locs) (hA : ∀ q, s.heap.size ≤ q → A q) (hN : N * 8 ≤ 536870912) (hcl : cells + 1 ≤ R.cells) (hsl : slots + N ≤ R.slots)
    (d1 : decode cc pc = .ok (.newarray .long, 2)) (kk : ∀ (q : Nat) (H1 : Heap), va_P D vwCl (L ++ [(q, .inl (cJ, N, .inr (.inl (fun _ => 0))))]) H1 → va_D A (L ++ [(q, .inl (cJ, N, .inr (.inl (fun _ => 0))))]) → va_S A s.heap H1 locs → W p l e R s m args below meth c H1 locs (cells + 1) (slots + N) Q (F0 m (pc + 2) ls (.ref q :: rest))) :
    W p l e R s m args below meth c H locs cells slots Q (F0 m pc ls (.int (nI N) :: rest)) := by
  have hcb : N * componentBytes .long ≤ 536870912 := Nat.le_trans (Nat.mul_le_mul_left N (show componentBytes .long ≤ 8 by decide)) hN
  refine va_newa (atype := .long) (ty := .long) (N' := N) (a0 := (N, .inr (.inl (fun _ => 0)))) hx hb (hts _ (in_gT arrJ_in rfl)) rfl hK hP hD hS hA (fun _ => rfl) (nI_pos (by omega)) (nI_clamp (by omega)) hcb hcl hsl d1 (fun q cA H1 hK' hP' hD' hS' => ?_)
  have e1 : s.vm.findClass ("[" ++ (.long : FieldType).toString) = some cA := (hK'.2 3 (cA, .long) rfl).2
  have e2 : s.vm.findClass ("[" ++ (.long : FieldType).toString) = some cJ := (hK.2 2 (cJ, .long) rfl).2
  have e3 : cJ = cA := Option.some.inj (e2.symm.trans e1)
  rw [← e3] at hP' hD'
  exact kk q H1 hP' hD' hS'
theorem b_arrJ {cI cZ cJ : ClassId} {N : Nat} (hx : p.tables.exec = Jvm.exec) (hb : c.code = cc) (hts : ∀ w ∈ gT, w.before args s = true) (hown : s.vm.findClass (cR ci) = some m.cls) (hin : meth.name = "<init>") (hci : ci < 11) (hK : va_K D vwCl (KT cI cZ cJ) s) (hP : va_P D vwCl ((h0, .inr (ci, fs)) :: L) H) (hD : va_D A ((h0, .inr (ci, fs)) :: L)) (hS : va_S A s.heap H locs) (hA : ∀ q, s.heap.size ≤ q → A q)
    (k : Nat) (hk : k < cN ci) (hlink : Cond.fieldLink (cR ci) idx (cR ci) (cT ci k).2.1 (cT ci k).2.2.1 ∈ gT) (hfin : (cT ci k).2.2.2 = true) (hdecl : (cT ci k).1 = cR ci) (hty : parseFieldDescriptor (cT ci k).2.2.1 = some (.array .long)) (hl : k < fs.length) (hN : N * 8 ≤ 536870912) (hcl : cells + 1 ≤ R.cells) (hsl : slots + N ≤ R.slots)
    (d1 : decode cc pc = .ok (.newarray .long, 2)) (d2 : decode cc (pc + 2) = .ok (.putfield idx, 3))
    (kk : ∀ (q : Nat) (H1 : Heap) (locs1 : List Loc), va_P D vwCl ((h0, .inr (ci, fs.set k (.ref q))) :: (L ++ [(q, .inl (cJ, N, .inr (.inl (fun _ => 0))))])) H1 → va_D A ((h0, .inr (ci, fs.set k (.ref q))) :: (L ++ [(q, .inl (cJ, N, .inr (.inl (fun _ => 0))))])) → va_S A s.heap H1 locs1 → W p l e R s m args below meth c H1 locs1 (cells + 1) (slots + N) Q (F0 m (pc + 5) ls rest)) :
    W p l e R s m args below meth c H locs cells slots Q (F0 m pc ls (.int (nI N) :: .ref h0 :: rest)) :=
  b_newaJ hx hb hts hK hP hD hS hA hN hcl hsl d1 (fun q _ hP' hD' hS' => b_put hx hb hts hown hin hci hK hP' hD' hS' k hk hlink hfin hdecl hty rfl rfl hl d2 (fun H2 locs2 hP2 hD2 hS2 => kk q H2 locs2 hP2 hD2 hS2))
end BORN

/-! what the law's start gives -/
theorem arr_of {args : Array Value} {s : State} {ty : FieldType} (h : (Cond.arrayClass ty).before args s = true) : ∃ cA : ClassId, ArrOfT s cA ty ∧ s.vm.findClass ("[" ++ ty.toString) = some cA := by
  obtain ⟨cA, kA, comp, h1, h2, h3⟩ := Cond.arrayClass_spec h
  exact ⟨cA, fun n z => ⟨fun k h => (by cases h), kA, h2, comp, h3⟩, h1⟩
theorem kt_of {args : Array Value} {s : State} (hts : ∀ w ∈ gT, w.before args s = true) : ∃ (D : va_G) (cI cZ cJ : ClassId), va_K D vwCl (KT cI cZ cJ) s := by
  have hin : ∀ ci, ci < 11 → Cond.instantiable (cR ci) (cN ci) ∈ gT := by
    intro ci h
    match ci, h with
    | 0, _ => exact in_gT (List.mem_of_getElem? (i := 219) (by decide +kernel)) rfl
    | 1, _ => exact in_gT (List.mem_of_getElem? (i := 268) (by decide +kernel)) rfl
    | 2, _ => exact in_gT (List.mem_of_getElem? (i := 246) (by decide +kernel)) rfl
    | 3, _ => exact in_gT (List.mem_of_getElem? (i := 88) (by decide +kernel)) rfl
    | 4, _ => exact in_gT (List.mem_of_getElem? (i := 183) (by decide +kernel)) rfl
    | 5, _ => exact in_gT (List.mem_of_getElem? (i := 266) (by decide +kernel)) rfl
    | 6, _ => exact in_gT (List.mem_of_getElem? (i := 403) (by decide +kernel)) rfl
    | 7, _ => exact in_gT (List.mem_of_getElem? (i := 423) (by decide +kernel)) rfl
    | 8, _ => exact in_gT (List.mem_of_getElem? (i := 167) (by decide +kernel)) rfl
    | 9, _ => exact in_gT (List.mem_of_getElem? (i := 80) (by decide +kernel)) rfl
    | 10, _ => exact in_gT (List.mem_of_getElem? (i := 1039) (by decide +kernel)) rfl
  have h1 : ∀ ci, ∃ q : ClassId × (Nat → Nat), ci < 11 → u_Kn s (cR ci) (cT ci) (cN ci) q.1 q.2 := by
    intro ci
    by_cases h : ci < 11
    · obtain ⟨cC, iS, hk⟩ := u_known (C := cR ci) (T := cT ci) (N := cN ci) (n := cN ci) hts (fun w hw => fW_in h hw) (hts _ (hin ci h))
      exact ⟨(cC, iS), fun _ => hk⟩
    · exact ⟨((0 : Nat), fun _ => 0), fun g => absurd g h⟩
  obtain ⟨cI, aI, nI'⟩ := arr_of (ty := .int) (hts _ (in_gT arrI_in rfl))
  obtain ⟨cZ, aZ, nZ⟩ := arr_of (ty := .boolean) (hts _ (in_gT arrZ_in rfl))
  obtain ⟨cJ, aJ, nJ⟩ := arr_of (ty := .long) (hts _ (in_gT arrJ_in rfl))
  refine ⟨(fun ci => (Classical.choose (h1 ci)).1, fun ci => (Classical.choose (h1 ci)).2), cI, cZ, cJ, fun k q hq => ?_, fun k q hq => ?_⟩
  · have hk : k < 11 := (List.getElem?_eq_some_iff.mp hq).1
    rw [cl_at hk] at hq
    cases hq
    exact Classical.choose_spec (h1 k) hk
  · match k, hq with
    | 0, hq => cases hq; exact ⟨aI, nI'⟩
    | 1, hq => cases hq; exact ⟨aZ, nZ⟩
    | 2, hq => cases hq; exact ⟨aJ, nJ⟩
    | k + 3, hq => exact absurd (List.getElem?_eq_some_iff.mp hq).1 (by show ¬ k + 3 < 3; omega)
theorem hzt_of {args : Array Value} {s : State} {A : Nat → Prop} (hgv : (Jvm.Cond.and given_1 narrow_1).before args s = true) (hT : ∀ w ∈ lw_tbl, w.before args s = true) (hA : ∀ a : Nat, a < s.heap.size → ¬ A a) : ∃ t : Nat, hZt t A s := by
  have hs := flat_of_before _ hgv
  have e0 := va_eqt (hs (.eq (.length (.static "IceOut$Stepper" "MOST_FLOES" "[I")) (.int 4)) (by decide +kernel))
  have e1 := va_eqt (hs (.eq (.elem (.static "IceOut$Stepper" "MOST_FLOES" "[I") (.int 0)) (.int 200)) (by decide +kernel))
  have e2 := va_eqt (hs (.eq (.elem (.static "IceOut$Stepper" "MOST_FLOES" "[I") (.int 1)) (.int 40)) (by decide +kernel))
  have e3 := va_eqt (hs (.eq (.elem (.static "IceOut$Stepper" "MOST_FLOES" "[I") (.int 2)) (.int 20)) (by decide +kernel))
  have e4 := va_eqt (hs (.eq (.elem (.static "IceOut$Stepper" "MOST_FLOES" "[I") (.int 3)) (.int 30)) (by decide +kernel))
  obtain ⟨t, ht, hv⟩ := va_Tof (tm := .static "IceOut$Stepper" "MOST_FLOES" "[I") (ty := .int) (N := 4) (f := fun k => .int (mfl k)) (A := A) (by decide) (hs (.arrayOf (.static "IceOut$Stepper" "MOST_FLOES" "[I") .int) (by decide +kernel)) e0 (fun j hj => by
    match j, hj with
    | 0, _ => exact e1
    | 1, _ => exact e2
    | 2, _ => exact e3
    | 3, _ => exact e4) hA
  exact ⟨t, va_Zof (hT _ (List.mem_of_getElem? (i := 744) (by decide +kernel))) (hT _ (List.mem_of_getElem? (i := 68) (by decide +kernel))) ht hA, hv, va_Nw.of rfl (hT _ (List.mem_of_getElem? (i := 888) (by decide +kernel)))⟩
theorem xz_of {args : Array Value} {s : State} {A : Nat → Prop} (hgv : (Jvm.Cond.and given_1 narrow_1).before args s = true) (hT : ∀ w ∈ lw_tbl, w.before args s = true) (hA : ∀ a : Nat, a < s.heap.size → ¬ A a) : xZ A s := by
  have hs := flat_of_before _ hgv
  exact ⟨vx_Zqof (hT _ (List.mem_of_getElem? (i := 988) (by decide +kernel))) (hT _ (List.mem_of_getElem? (i := 74) (by decide +kernel))) (hs (.isRef (.static "java/lang/Throwable" "UNASSIGNED_STACK" "[Ljava/lang/StackTraceElement;")) (by decide +kernel)) hA, vx_Zqof (hT _ (List.mem_of_getElem? (i := 990) (by decide +kernel))) (hT _ (List.mem_of_getElem? (i := 74) (by decide +kernel))) (hs (.isRef (.static "java/lang/Throwable" "SUPPRESSED_SENTINEL" "Ljava/util/List;")) (by decide +kernel)) hA⟩
theorem xn_of {args : Array Value} {s : State} (hgv : (Jvm.Cond.and given_1 narrow_1).before args s = true) (hT : ∀ w ∈ lw_tbl, w.before args s = true) : xN s := by
  have hs := flat_of_before _ hgv
  exact ⟨va_Nw.of rfl (hT _ (List.mem_of_getElem? (i := 963) (by decide +kernel))), va_Nw.of rfl (hT _ (List.mem_of_getElem? (i := 1025) (by decide +kernel))), va_Nw.of rfl (hT _ (List.mem_of_getElem? (i := 964) (by decide +kernel))), va_Nw.of rfl (hT _ (List.mem_of_getElem? (i := 966) (by decide +kernel))), va_Nw.of rfl (hT _ (List.mem_of_getElem? (i := 968) (by decide +kernel))), va_Nc.of (hs (.not (.castable "java/lang/IllegalStateException" "java/lang/IllegalArgumentException")) (by decide +kernel))⟩
theorem hZt.go {t : Nat} {A B : Nat → Prop} {s U : State} {H : Heap} {locs : List Loc} (h : hZt t A s) (hW : s.WarmedH U.vm) (hU : U.heap = H) (hS : va_S A s.heap H locs) (hAB : ∀ q, B q → A q) : hZt t B U := by
  unfold hZt
  rw [hU]
  exact ⟨((h.1.moved hW.alike).kept hS.2.1).narrow hAB, ((h.2.1.moved hW.alike).kept hS.2.1).narrow hAB, va_Nw.warmM hW h.2.2⟩
theorem hZt.call {t : Nat} {A : Nat → Prop} {U : State} {g : JFrame} {mk : MethodId} {a : Array Value} (h : hZt t A U) : hZt t A (U.calling g mk a) := ⟨h.1.moved (U := U.calling g mk a) (Vm.Alike.refl U.vm), h.2.1.moved (U := U.calling g mk a) (Vm.Alike.refl U.vm), va_Nw.same rfl (U := U.calling g mk a) rfl h.2.2⟩

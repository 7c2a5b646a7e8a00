/-! constructor of Tape -/
theorem vP_iff {D : va_G} {cl : List vw_C} {L : va_W} {H : Heap} : va_P D cl L H ↔ ∀ q, q ∈ L → va_at D cl q H :=
  ⟨fun h q hq => by obtain ⟨k, hk⟩ := List.getElem?_of_mem hq; exact h k q hk, fun h k q hk => h q (List.mem_of_getElem? hk)⟩
theorem vD_iff {A : Nat → Prop} {L : va_W} : va_D A L ↔ (L.map Prod.fst).Nodup ∧ ∀ q, q ∈ L → A q.1 := by
  constructor
  · intro h
    refine ⟨?_, fun q hq => by obtain ⟨k, hk⟩ := List.getElem?_of_mem hq; exact h.2 k q hk⟩
    unfold List.Nodup
    rw [List.pairwise_iff_getElem]
    intro i j hi hj hij he
    rw [List.length_map] at hi hj
    have := h.1 i j L[i] L[j] (List.getElem?_eq_getElem hi) (List.getElem?_eq_getElem hj) (by simpa using he)
    omega
  · rintro ⟨h1, h2⟩
    refine ⟨fun i j a b ha hb he => ?_, fun k q hk => h2 q (List.mem_of_getElem? hk)⟩
    have li : i < (L.map Prod.fst).length := by rw [List.length_map]; exact (List.getElem?_eq_some_iff.mp ha).1
    refine (List.getElem?_inj li h1).mp ?_
    rw [List.getElem?_map, List.getElem?_map, ha, hb]
    show some a.1 = some b.1
    rw [he]
theorem vP_perm {D : va_G} {cl : List vw_C} {L L' : va_W} {H : Heap} (h : L.Perm L') (hP : va_P D cl L H) : va_P D cl L' H := vP_iff.mpr fun q hq => vP_iff.mp hP q (h.mem_iff.mpr hq)
theorem vD_perm {A : Nat → Prop} {L L' : va_W} (h : L.Perm L') (hD : va_D A L) : va_D A L' := vD_iff.mpr ⟨(h.map Prod.fst).nodup_iff.mp (vD_iff.mp hD).1, fun q hq => (vD_iff.mp hD).2 q (h.mem_iff.mpr hq)⟩
theorem b_swap {X Y : va_W} {c : Nat × va_E} : ((X ++ [c]) ++ Y).Perm ((X ++ Y) ++ [c]) := by
  rw [List.append_assoc, List.append_assoc]
  exact List.Perm.append_left X List.perm_append_comm
def SBk (g : Nat) : List Ob := [(g, 62), (g, 66), (g, 67), (g, 68), (g, 63), (g, 64), (g, 65)]
theorem SBk_o {g : Nat} {o : Ob} (h : o ∈ SBk g) : o.1 = g ∧ 62 ≤ o.2 ∧ o.2 ≤ 68 := by
  unfold SBk at h
  simp only [List.mem_cons, List.not_mem_nil, or_false] at h
  rcases h with rfl | rfl | rfl | rfl | rfl | rfl | rfl <;> exact ⟨rfl, by show 62 ≤ _; omega, by show _ ≤ 68; omega⟩
theorem SBk_refs {g : Nat} : ∀ o, o ∈ SBk g → refsIn (SBk g) o := by
  intro o ho
  unfold SBk at ho
  simp only [List.mem_cons, List.not_mem_nil, or_false] at ho
  rcases ho with rfl | rfl | rfl | rfl | rfl | rfl | rfl
  · refine ⟨fun _ k f j hk hf => ?_, Or.inl rfl⟩
    have hk : k < 7 := hk
    have hf : fd1 k = some (f, j) := hf
    unfold SBk
    rcases (show k = 0 ∨ k = 1 ∨ k = 2 ∨ k = 3 ∨ k = 4 ∨ k = 5 ∨ k = 6 by omega) with rfl | rfl | rfl | rfl | rfl | rfl | rfl
    · cases hf; simp
    · cases hf; simp
    · cases hf; simp
    · cases hf; simp
    · cases hf; simp
    · cases hf; simp
    · cases hf
  all_goals exact ⟨fun e => absurd e (by show ¬ (2 : Nat) = 1; decide), Or.inr (Or.inl rfl)⟩
theorem S40_o {g : Nat} {o : Ob} (h : o ∈ S40 g) : o.1 = g ∧ 40 ≤ o.2 ∧ o.2 ≤ 53 := by
  unfold S40 at h
  simp only [List.mem_cons, List.not_mem_nil, or_false] at h
  rcases h with rfl | rfl | rfl | rfl | rfl | rfl | rfl | rfl | rfl | rfl | rfl | rfl | rfl | rfl <;> exact ⟨rfl, by show 40 ≤ _; omega, by show _ ≤ 53; omega⟩
theorem SS_o {g : Nat} {o : Ob} (h : o ∈ SS g) : 40 ≤ o.2 ∧ o.2 ≤ 57 := by
  unfold SS at h
  rcases List.mem_append.mp h with h | h
  · have := S40_o h; omega
  · rcases List.mem_append.mp h with h | h
    · have := SA_o h; omega
    · have := SA_o h; omega
theorem refsIn_mono {T T' : List Ob} {o : Ob} (h : refsIn T o) (hs : ∀ x, x ∈ T → x ∈ T') : refsIn T' o := ⟨fun e k f j hk hf => hs _ (h.1 e k f j hk hf), h.2⟩
theorem SS_refs {g : Nat} : ∀ o, o ∈ SS g → refsIn (SS g ++ [(bg g, 62)]) o := by
  intro o ho
  have ho' := ho
  unfold SS at ho
  rcases List.mem_append.mp ho with ho | ho
  · unfold S40 at ho
    simp only [List.mem_cons, List.not_mem_nil, or_false] at ho
    rcases ho with rfl | ho
    · refine ⟨fun _ k f j hk hf => ?_, Or.inl rfl⟩
      have hk : k < 20 := hk
      have hf : fd5 k = some (f, j) := hf
      unfold SS S40 SA
      rcases (show k = 0 ∨ k = 1 ∨ k = 2 ∨ k = 3 ∨ k = 4 ∨ k = 5 ∨ k = 6 ∨ k = 7 ∨ k = 8 ∨ k = 9 ∨ k = 10 ∨ k = 11 ∨ k = 12 ∨ k = 13 ∨ k = 14 ∨ k = 15 ∨ k = 16 ∨ k = 17 ∨ k = 18 ∨ k = 19 by omega) with rfl | rfl | rfl | rfl | rfl | rfl | rfl | rfl | rfl | rfl | rfl | rfl | rfl | rfl | rfl | rfl | rfl | rfl | rfl | rfl
      all_goals first | (cases hf; done) | (cases hf; simp)
    · have hs : shk o.2 = 2 := by
        rcases ho with rfl | rfl | rfl | rfl | rfl | rfl | rfl | rfl | rfl | rfl | rfl | rfl | rfl <;> rfl
      exact ⟨fun e => absurd (e.symm.trans hs) (by decide), Or.inr (Or.inl hs)⟩
  · rcases List.mem_append.mp ho with ho | ho
    · exact refsIn_mono (SA_refs o ho) (fun x hx => by unfold SS; simp [hx])
    · exact refsIn_mono (SA_refs o ho) (fun x hx => by unfold SS; simp [hx])
def STp (d : Nat) : List Ob := [(d, 70), (d, 71)] ++ (SBk (3 + d) ++ SS (3 + d))
def adT (l : List Nat) (aB aS : AD) : AD := fun o => bif Nat.blt 69 o.2 then adL l 70 o else bif Nat.blt 61 o.2 then aB o else aS o
theorem blt_f {a b : Nat} (h : ¬ a < b) : Nat.blt a b = false := by rw [Bool.eq_false_iff]; intro x; exact h (Nat.le_of_ble_eq_true x)
theorem blt_t {a b : Nat} (h : a < b) : Nat.blt a b = true := Nat.ble_eq_true_of_le h
theorem adT_B {l aB aS g} : ∀ o, o ∈ SBk g → adT l aB aS o = aB o := by
  intro o ho
  have := SBk_o ho
  unfold adT
  rw [blt_f (by omega), blt_t (by omega)]; rfl
theorem adT_S {l aB aS d} (h : aB (3 + d, 62) = aS (3 + d, 62)) : ∀ o, o ∈ SS (3 + d) ++ [(bg (3 + d), 62)] → adT l aB aS o = aS o := by
  intro o ho
  rcases List.mem_append.mp ho with ho | ho
  · have := SS_o ho
    unfold adT
    rw [blt_f (by omega), blt_f (by omega)]; rfl
  · rw [List.mem_singleton.mp ho, bg3]
    show aB (3 + d, 62) = aS (3 + d, 62)
    exact h
theorem len_bk {d : Nat} : len (3 + d) 63 = 7224 := by show (if 3 + d = 1 then 9528 else 7224) = 7224; rw [if_neg (by omega)]
theorem dk7_0 : decode cX7_init 0 = .ok (.aload_n 0, 1) := by decide +kernel
theorem dk7_1 : decode cX7_init 1 = .ok (.invokespecial 3, 3) := by decide +kernel
theorem dk7_4 : decode cX7_init 4 = .ok (.aload_n 0, 1) := by decide +kernel
theorem dk7_5 : decode cX7_init 5 = .ok (.bipush 100, 2) := by decide +kernel
theorem dk7_7 : decode cX7_init 7 = .ok (.newarray .long, 2) := by decide +kernel
theorem dk7_9 : decode cX7_init 9 = .ok (.putfield 9, 3) := by decide +kernel
theorem dk7_12 : decode cX7_init 12 = .ok (.aload_n 0, 1) := by decide +kernel
theorem dk7_13 : decode cX7_init 13 = .ok (.new 15, 3) := by decide +kernel
theorem dk7_16 : decode cX7_init 16 = .ok (.dup, 1) := by decide +kernel
theorem dk7_17 : decode cX7_init 17 = .ok (.new 17, 3) := by decide +kernel
theorem dk7_20 : decode cX7_init 20 = .ok (.dup, 1) := by decide +kernel
theorem dk7_21 : decode cX7_init 21 = .ok (.sipush 300, 3) := by decide +kernel
theorem dk7_24 : decode cX7_init 24 = .ok (.invokespecial 19, 3) := by decide +kernel
theorem dk7_27 : decode cX7_init 27 = .ok (.invokespecial 22, 3) := by decide +kernel
theorem dk7_30 : decode cX7_init 30 = .ok (.putfield 25, 3) := by decide +kernel
theorem dk7_33 : decode cX7_init 33 = .ok (.return_, 1) := by decide +kernel
set_option maxHeartbeats 4000000 in
set_option maxRecDepth 100000 in
theorem k_X7 (l : Launch) (D : va_G) (cI cZ cJ cW cP : ClassId) (h0 sz : Nat) (d : Nat) (hd : d < 6) : Met l yX7_init (Cond.code yX7_init cX7_init 1 none :: gT) { frames := 3, cells := 30, slots := 29379, locals := 110 } (va_Pc [.ref h0] (fun U => U.heap.size = sz ∧ va_P D vwCl [(h0, .inr (7, [.int 0, .int 0, .int 0, .null, .null]))] U.heap ∧ va_K D vwCl (KT cI cZ cJ) U ∧ va_D (fun _ => True) [(h0, .inr (7, [.int 0, .int 0, .int 0, .null, .null]))])) (va_Qv (fun ad : AD => ad (d, 70) = h0) (fun ad t => va_P D vwCl (WS ad cI cZ cJ cW cP z0 (STp d)) t.heap ∧ va_K D vwCl (KT cI cZ cJ) t ∧ va_D (va_A [(h0, .inr (7, [.int 0, .int 0, .int 0, .null, .null]))] sz) (WS ad cI cZ cJ cW cP z0 (STp d))) (va_A [(h0, .inr (7, [.int 0, .int 0, .int 0, .null, .null]))] sz)) 30 29379 (va_A [(h0, .inr (7, [.int 0, .int 0, .int 0, .null, .null]))] sz) := by
  refine Met.ofW (cc := cX7_init) (maxL := 1) (ret := none) (by decide) rfl ?_
  intro p e s m args below meth c s₁ B hml hv
  obtain ⟨rfl, hsz, hP, hK, hD0⟩ := hv
  have hx := B.exec
  have hb := B.bytes
  have hr := B.returns
  have hts0 := atoms_spec (ws := Cond.code yX7_init cX7_init 1 none :: gT) B.pre
  have hts : ∀ w ∈ gT, w.before _ s = true := fun w hw => hts0 w (List.mem_cons_of_mem _ hw)
  have hown : s.vm.findClass (cR 7) = some m.cls := findClass_of_methodNamed B.named
  have hlocks := B.notSynchronized
  have hin : meth.name = "<init>" := (name_of_methodNamed B.named B.method).1
  subst hsz
  have hD := hD0.self (sz := s.heap.size)
  generalize hAe : va_A [(h0, .inr (7, [.int 0, .int 0, .int 0, .null, .null]))] s.heap.size = A at hD ⊢
  have hA : ∀ q : Nat, s.heap.size ≤ q → A q := fun q h => by rw [← hAe]; exact Or.inr h
  have hS : va_S A s.heap s.heap [] := va_S.rf
  have hP : va_P D vwCl [(h0, .inr (7, [.int 0, .int 0, .int 0, .null, .null]))] s.heap := hP
  have hl := lv_entry ([.ref h0]) (n := 1) (Nat.le_of_ble_eq_true rfl)
  rw [lg_entry_eq]
  generalize (lg_sl ([.ref h0]) ++ List.replicate (1 - (lg_sl ([.ref h0])).length) Slot.unset).toArray = ls at hl ⊢
  have hl : lv_has ls 1 [(0, .ref h0)] := hl
  refine lv_aload_n hx hb dk7_0 rfl (lv_at hl 0 rfl) ?_
  refine W.objInit hx hb hown (hts _ (in_gT (List.mem_of_getElem? (i := 427) (by decide +kernel)) rfl)) (hts _ (in_gT (List.mem_of_getElem? (i := 85) (by decide +kernel)) rfl)) (hts _ objc_gT) rfl (by rw [hml]; exact hl.1) rfl dk7_1 (Nat.le_of_ble_eq_true rfl) (Nat.le_of_ble_eq_true rfl) ?_
  refine W.eq (g2 := F0 m 4 ls []) rfl ?_
  refine lv_aload_n hx hb dk7_4 rfl (lv_at hl 0 rfl) ?_
  refine lv_bipush (v := nI 100) hx hb dk7_5 (by decide +kernel) ?_
  refine b_arrJ (ci := 7) (N := 100) hx hb hts hown hin (by decide) hK hP hD hS hA 3 (by decide) (in_gT (List.mem_of_getElem? (i := 437) (by decide +kernel)) rfl) rfl rfl (by decide +kernel) (Nat.le_of_ble_eq_true rfl) (by decide) (Nat.le_of_ble_eq_true rfl) (Nat.le_of_ble_eq_true rfl) dk7_7 dk7_9 (fun q1 H locs hP hD hS => ?_)
  have hP : va_P D vwCl [(h0, .inr (7, [.int 0, .int 0, .int 0, .ref q1, .null])), (q1, .inl (cJ, 100, .inr (.inl (fun _ => 0))))] H := hP
  have hD : va_D A [(h0, .inr (7, [.int 0, .int 0, .int 0, .ref q1, .null])), (q1, .inl (cJ, 100, .inr (.inl (fun _ => 0))))] := hD
  refine lv_aload_n hx hb dk7_12 rfl (lv_at hl 0 rfl) ?_
  refine va_new (ci := 5) (fs := [.int 0, .int 0, .int 0, .int 0, .null, .null, .null, .null, .null, .null, .null, .null, .null, .null, .null, .null, .null, .null, .null, .null]) (C := cR 5) (T := cT 5) (N := cN 5) hx hb hts (fun w hw => fW_in (ci := 5) (by decide) hw) (tyF 5) (tyF_ok (ci := 5) (by decide)) hown (hts _ (in_gT (List.mem_of_getElem? (i := 428) (by decide +kernel)) rfl)) (hts _ (in_gT (List.mem_of_getElem? (i := 266) (by decide +kernel)) rfl)) (hts _ (in_gT (List.mem_of_getElem? (i := 66) (by decide +kernel)) rfl)) hK hP hD hS hA (cl_at (ci := 5) (by decide)) (fun j hj => dfl5 j hj) (Nat.le_of_ble_eq_true rfl) (Nat.le_of_ble_eq_true rfl) dk7_13 (fun qs H hP hD hS => ?_)
  have hP : va_P D vwCl [(h0, .inr (7, [.int 0, .int 0, .int 0, .ref q1, .null])), (q1, .inl (cJ, 100, .inr (.inl (fun _ => 0)))), (qs, .inr (5, [.int 0, .int 0, .int 0, .int 0, .null, .null, .null, .null, .null, .null, .null, .null, .null, .null, .null, .null, .null, .null, .null, .null]))] H := hP
  have hD : va_D A [(h0, .inr (7, [.int 0, .int 0, .int 0, .ref q1, .null])), (q1, .inl (cJ, 100, .inr (.inl (fun _ => 0)))), (qs, .inr (5, [.int 0, .int 0, .int 0, .int 0, .null, .null, .null, .null, .null, .null, .null, .null, .null, .null, .null, .null, .null, .null, .null, .null]))] := hD
  refine lv_dup hx hb dk7_16 rfl ?_
  refine va_new (ci := 1) (fs := [.null, .null, .null, .null, .null, .null, .int 0]) (C := cR 1) (T := cT 1) (N := cN 1) hx hb hts (fun w hw => fW_in (ci := 1) (by decide) hw) (tyF 1) (tyF_ok (ci := 1) (by decide)) hown (hts _ (in_gT (List.mem_of_getElem? (i := 429) (by decide +kernel)) rfl)) (hts _ (in_gT (List.mem_of_getElem? (i := 268) (by decide +kernel)) rfl)) (hts _ (in_gT (List.mem_of_getElem? (i := 67) (by decide +kernel)) rfl)) hK hP hD hS hA (cl_at (ci := 1) (by decide)) (fun j hj => dfl1 j hj) (Nat.le_of_ble_eq_true rfl) (Nat.le_of_ble_eq_true rfl) dk7_17 (fun qb H hP hD hS => ?_)
  refine lv_dup hx hb dk7_20 rfl ?_
  refine lv_sipush (v := nI 300) hx hb dk7_21 (by decide +kernel) ?_
  refine b_call (X := [(h0, .inr (7, [.int 0, .int 0, .int 0, .ref q1, .null])), (q1, .inl (cJ, 100, .inr (.inl (fun _ => 0)))), (qs, .inr (5, [.int 0, .int 0, .int 0, .int 0, .null, .null, .null, .null, .null, .null, .null, .null, .null, .null, .null, .null, .null, .null, .null, .null]))]) (q := qb) (As := [.int (nI 300)]) (ci' := 1) (fs' := [.null, .null, .null, .null, .null, .null, .int 0]) (own := cR 7) (cW := cW) (cP := cP) hx hb hml hown hts hK hP hD hS hA (k_X1 l D cI cZ cJ cW cP qb H.size (3 + d) 300 (by rw [len_bk]; omega) (by rw [len_bk])) (in_gT (List.mem_of_getElem? (i := 271) (by decide +kernel)) rfl) (in_gT (List.mem_of_getElem? (i := 67) (by decide +kernel)) rfl) (in_gT (List.mem_of_getElem? (i := 270) (by decide +kernel)) rfl) (in_gT (List.mem_of_getElem? (i := 430) (by decide +kernel)) rfl) rfl ⟨by decide, by decide, show _ = some 1 by decide +kernel⟩ rfl rfl ⟨Nat.le_of_ble_eq_true rfl, Nat.le_of_ble_eq_true rfl⟩ hl.1 (Nat.le_of_ble_eq_true rfl) dk7_24 ⟨Nat.le_of_ble_eq_true rfl, Nat.le_of_ble_eq_true rfl⟩ (fun aB H locs pB hP hD hS => ?_)
  have pB : aB (3 + d, 62) = qb := pB
  have hP : va_P D vwCl (([(h0, .inr (7, [.int 0, .int 0, .int 0, .ref q1, .null])), (q1, .inl (cJ, 100, .inr (.inl (fun _ => 0))))] ++ [(qs, .inr (5, [.int 0, .int 0, .int 0, .int 0, .null, .null, .null, .null, .null, .null, .null, .null, .null, .null, .null, .null, .null, .null, .null, .null]))]) ++ WS aB cI cZ cJ cW cP z0 (SBk (3 + d))) H := hP
  have hD : va_D A (([(h0, .inr (7, [.int 0, .int 0, .int 0, .ref q1, .null])), (q1, .inl (cJ, 100, .inr (.inl (fun _ => 0))))] ++ [(qs, .inr (5, [.int 0, .int 0, .int 0, .int 0, .null, .null, .null, .null, .null, .null, .null, .null, .null, .null, .null, .null, .null, .null, .null, .null]))]) ++ WS aB cI cZ cJ cW cP z0 (SBk (3 + d))) := hD
  have hP := vP_perm b_swap hP
  have hD := vD_perm b_swap hD
  refine b_call (X := ([(h0, .inr (7, [.int 0, .int 0, .int 0, .ref q1, .null])), (q1, .inl (cJ, 100, .inr (.inl (fun _ => 0))))] ++ WS aB cI cZ cJ cW cP z0 (SBk (3 + d)))) (q := qs) (As := [.ref qb]) (ci' := 5) (fs' := [.int 0, .int 0, .int 0, .int 0, .null, .null, .null, .null, .null, .null, .null, .null, .null, .null, .null, .null, .null, .null, .null, .null]) (own := cR 7) (cW := cW) (cP := cP) hx hb hml hown hts hK hP hD hS hA (k_X5 l D cI cZ cJ cW cP qs H.size (3 + d) qb (by omega)) (in_gT (List.mem_of_getElem? (i := 298) (by decide +kernel)) rfl) (in_gT (List.mem_of_getElem? (i := 66) (by decide +kernel)) rfl) (in_gT (List.mem_of_getElem? (i := 297) (by decide +kernel)) rfl) (in_gT (List.mem_of_getElem? (i := 431) (by decide +kernel)) rfl) rfl ⟨by decide, by decide, show _ = some 1 by decide +kernel⟩ rfl rfl ⟨Nat.le_of_ble_eq_true rfl, Nat.le_of_ble_eq_true rfl⟩ hl.1 (Nat.le_of_ble_eq_true rfl) dk7_27 ⟨Nat.le_of_ble_eq_true rfl, Nat.le_of_ble_eq_true rfl⟩ (fun aS H locs pS hP hD hS => ?_)
  have pS : aS (3 + d, 40) = qs ∧ aS (bg (3 + d), 62) = qb := pS
  have hP : va_P D vwCl ((h0, .inr (7, [.int 0, .int 0, .int 0, .ref q1, .null])) :: ([(q1, .inl (cJ, 100, .inr (.inl (fun _ => 0))))] ++ WS aB cI cZ cJ cW cP z0 (SBk (3 + d)) ++ WS aS cI cZ cJ cW cP z0 (SS (3 + d)))) H := hP
  have hD : va_D A ((h0, .inr (7, [.int 0, .int 0, .int 0, .ref q1, .null])) :: ([(q1, .inl (cJ, 100, .inr (.inl (fun _ => 0))))] ++ WS aB cI cZ cJ cW cP z0 (SBk (3 + d)) ++ WS aS cI cZ cJ cW cP z0 (SS (3 + d)))) := hD
  refine b_put (ci := 7) (ty := .object "IceOut$State") hx hb hts hown hin (by decide) hK hP hD hS 4 (by decide) (in_gT (List.mem_of_getElem? (i := 441) (by decide +kernel)) rfl) rfl rfl (by decide +kernel) rfl rfl (Nat.le_of_ble_eq_true rfl) dk7_30 (fun H locs hP hD hS => ?_)
  have es : (adT [h0, q1] aB aS) (3 + d, 40) = qs := by rw [adT_S (by rw [pB, ← pS.2, bg3]) _ (by unfold SS S40; simp)]; exact pS.1
  have e70 : WS (adT [h0, q1] aB aS) cI cZ cJ cW cP z0 [(d, 70), (d, 71)] = [(h0, .inr (7, [.int 0, .int 0, .int 0, .ref q1, .ref ((adT [h0, q1] aB aS) (3 + d, 40))])), (q1, .inl (cJ, 100, .inr (.inl (fun _ => 0))))] := rfl
  rw [es] at e70
  have eS : WS (adT [h0, q1] aB aS) cI cZ cJ cW cP z0 (STp d) = (h0, .inr (7, [.int 0, .int 0, .int 0, .ref q1, .ref qs])) :: ([(q1, .inl (cJ, 100, .inr (.inl (fun _ => 0))))] ++ WS aB cI cZ cJ cW cP z0 (SBk (3 + d)) ++ WS aS cI cZ cJ cW cP z0 (SS (3 + d))) := by
    unfold STp
    rw [WS_app, WS_app, e70, WS_ad SBk_refs (fun _ h => h) adT_B, WS_ad SS_refs (fun _ h => List.mem_append_left _ h) (adT_S (by rw [pB, ← pS.2, bg3]))]
    rfl
  have hP : va_P D vwCl ((h0, .inr (7, [.int 0, .int 0, .int 0, .ref q1, .ref qs])) :: ([(q1, .inl (cJ, 100, .inr (.inl (fun _ => 0))))] ++ WS aB cI cZ cJ cW cP z0 (SBk (3 + d)) ++ WS aS cI cZ cJ cW cP z0 (SS (3 + d)))) H := hP
  have hD : va_D A ((h0, .inr (7, [.int 0, .int 0, .int 0, .ref q1, .ref qs])) :: ([(q1, .inl (cJ, 100, .inr (.inl (fun _ => 0))))] ++ WS aB cI cZ cJ cW cP z0 (SBk (3 + d)) ++ WS aS cI cZ cJ cW cP z0 (SS (3 + d)))) := hD
  rw [← eS] at hP hD
  refine W.widen (k := 30) (n := 29379) (Nat.le_of_ble_eq_true rfl) (Nat.le_of_ble_eq_true rfl) ?_
  exact W.vret hx hb hr (fun t ht hW => ⟨⟨adT [h0, q1] aB aS, rfl, rfl, by rw [ht]; exact hP, va_K.moved hW.alike hK, hD⟩, hS.F ht⟩) hS.2.2 dk7_33

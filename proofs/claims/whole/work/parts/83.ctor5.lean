/-! constructor of the model -/
def K10 (w : PW) : Prop := ∃ f, gI w (0, 90) 30 = nI 4 ∧ gI w (0, 90) 31 = 0 ∧ gI w (0, 90) 32 = 2 ∧ gI w (0, 90) 33 = 0 ∧ gI w (0, 90) 34 = 0 ∧ gI w (0, 90) 35 = 0 ∧ gI w (0, 90) 36 = 0 ∧ gI w (0, 90) 37 = nI 1 ∧ (∀ f i, f ≤ 10 → i < 4 → cm w f i = lo 4 f i) ∧ (∀ b, b < 4 → clm' w b) ∧ gI w (1, 114) = f ∧ SM (lo 4) 4 f ∧ ∀ d, d < 6 → gI w (0, 118) d = 0
theorem m_born {k : Int32 → PW → Prop} (hk : ∀ x w, K10 w → k x w) : Cl 115 [vO 0 90, vI (nI 4)] z0 (kI k) := by
  refine m_begin (by omega) (by omega) ?_
  intro w' f e2 fr a30 a31 a32 a33 a34 a35 a36 a37 b1 b2 b3 b4
  exact hk _ _ ⟨f, a30, a31, a32, a33, a34, a35, a36, by rw [a37]; rfl, b1, b2, b3, b4, fun d hd => by rw [fr 0 118 (by omega)]; rfl⟩
def hZt (t : Nat) (A : Nat → Prop) (s : State) : Prop := va_Z "IceOut$Stepper" "MOST_FLOES" "[I" (.ref t) A s s.heap ∧ va_T .int t 4 (fun k => .int (mfl k)) A s s.heap ∧ va_Nw (.methodLinkNest "IceOut$Marks" 25 yX9_isWithin "IceOut") s
theorem cellI {ad : AD} {cI cZ cJ cW cP : ClassId} {w : PW} {o : Ob} {n : Nat} {f : Nat → Int32} (h : shk o.2 = 2) (hl : len o.1 o.2 = n) (hf : gI w o = f) : cellOf ad cI cZ cJ cW cP w o = .inl (cI, n, .inl f) := by
  unfold cellOf; rw [h, hl, hf]; rfl
theorem cellZ {ad : AD} {cI cZ cJ cW cP : ClassId} {w : PW} {o : Ob} {n : Nat} {f : Nat → Int32} (h : shk o.2 = 3) (hl : len o.1 o.2 = n) (hf : gI w o = f) : cellOf ad cI cZ cJ cW cP w o = .inl (cZ, n, .inl f) := by
  unfold cellOf; rw [h, hl, hf]; rfl
theorem cellJ {ad : AD} {cI cZ cJ cW cP : ClassId} {w : PW} {o : Ob} {n : Nat} {f : Nat → Int64} (h : shk o.2 = 4) (hl : len o.1 o.2 = n) (hf : gL w o = f) : cellOf ad cI cZ cJ cW cP w o = .inl (cJ, n, .inr (.inl f)) := by
  unfold cellOf; rw [h, hl, hf]; rfl
theorem cellO {ad : AD} {cI cZ cJ cW cP : ClassId} {w : PW} {o : Ob} {n : Nat} (h : shk o.2 = 1) (hl : shc o.2 = n) : cellOf ad cI cZ cJ cW cP w o = .inr (n, (List.range (cN n)).map (fldV ad w o n)) := by
  unfold cellOf fldL; rw [h, hl]; rfl
def adM (l : List Nat) (t : Nat) : AD := fun o => bif Nat.beq o.2 33 then t else l.getD (bif Nat.blt o.2 114 then o.2 - 90 else bif Nat.beq o.2 114 then 23 + o.1 else o.2 - 90) 0
theorem dk10_0 : decode cX10_init 0 = .ok (.aload_n 0, 1) := by decide +kernel
theorem dk10_1 : decode cX10_init 1 = .ok (.invokespecial 3, 3) := by decide +kernel
theorem dk10_4 : decode cX10_init 4 = .ok (.aload_n 0, 1) := by decide +kernel
theorem dk10_5 : decode cX10_init 5 = .ok (.bipush 24, 2) := by decide +kernel
theorem dk10_7 : decode cX10_init 7 = .ok (.newarray .int, 2) := by decide +kernel
theorem dk10_9 : decode cX10_init 9 = .ok (.putfield 9, 3) := by decide +kernel
theorem dk10_12 : decode cX10_init 12 = .ok (.aload_n 0, 1) := by decide +kernel
theorem dk10_13 : decode cX10_init 13 = .ok (.bipush 24, 2) := by decide +kernel
theorem dk10_15 : decode cX10_init 15 = .ok (.newarray .int, 2) := by decide +kernel
theorem dk10_17 : decode cX10_init 17 = .ok (.putfield 13, 3) := by decide +kernel
theorem dk10_20 : decode cX10_init 20 = .ok (.aload_n 0, 1) := by decide +kernel
theorem dk10_21 : decode cX10_init 21 = .ok (.bipush 24, 2) := by decide +kernel
theorem dk10_23 : decode cX10_init 23 = .ok (.newarray .int, 2) := by decide +kernel
theorem dk10_25 : decode cX10_init 25 = .ok (.putfield 16, 3) := by decide +kernel
theorem dk10_28 : decode cX10_init 28 = .ok (.aload_n 0, 1) := by decide +kernel
theorem dk10_29 : decode cX10_init 29 = .ok (.bipush 24, 2) := by decide +kernel
theorem dk10_31 : decode cX10_init 31 = .ok (.newarray .int, 2) := by decide +kernel
theorem dk10_33 : decode cX10_init 33 = .ok (.putfield 19, 3) := by decide +kernel
theorem dk10_36 : decode cX10_init 36 = .ok (.aload_n 0, 1) := by decide +kernel
theorem dk10_37 : decode cX10_init 37 = .ok (.bipush 24, 2) := by decide +kernel
theorem dk10_39 : decode cX10_init 39 = .ok (.newarray .int, 2) := by decide +kernel
theorem dk10_41 : decode cX10_init 41 = .ok (.putfield 22, 3) := by decide +kernel
theorem dk10_44 : decode cX10_init 44 = .ok (.aload_n 0, 1) := by decide +kernel
theorem dk10_45 : decode cX10_init 45 = .ok (.bipush 24, 2) := by decide +kernel
theorem dk10_47 : decode cX10_init 47 = .ok (.newarray .int, 2) := by decide +kernel
theorem dk10_49 : decode cX10_init 49 = .ok (.putfield 25, 3) := by decide +kernel
theorem dk10_52 : decode cX10_init 52 = .ok (.aload_n 0, 1) := by decide +kernel
theorem dk10_53 : decode cX10_init 53 = .ok (.bipush 24, 2) := by decide +kernel
theorem dk10_55 : decode cX10_init 55 = .ok (.newarray .int, 2) := by decide +kernel
theorem dk10_57 : decode cX10_init 57 = .ok (.putfield 28, 3) := by decide +kernel
theorem dk10_60 : decode cX10_init 60 = .ok (.aload_n 0, 1) := by decide +kernel
theorem dk10_61 : decode cX10_init 61 = .ok (.bipush 24, 2) := by decide +kernel
theorem dk10_63 : decode cX10_init 63 = .ok (.newarray .int, 2) := by decide +kernel
theorem dk10_65 : decode cX10_init 65 = .ok (.putfield 31, 3) := by decide +kernel
theorem dk10_68 : decode cX10_init 68 = .ok (.aload_n 0, 1) := by decide +kernel
theorem dk10_69 : decode cX10_init 69 = .ok (.bipush 24, 2) := by decide +kernel
theorem dk10_71 : decode cX10_init 71 = .ok (.newarray .int, 2) := by decide +kernel
theorem dk10_73 : decode cX10_init 73 = .ok (.putfield 34, 3) := by decide +kernel
theorem dk10_76 : decode cX10_init 76 = .ok (.aload_n 0, 1) := by decide +kernel
theorem dk10_77 : decode cX10_init 77 = .ok (.bipush 24, 2) := by decide +kernel
theorem dk10_79 : decode cX10_init 79 = .ok (.newarray .int, 2) := by decide +kernel
theorem dk10_81 : decode cX10_init 81 = .ok (.putfield 37, 3) := by decide +kernel
theorem dk10_84 : decode cX10_init 84 = .ok (.aload_n 0, 1) := by decide +kernel
theorem dk10_85 : decode cX10_init 85 = .ok (.bipush 24, 2) := by decide +kernel
theorem dk10_87 : decode cX10_init 87 = .ok (.newarray .boolean, 2) := by decide +kernel
theorem dk10_89 : decode cX10_init 89 = .ok (.putfield 40, 3) := by decide +kernel
theorem dk10_92 : decode cX10_init 92 = .ok (.aload_n 0, 1) := by decide +kernel
theorem dk10_93 : decode cX10_init 93 = .ok (.sipush 256, 3) := by decide +kernel
theorem dk10_96 : decode cX10_init 96 = .ok (.newarray .int, 2) := by decide +kernel
theorem dk10_98 : decode cX10_init 98 = .ok (.putfield 44, 3) := by decide +kernel
theorem dk10_101 : decode cX10_init 101 = .ok (.aload_n 0, 1) := by decide +kernel
theorem dk10_102 : decode cX10_init 102 = .ok (.sipush 256, 3) := by decide +kernel
theorem dk10_105 : decode cX10_init 105 = .ok (.newarray .int, 2) := by decide +kernel
theorem dk10_107 : decode cX10_init 107 = .ok (.putfield 47, 3) := by decide +kernel
theorem dk10_110 : decode cX10_init 110 = .ok (.aload_n 0, 1) := by decide +kernel
theorem dk10_111 : decode cX10_init 111 = .ok (.iconst 4, 1) := by decide +kernel
theorem dk10_112 : decode cX10_init 112 = .ok (.newarray .int, 2) := by decide +kernel
theorem dk10_114 : decode cX10_init 114 = .ok (.putfield 50, 3) := by decide +kernel
theorem dk10_117 : decode cX10_init 117 = .ok (.aload_n 0, 1) := by decide +kernel
theorem dk10_118 : decode cX10_init 118 = .ok (.bipush 12, 2) := by decide +kernel
theorem dk10_120 : decode cX10_init 120 = .ok (.newarray .int, 2) := by decide +kernel
theorem dk10_122 : decode cX10_init 122 = .ok (.putfield 53, 3) := by decide +kernel
theorem dk10_125 : decode cX10_init 125 = .ok (.aload_n 0, 1) := by decide +kernel
theorem dk10_126 : decode cX10_init 126 = .ok (.bipush 12, 2) := by decide +kernel
theorem dk10_128 : decode cX10_init 128 = .ok (.newarray .int, 2) := by decide +kernel
theorem dk10_130 : decode cX10_init 130 = .ok (.putfield 56, 3) := by decide +kernel
theorem dk10_133 : decode cX10_init 133 = .ok (.aload_n 0, 1) := by decide +kernel
theorem dk10_134 : decode cX10_init 134 = .ok (.sipush 1200, 3) := by decide +kernel
theorem dk10_137 : decode cX10_init 137 = .ok (.newarray .int, 2) := by decide +kernel
theorem dk10_139 : decode cX10_init 139 = .ok (.putfield 59, 3) := by decide +kernel
theorem dk10_142 : decode cX10_init 142 = .ok (.aload_n 0, 1) := by decide +kernel
theorem dk10_143 : decode cX10_init 143 = .ok (.bipush 8, 2) := by decide +kernel
theorem dk10_145 : decode cX10_init 145 = .ok (.newarray .int, 2) := by decide +kernel
theorem dk10_147 : decode cX10_init 147 = .ok (.putfield 62, 3) := by decide +kernel
theorem dk10_150 : decode cX10_init 150 = .ok (.aload_n 0, 1) := by decide +kernel
theorem dk10_151 : decode cX10_init 151 = .ok (.bipush 8, 2) := by decide +kernel
theorem dk10_153 : decode cX10_init 153 = .ok (.newarray .int, 2) := by decide +kernel
theorem dk10_155 : decode cX10_init 155 = .ok (.putfield 65, 3) := by decide +kernel
theorem dk10_158 : decode cX10_init 158 = .ok (.aload_n 0, 1) := by decide +kernel
theorem dk10_159 : decode cX10_init 159 = .ok (.bipush 8, 2) := by decide +kernel
theorem dk10_161 : decode cX10_init 161 = .ok (.newarray .int, 2) := by decide +kernel
theorem dk10_163 : decode cX10_init 163 = .ok (.putfield 68, 3) := by decide +kernel
theorem dk10_166 : decode cX10_init 166 = .ok (.aload_n 0, 1) := by decide +kernel
theorem dk10_167 : decode cX10_init 167 = .ok (.bipush 10, 2) := by decide +kernel
theorem dk10_169 : decode cX10_init 169 = .ok (.newarray .int, 2) := by decide +kernel
theorem dk10_171 : decode cX10_init 171 = .ok (.putfield 71, 3) := by decide +kernel
theorem dk10_174 : decode cX10_init 174 = .ok (.aload_n 0, 1) := by decide +kernel
theorem dk10_175 : decode cX10_init 175 = .ok (.bipush 10, 2) := by decide +kernel
theorem dk10_177 : decode cX10_init 177 = .ok (.newarray .int, 2) := by decide +kernel
theorem dk10_179 : decode cX10_init 179 = .ok (.putfield 74, 3) := by decide +kernel
theorem dk10_182 : decode cX10_init 182 = .ok (.aload_n 0, 1) := by decide +kernel
theorem dk10_183 : decode cX10_init 183 = .ok (.bipush 10, 2) := by decide +kernel
theorem dk10_185 : decode cX10_init 185 = .ok (.newarray .int, 2) := by decide +kernel
theorem dk10_187 : decode cX10_init 187 = .ok (.putfield 77, 3) := by decide +kernel
theorem dk10_190 : decode cX10_init 190 = .ok (.aload_n 0, 1) := by decide +kernel
theorem dk10_191 : decode cX10_init 191 = .ok (.sipush 19675, 3) := by decide +kernel
theorem dk10_194 : decode cX10_init 194 = .ok (.newarray .int, 2) := by decide +kernel
theorem dk10_196 : decode cX10_init 196 = .ok (.putfield 80, 3) := by decide +kernel
theorem dk10_199 : decode cX10_init 199 = .ok (.aload_n 0, 1) := by decide +kernel
theorem dk10_200 : decode cX10_init 200 = .ok (.sipush 19675, 3) := by decide +kernel
theorem dk10_203 : decode cX10_init 203 = .ok (.newarray .int, 2) := by decide +kernel
theorem dk10_205 : decode cX10_init 205 = .ok (.putfield 83, 3) := by decide +kernel
theorem dk10_208 : decode cX10_init 208 = .ok (.aload_n 0, 1) := by decide +kernel
theorem dk10_209 : decode cX10_init 209 = .ok (.ldc 86, 2) := by decide +kernel
theorem dk10_211 : decode cX10_init 211 = .ok (.newarray .int, 2) := by decide +kernel
theorem dk10_213 : decode cX10_init 213 = .ok (.putfield 87, 3) := by decide +kernel
theorem dk10_216 : decode cX10_init 216 = .ok (.aload_n 0, 1) := by decide +kernel
theorem dk10_217 : decode cX10_init 217 = .ok (.bipush 6, 2) := by decide +kernel
theorem dk10_219 : decode cX10_init 219 = .ok (.newarray .int, 2) := by decide +kernel
theorem dk10_221 : decode cX10_init 221 = .ok (.putfield 90, 3) := by decide +kernel
theorem dk10_224 : decode cX10_init 224 = .ok (.aload_n 0, 1) := by decide +kernel
theorem dk10_225 : decode cX10_init 225 = .ok (.bipush 6, 2) := by decide +kernel
theorem dk10_227 : decode cX10_init 227 = .ok (.newarray .int, 2) := by decide +kernel
theorem dk10_229 : decode cX10_init 229 = .ok (.putfield 93, 3) := by decide +kernel
theorem dk10_232 : decode cX10_init 232 = .ok (.aload_n 0, 1) := by decide +kernel
theorem dk10_233 : decode cX10_init 233 = .ok (.bipush 6, 2) := by decide +kernel
theorem dk10_235 : decode cX10_init 235 = .ok (.newarray .int, 2) := by decide +kernel
theorem dk10_237 : decode cX10_init 237 = .ok (.putfield 96, 3) := by decide +kernel
theorem dk10_240 : decode cX10_init 240 = .ok (.aload_n 0, 1) := by decide +kernel
theorem dk10_241 : decode cX10_init 241 = .ok (.sipush 600, 3) := by decide +kernel
theorem dk10_244 : decode cX10_init 244 = .ok (.newarray .long, 2) := by decide +kernel
theorem dk10_246 : decode cX10_init 246 = .ok (.putfield 99, 3) := by decide +kernel
theorem dk10_249 : decode cX10_init 249 = .ok (.aload_n 0, 1) := by decide +kernel
theorem dk10_250 : decode cX10_init 250 = .ok (.sipush 156, 3) := by decide +kernel
theorem dk10_253 : decode cX10_init 253 = .ok (.newarray .int, 2) := by decide +kernel
theorem dk10_255 : decode cX10_init 255 = .ok (.putfield 103, 3) := by decide +kernel
theorem dk10_258 : decode cX10_init 258 = .ok (.aload_n 0, 1) := by decide +kernel
theorem dk10_259 : decode cX10_init 259 = .ok (.bipush 9, 2) := by decide +kernel
theorem dk10_261 : decode cX10_init 261 = .ok (.newarray .boolean, 2) := by decide +kernel
theorem dk10_263 : decode cX10_init 263 = .ok (.putfield 106, 3) := by decide +kernel
theorem dk10_266 : decode cX10_init 266 = .ok (.aload_n 0, 1) := by decide +kernel
theorem dk10_267 : decode cX10_init 267 = .ok (.bipush 12, 2) := by decide +kernel
theorem dk10_269 : decode cX10_init 269 = .ok (.newarray .boolean, 2) := by decide +kernel
theorem dk10_271 : decode cX10_init 271 = .ok (.putfield 109, 3) := by decide +kernel
theorem dk10_274 : decode cX10_init 274 = .ok (.aload_n 0, 1) := by decide +kernel
theorem dk10_275 : decode cX10_init 275 = .ok (.bipush 24, 2) := by decide +kernel
theorem dk10_277 : decode cX10_init 277 = .ok (.newarray .int, 2) := by decide +kernel
theorem dk10_279 : decode cX10_init 279 = .ok (.putfield 112, 3) := by decide +kernel
theorem dk10_282 : decode cX10_init 282 = .ok (.aload_n 0, 1) := by decide +kernel
theorem dk10_283 : decode cX10_init 283 = .ok (.bipush 24, 2) := by decide +kernel
theorem dk10_285 : decode cX10_init 285 = .ok (.newarray .int, 2) := by decide +kernel
theorem dk10_287 : decode cX10_init 287 = .ok (.putfield 115, 3) := by decide +kernel
theorem dk10_290 : decode cX10_init 290 = .ok (.aload_n 0, 1) := by decide +kernel
theorem dk10_291 : decode cX10_init 291 = .ok (.iconst 4, 1) := by decide +kernel
theorem dk10_292 : decode cX10_init 292 = .ok (.invokevirtual 118, 3) := by decide +kernel
theorem dk10_295 : decode cX10_init 295 = .ok (.istore_n 1, 1) := by decide +kernel
theorem dk10_296 : decode cX10_init 296 = .ok (.return_, 1) := by decide +kernel
set_option maxHeartbeats 1500000 in
set_option maxRecDepth 100000 in
theorem k_X10 (l : Launch) (D : va_G) (cI cZ cJ cW cP : ClassId) (h0 t33 sz : Nat) : Met l yX10_init (Cond.code yX10_init cX10_init 2 none :: gT) { frames := 9, cells := 35, slots := 160301, locals := 380 } (va_Pc [.ref h0] (fun U => U.heap.size = sz ∧ va_P D vwCl [(h0, .inr (10, [.null, .null, .null, .null, .null, .null, .null, .null, .null, .null, .null, .null, .null, .null, .null, .null, .null, .null, .null, .null, .null, .null, .null, .null, .null, .null, .null, .null, .null, .null, .int 0, .int 0, .int 0, .int 0, .int 0, .int 0, .int 0, .int 0, .int 0, .null, .null, .int 0, .null, .null, .null]))] U.heap ∧ va_K D vwCl (tysOf cI cZ cJ cW cP) U ∧ va_D (fun _ => True) [(h0, .inr (10, [.null, .null, .null, .null, .null, .null, .null, .null, .null, .null, .null, .null, .null, .null, .null, .null, .null, .null, .null, .null, .null, .null, .null, .null, .null, .null, .null, .null, .null, .null, .int 0, .int 0, .int 0, .int 0, .int 0, .int 0, .int 0, .int 0, .int 0, .null, .null, .int 0, .null, .null, .null]))] ∧ hZt t33 (va_A [(h0, .inr (10, [.null, .null, .null, .null, .null, .null, .null, .null, .null, .null, .null, .null, .null, .null, .null, .null, .null, .null, .null, .null, .null, .null, .null, .null, .null, .null, .null, .null, .null, .null, .int 0, .int 0, .int 0, .int 0, .int 0, .int 0, .int 0, .int 0, .int 0, .null, .null, .int 0, .null, .null, .null]))] sz) U)) (va_Qv (fun u : AD × PW => u.1 (0, 90) = h0 ∧ K10 u.2) (fun u t => va_P D vwCl (wsOfM u.1 cI cZ cJ cW cP u.2) t.heap ∧ va_K D vwCl (tysOf cI cZ cJ cW cP) t ∧ va_D (va_A [(h0, .inr (10, [.null, .null, .null, .null, .null, .null, .null, .null, .null, .null, .null, .null, .null, .null, .null, .null, .null, .null, .null, .null, .null, .null, .null, .null, .null, .null, .null, .null, .null, .null, .int 0, .int 0, .int 0, .int 0, .int 0, .int 0, .int 0, .int 0, .int 0, .null, .null, .int 0, .null, .null, .null]))] sz) (wsOfM u.1 cI cZ cJ cW cP u.2)) (va_A [(h0, .inr (10, [.null, .null, .null, .null, .null, .null, .null, .null, .null, .null, .null, .null, .null, .null, .null, .null, .null, .null, .null, .null, .null, .null, .null, .null, .null, .null, .null, .null, .null, .null, .int 0, .int 0, .int 0, .int 0, .int 0, .int 0, .int 0, .int 0, .int 0, .null, .null, .int 0, .null, .null, .null]))] sz)) 35 160301 (va_A [(h0, .inr (10, [.null, .null, .null, .null, .null, .null, .null, .null, .null, .null, .null, .null, .null, .null, .null, .null, .null, .null, .null, .null, .null, .null, .null, .null, .null, .null, .null, .null, .null, .null, .int 0, .int 0, .int 0, .int 0, .int 0, .int 0, .int 0, .int 0, .int 0, .null, .null, .int 0, .null, .null, .null]))] sz) := by
  refine Met.ofW (cc := cX10_init) (maxL := 2) (ret := none) (by decide) rfl ?_
  intro p e s m args below meth c s₁ B hml hv
  obtain ⟨rfl, hsz, hP, hKF, hD0, hZ⟩ := hv
  have hK := hKF.sub (tys' := KT cI cZ cJ) [0, 1, 2] rfl
  have hx := B.exec
  have hb := B.bytes
  have hr := B.returns
  have hts0 := atoms_spec (ws := Cond.code yX10_init cX10_init 2 none :: gT) B.pre
  have hts : ∀ w ∈ gT, w.before _ s = true := fun w hw => hts0 w (List.mem_cons_of_mem _ hw)
  have hown : s.vm.findClass (cR 10) = some m.cls := findClass_of_methodNamed B.named
  have hlocks := B.notSynchronized
  have hin : meth.name = "<init>" := (name_of_methodNamed B.named B.method).1
  subst hsz
  have hD := hD0.self (sz := s.heap.size)
  generalize hAe : va_A [(h0, .inr (10, [.null, .null, .null, .null, .null, .null, .null, .null, .null, .null, .null, .null, .null, .null, .null, .null, .null, .null, .null, .null, .null, .null, .null, .null, .null, .null, .null, .null, .null, .null, .int 0, .int 0, .int 0, .int 0, .int 0, .int 0, .int 0, .int 0, .int 0, .null, .null, .int 0, .null, .null, .null]))] s.heap.size = A at hD hZ ⊢
  have hA : ∀ q : Nat, s.heap.size ≤ q → A q := fun q h => by rw [← hAe]; exact Or.inr h
  have hS : va_S A s.heap s.heap [] := va_S.rf
  have hP : va_P D vwCl [(h0, .inr (10, [.null, .null, .null, .null, .null, .null, .null, .null, .null, .null, .null, .null, .null, .null, .null, .null, .null, .null, .null, .null, .null, .null, .null, .null, .null, .null, .null, .null, .null, .null, .int 0, .int 0, .int 0, .int 0, .int 0, .int 0, .int 0, .int 0, .int 0, .null, .null, .int 0, .null, .null, .null]))] s.heap := hP
  have hl := lv_entry ([.ref h0]) (n := 2) (Nat.le_of_ble_eq_true rfl)
  rw [lg_entry_eq]
  generalize (lg_sl ([.ref h0]) ++ List.replicate (2 - (lg_sl ([.ref h0])).length) Slot.unset).toArray = ls at hl ⊢
  have hl : lv_has ls 2 [(0, .ref h0)] := hl
  refine lv_aload_n hx hb dk10_0 rfl (lv_at hl 0 rfl) ?_
  refine W.objInit hx hb hown (hts _ (in_gT (List.mem_of_getElem? (i := 1043) (by decide +kernel)) rfl)) (hts _ (in_gT (List.mem_of_getElem? (i := 85) (by decide +kernel)) rfl)) (hts _ objc_gT) rfl (by rw [hml]; exact hl.1) rfl dk10_1 (Nat.le_of_ble_eq_true rfl) (Nat.le_of_ble_eq_true rfl) ?_
  refine W.eq (g2 := F0 m 4 ls []) rfl ?_
  refine lv_aload_n hx hb dk10_4 rfl (lv_at hl 0 rfl) ?_
  refine lv_bipush (v := nI 24) hx hb dk10_5 (by decide +kernel) ?_
  refine b_arrI (ci := 10) (N := 24) hx hb hts hown hin (by decide) hK hP hD hS hA 0 (by decide) (in_gT (List.mem_of_getElem? (i := 1063) (by decide +kernel)) rfl) rfl rfl (by decide +kernel) (by simp only [List.length_set]; exact Nat.le_of_ble_eq_true rfl) (by decide) (Nat.le_of_ble_eq_true rfl) (Nat.le_of_ble_eq_true rfl) dk10_7 dk10_9 (fun q1 H locs hP hD hS => ?_)
  refine lv_aload_n hx hb dk10_12 rfl (lv_at hl 0 rfl) ?_
  refine lv_bipush (v := nI 24) hx hb dk10_13 (by decide +kernel) ?_
  refine b_arrI (ci := 10) (N := 24) hx hb hts hown hin (by decide) hK hP hD hS hA 1 (by decide) (in_gT (List.mem_of_getElem? (i := 1064) (by decide +kernel)) rfl) rfl rfl (by decide +kernel) (by simp only [List.length_set]; exact Nat.le_of_ble_eq_true rfl) (by decide) (Nat.le_of_ble_eq_true rfl) (Nat.le_of_ble_eq_true rfl) dk10_15 dk10_17 (fun q2 H locs hP hD hS => ?_)
  refine lv_aload_n hx hb dk10_20 rfl (lv_at hl 0 rfl) ?_
  refine lv_bipush (v := nI 24) hx hb dk10_21 (by decide +kernel) ?_
  refine b_arrI (ci := 10) (N := 24) hx hb hts hown hin (by decide) hK hP hD hS hA 2 (by decide) (in_gT (List.mem_of_getElem? (i := 1065) (by decide +kernel)) rfl) rfl rfl (by decide +kernel) (by simp only [List.length_set]; exact Nat.le_of_ble_eq_true rfl) (by decide) (Nat.le_of_ble_eq_true rfl) (Nat.le_of_ble_eq_true rfl) dk10_23 dk10_25 (fun q3 H locs hP hD hS => ?_)
  refine lv_aload_n hx hb dk10_28 rfl (lv_at hl 0 rfl) ?_
  refine lv_bipush (v := nI 24) hx hb dk10_29 (by decide +kernel) ?_
  refine b_arrI (ci := 10) (N := 24) hx hb hts hown hin (by decide) hK hP hD hS hA 3 (by decide) (in_gT (List.mem_of_getElem? (i := 1066) (by decide +kernel)) rfl) rfl rfl (by decide +kernel) (by simp only [List.length_set]; exact Nat.le_of_ble_eq_true rfl) (by decide) (Nat.le_of_ble_eq_true rfl) (Nat.le_of_ble_eq_true rfl) dk10_31 dk10_33 (fun q4 H locs hP hD hS => ?_)
  refine lv_aload_n hx hb dk10_36 rfl (lv_at hl 0 rfl) ?_
  refine lv_bipush (v := nI 24) hx hb dk10_37 (by decide +kernel) ?_
  refine b_arrI (ci := 10) (N := 24) hx hb hts hown hin (by decide) hK hP hD hS hA 4 (by decide) (in_gT (List.mem_of_getElem? (i := 1067) (by decide +kernel)) rfl) rfl rfl (by decide +kernel) (by simp only [List.length_set]; exact Nat.le_of_ble_eq_true rfl) (by decide) (Nat.le_of_ble_eq_true rfl) (Nat.le_of_ble_eq_true rfl) dk10_39 dk10_41 (fun q5 H locs hP hD hS => ?_)
  refine lv_aload_n hx hb dk10_44 rfl (lv_at hl 0 rfl) ?_
  refine lv_bipush (v := nI 24) hx hb dk10_45 (by decide +kernel) ?_
  refine b_arrI (ci := 10) (N := 24) hx hb hts hown hin (by decide) hK hP hD hS hA 5 (by decide) (in_gT (List.mem_of_getElem? (i := 1068) (by decide +kernel)) rfl) rfl rfl (by decide +kernel) (by simp only [List.length_set]; exact Nat.le_of_ble_eq_true rfl) (by decide) (Nat.le_of_ble_eq_true rfl) (Nat.le_of_ble_eq_true rfl) dk10_47 dk10_49 (fun q6 H locs hP hD hS => ?_)
  refine lv_aload_n hx hb dk10_52 rfl (lv_at hl 0 rfl) ?_
  refine lv_bipush (v := nI 24) hx hb dk10_53 (by decide +kernel) ?_
  refine b_arrI (ci := 10) (N := 24) hx hb hts hown hin (by decide) hK hP hD hS hA 6 (by decide) (in_gT (List.mem_of_getElem? (i := 1069) (by decide +kernel)) rfl) rfl rfl (by decide +kernel) (by simp only [List.length_set]; exact Nat.le_of_ble_eq_true rfl) (by decide) (Nat.le_of_ble_eq_true rfl) (Nat.le_of_ble_eq_true rfl) dk10_55 dk10_57 (fun q7 H locs hP hD hS => ?_)
  refine lv_aload_n hx hb dk10_60 rfl (lv_at hl 0 rfl) ?_
  refine lv_bipush (v := nI 24) hx hb dk10_61 (by decide +kernel) ?_
  refine b_arrI (ci := 10) (N := 24) hx hb hts hown hin (by decide) hK hP hD hS hA 7 (by decide) (in_gT (List.mem_of_getElem? (i := 1070) (by decide +kernel)) rfl) rfl rfl (by decide +kernel) (by simp only [List.length_set]; exact Nat.le_of_ble_eq_true rfl) (by decide) (Nat.le_of_ble_eq_true rfl) (Nat.le_of_ble_eq_true rfl) dk10_63 dk10_65 (fun q8 H locs hP hD hS => ?_)
  refine lv_aload_n hx hb dk10_68 rfl (lv_at hl 0 rfl) ?_
  refine lv_bipush (v := nI 24) hx hb dk10_69 (by decide +kernel) ?_
  refine b_arrI (ci := 10) (N := 24) hx hb hts hown hin (by decide) hK hP hD hS hA 8 (by decide) (in_gT (List.mem_of_getElem? (i := 1071) (by decide +kernel)) rfl) rfl rfl (by decide +kernel) (by simp only [List.length_set]; exact Nat.le_of_ble_eq_true rfl) (by decide) (Nat.le_of_ble_eq_true rfl) (Nat.le_of_ble_eq_true rfl) dk10_71 dk10_73 (fun q9 H locs hP hD hS => ?_)
  refine lv_aload_n hx hb dk10_76 rfl (lv_at hl 0 rfl) ?_
  refine lv_bipush (v := nI 24) hx hb dk10_77 (by decide +kernel) ?_
  refine b_arrI (ci := 10) (N := 24) hx hb hts hown hin (by decide) hK hP hD hS hA 9 (by decide) (in_gT (List.mem_of_getElem? (i := 1072) (by decide +kernel)) rfl) rfl rfl (by decide +kernel) (by simp only [List.length_set]; exact Nat.le_of_ble_eq_true rfl) (by decide) (Nat.le_of_ble_eq_true rfl) (Nat.le_of_ble_eq_true rfl) dk10_79 dk10_81 (fun q10 H locs hP hD hS => ?_)
  refine lv_aload_n hx hb dk10_84 rfl (lv_at hl 0 rfl) ?_
  refine lv_bipush (v := nI 24) hx hb dk10_85 (by decide +kernel) ?_
  refine b_arrZ (ci := 10) (N := 24) hx hb hts hown hin (by decide) hK hP hD hS hA 10 (by decide) (in_gT (List.mem_of_getElem? (i := 1073) (by decide +kernel)) rfl) rfl rfl (by decide +kernel) (by simp only [List.length_set]; exact Nat.le_of_ble_eq_true rfl) (by decide) (Nat.le_of_ble_eq_true rfl) (Nat.le_of_ble_eq_true rfl) dk10_87 dk10_89 (fun q11 H locs hP hD hS => ?_)
  refine lv_aload_n hx hb dk10_92 rfl (lv_at hl 0 rfl) ?_
  refine lv_sipush (v := nI 256) hx hb dk10_93 (by decide +kernel) ?_
  refine b_arrI (ci := 10) (N := 256) hx hb hts hown hin (by decide) hK hP hD hS hA 11 (by decide) (in_gT (List.mem_of_getElem? (i := 1074) (by decide +kernel)) rfl) rfl rfl (by decide +kernel) (by simp only [List.length_set]; exact Nat.le_of_ble_eq_true rfl) (by decide) (Nat.le_of_ble_eq_true rfl) (Nat.le_of_ble_eq_true rfl) dk10_96 dk10_98 (fun q12 H locs hP hD hS => ?_)
  refine lv_aload_n hx hb dk10_101 rfl (lv_at hl 0 rfl) ?_
  refine lv_sipush (v := nI 256) hx hb dk10_102 (by decide +kernel) ?_
  refine b_arrI (ci := 10) (N := 256) hx hb hts hown hin (by decide) hK hP hD hS hA 12 (by decide) (in_gT (List.mem_of_getElem? (i := 1075) (by decide +kernel)) rfl) rfl rfl (by decide +kernel) (by simp only [List.length_set]; exact Nat.le_of_ble_eq_true rfl) (by decide) (Nat.le_of_ble_eq_true rfl) (Nat.le_of_ble_eq_true rfl) dk10_105 dk10_107 (fun q13 H locs hP hD hS => ?_)
  refine lv_aload_n hx hb dk10_110 rfl (lv_at hl 0 rfl) ?_
  refine lv_iconst (v := nI 4) hx hb dk10_111 (by decide +kernel) ?_
  refine b_arrI (ci := 10) (N := 4) hx hb hts hown hin (by decide) hK hP hD hS hA 13 (by decide) (in_gT (List.mem_of_getElem? (i := 1076) (by decide +kernel)) rfl) rfl rfl (by decide +kernel) (by simp only [List.length_set]; exact Nat.le_of_ble_eq_true rfl) (by decide) (Nat.le_of_ble_eq_true rfl) (Nat.le_of_ble_eq_true rfl) dk10_112 dk10_114 (fun q14 H locs hP hD hS => ?_)
  refine lv_aload_n hx hb dk10_117 rfl (lv_at hl 0 rfl) ?_
  refine lv_bipush (v := nI 12) hx hb dk10_118 (by decide +kernel) ?_
  refine b_arrI (ci := 10) (N := 12) hx hb hts hown hin (by decide) hK hP hD hS hA 14 (by decide) (in_gT (List.mem_of_getElem? (i := 1077) (by decide +kernel)) rfl) rfl rfl (by decide +kernel) (by simp only [List.length_set]; exact Nat.le_of_ble_eq_true rfl) (by decide) (Nat.le_of_ble_eq_true rfl) (Nat.le_of_ble_eq_true rfl) dk10_120 dk10_122 (fun q15 H locs hP hD hS => ?_)
  refine lv_aload_n hx hb dk10_125 rfl (lv_at hl 0 rfl) ?_
  refine lv_bipush (v := nI 12) hx hb dk10_126 (by decide +kernel) ?_
  refine b_arrI (ci := 10) (N := 12) hx hb hts hown hin (by decide) hK hP hD hS hA 15 (by decide) (in_gT (List.mem_of_getElem? (i := 1078) (by decide +kernel)) rfl) rfl rfl (by decide +kernel) (by simp only [List.length_set]; exact Nat.le_of_ble_eq_true rfl) (by decide) (Nat.le_of_ble_eq_true rfl) (Nat.le_of_ble_eq_true rfl) dk10_128 dk10_130 (fun q16 H locs hP hD hS => ?_)
  refine lv_aload_n hx hb dk10_133 rfl (lv_at hl 0 rfl) ?_
  refine lv_sipush (v := nI 1200) hx hb dk10_134 (by decide +kernel) ?_
  refine b_arrI (ci := 10) (N := 1200) hx hb hts hown hin (by decide) hK hP hD hS hA 16 (by decide) (in_gT (List.mem_of_getElem? (i := 1079) (by decide +kernel)) rfl) rfl rfl (by decide +kernel) (by simp only [List.length_set]; exact Nat.le_of_ble_eq_true rfl) (by decide) (Nat.le_of_ble_eq_true rfl) (Nat.le_of_ble_eq_true rfl) dk10_137 dk10_139 (fun q17 H locs hP hD hS => ?_)
  refine lv_aload_n hx hb dk10_142 rfl (lv_at hl 0 rfl) ?_
  refine lv_bipush (v := nI 8) hx hb dk10_143 (by decide +kernel) ?_
  refine b_arrI (ci := 10) (N := 8) hx hb hts hown hin (by decide) hK hP hD hS hA 17 (by decide) (in_gT (List.mem_of_getElem? (i := 1080) (by decide +kernel)) rfl) rfl rfl (by decide +kernel) (by simp only [List.length_set]; exact Nat.le_of_ble_eq_true rfl) (by decide) (Nat.le_of_ble_eq_true rfl) (Nat.le_of_ble_eq_true rfl) dk10_145 dk10_147 (fun q18 H locs hP hD hS => ?_)
  refine lv_aload_n hx hb dk10_150 rfl (lv_at hl 0 rfl) ?_
  refine lv_bipush (v := nI 8) hx hb dk10_151 (by decide +kernel) ?_
  refine b_arrI (ci := 10) (N := 8) hx hb hts hown hin (by decide) hK hP hD hS hA 18 (by decide) (in_gT (List.mem_of_getElem? (i := 1081) (by decide +kernel)) rfl) rfl rfl (by decide +kernel) (by simp only [List.length_set]; exact Nat.le_of_ble_eq_true rfl) (by decide) (Nat.le_of_ble_eq_true rfl) (Nat.le_of_ble_eq_true rfl) dk10_153 dk10_155 (fun q19 H locs hP hD hS => ?_)
  refine lv_aload_n hx hb dk10_158 rfl (lv_at hl 0 rfl) ?_
  refine lv_bipush (v := nI 8) hx hb dk10_159 (by decide +kernel) ?_
  refine b_arrI (ci := 10) (N := 8) hx hb hts hown hin (by decide) hK hP hD hS hA 19 (by decide) (in_gT (List.mem_of_getElem? (i := 1082) (by decide +kernel)) rfl) rfl rfl (by decide +kernel) (by simp only [List.length_set]; exact Nat.le_of_ble_eq_true rfl) (by decide) (Nat.le_of_ble_eq_true rfl) (Nat.le_of_ble_eq_true rfl) dk10_161 dk10_163 (fun q20 H locs hP hD hS => ?_)
  refine lv_aload_n hx hb dk10_166 rfl (lv_at hl 0 rfl) ?_
  refine lv_bipush (v := nI 10) hx hb dk10_167 (by decide +kernel) ?_
  refine b_arrI (ci := 10) (N := 10) hx hb hts hown hin (by decide) hK hP hD hS hA 20 (by decide) (in_gT (List.mem_of_getElem? (i := 1083) (by decide +kernel)) rfl) rfl rfl (by decide +kernel) (by simp only [List.length_set]; exact Nat.le_of_ble_eq_true rfl) (by decide) (Nat.le_of_ble_eq_true rfl) (Nat.le_of_ble_eq_true rfl) dk10_169 dk10_171 (fun q21 H locs hP hD hS => ?_)
  refine lv_aload_n hx hb dk10_174 rfl (lv_at hl 0 rfl) ?_
  refine lv_bipush (v := nI 10) hx hb dk10_175 (by decide +kernel) ?_
  refine b_arrI (ci := 10) (N := 10) hx hb hts hown hin (by decide) hK hP hD hS hA 21 (by decide) (in_gT (List.mem_of_getElem? (i := 1084) (by decide +kernel)) rfl) rfl rfl (by decide +kernel) (by simp only [List.length_set]; exact Nat.le_of_ble_eq_true rfl) (by decide) (Nat.le_of_ble_eq_true rfl) (Nat.le_of_ble_eq_true rfl) dk10_177 dk10_179 (fun q22 H locs hP hD hS => ?_)
  refine lv_aload_n hx hb dk10_182 rfl (lv_at hl 0 rfl) ?_
  refine lv_bipush (v := nI 10) hx hb dk10_183 (by decide +kernel) ?_
  refine b_arrI (ci := 10) (N := 10) hx hb hts hown hin (by decide) hK hP hD hS hA 22 (by decide) (in_gT (List.mem_of_getElem? (i := 1085) (by decide +kernel)) rfl) rfl rfl (by decide +kernel) (by simp only [List.length_set]; exact Nat.le_of_ble_eq_true rfl) (by decide) (Nat.le_of_ble_eq_true rfl) (Nat.le_of_ble_eq_true rfl) dk10_185 dk10_187 (fun q23 H locs hP hD hS => ?_)
  refine lv_aload_n hx hb dk10_190 rfl (lv_at hl 0 rfl) ?_
  refine lv_sipush (v := nI 19675) hx hb dk10_191 (by decide +kernel) ?_
  refine b_arrI (ci := 10) (N := 19675) hx hb hts hown hin (by decide) hK hP hD hS hA 23 (by decide) (in_gT (List.mem_of_getElem? (i := 1086) (by decide +kernel)) rfl) rfl rfl (by decide +kernel) (by simp only [List.length_set]; exact Nat.le_of_ble_eq_true rfl) (by decide) (Nat.le_of_ble_eq_true rfl) (Nat.le_of_ble_eq_true rfl) dk10_194 dk10_196 (fun q24 H locs hP hD hS => ?_)
  refine lv_aload_n hx hb dk10_199 rfl (lv_at hl 0 rfl) ?_
  refine lv_sipush (v := nI 19675) hx hb dk10_200 (by decide +kernel) ?_
  refine b_arrI (ci := 10) (N := 19675) hx hb hts hown hin (by decide) hK hP hD hS hA 24 (by decide) (in_gT (List.mem_of_getElem? (i := 1087) (by decide +kernel)) rfl) rfl rfl (by decide +kernel) (by simp only [List.length_set]; exact Nat.le_of_ble_eq_true rfl) (by decide) (Nat.le_of_ble_eq_true rfl) (Nat.le_of_ble_eq_true rfl) dk10_203 dk10_205 (fun q25 H locs hP hD hS => ?_)
  refine lv_aload_n hx hb dk10_208 rfl (lv_at hl 0 rfl) ?_
  refine lv_ldc (v := nI 118050) hx hb hown (hts _ (in_gT (List.mem_of_getElem? (i := 1044) (by decide +kernel)) rfl)) dk10_209 ?_
  refine b_arrI (ci := 10) (N := 118050) hx hb hts hown hin (by decide) hK hP hD hS hA 25 (by decide) (in_gT (List.mem_of_getElem? (i := 1088) (by decide +kernel)) rfl) rfl rfl (by decide +kernel) (by simp only [List.length_set]; exact Nat.le_of_ble_eq_true rfl) (by decide) (Nat.le_of_ble_eq_true rfl) (Nat.le_of_ble_eq_true rfl) dk10_211 dk10_213 (fun q26 H locs hP hD hS => ?_)
  refine lv_aload_n hx hb dk10_216 rfl (lv_at hl 0 rfl) ?_
  refine lv_bipush (v := nI 6) hx hb dk10_217 (by decide +kernel) ?_
  refine b_arrI (ci := 10) (N := 6) hx hb hts hown hin (by decide) hK hP hD hS hA 26 (by decide) (in_gT (List.mem_of_getElem? (i := 1089) (by decide +kernel)) rfl) rfl rfl (by decide +kernel) (by simp only [List.length_set]; exact Nat.le_of_ble_eq_true rfl) (by decide) (Nat.le_of_ble_eq_true rfl) (Nat.le_of_ble_eq_true rfl) dk10_219 dk10_221 (fun q27 H locs hP hD hS => ?_)
  refine lv_aload_n hx hb dk10_224 rfl (lv_at hl 0 rfl) ?_
  refine lv_bipush (v := nI 6) hx hb dk10_225 (by decide +kernel) ?_
  refine b_arrI (ci := 10) (N := 6) hx hb hts hown hin (by decide) hK hP hD hS hA 27 (by decide) (in_gT (List.mem_of_getElem? (i := 1090) (by decide +kernel)) rfl) rfl rfl (by decide +kernel) (by simp only [List.length_set]; exact Nat.le_of_ble_eq_true rfl) (by decide) (Nat.le_of_ble_eq_true rfl) (Nat.le_of_ble_eq_true rfl) dk10_227 dk10_229 (fun q28 H locs hP hD hS => ?_)
  refine lv_aload_n hx hb dk10_232 rfl (lv_at hl 0 rfl) ?_
  refine lv_bipush (v := nI 6) hx hb dk10_233 (by decide +kernel) ?_
  refine b_arrI (ci := 10) (N := 6) hx hb hts hown hin (by decide) hK hP hD hS hA 28 (by decide) (in_gT (List.mem_of_getElem? (i := 1091) (by decide +kernel)) rfl) rfl rfl (by decide +kernel) (by simp only [List.length_set]; exact Nat.le_of_ble_eq_true rfl) (by decide) (Nat.le_of_ble_eq_true rfl) (Nat.le_of_ble_eq_true rfl) dk10_235 dk10_237 (fun q29 H locs hP hD hS => ?_)
  refine lv_aload_n hx hb dk10_240 rfl (lv_at hl 0 rfl) ?_
  refine lv_sipush (v := nI 600) hx hb dk10_241 (by decide +kernel) ?_
  refine b_arrJ (ci := 10) (N := 600) hx hb hts hown hin (by decide) hK hP hD hS hA 29 (by decide) (in_gT (List.mem_of_getElem? (i := 1092) (by decide +kernel)) rfl) rfl rfl (by decide +kernel) (by simp only [List.length_set]; exact Nat.le_of_ble_eq_true rfl) (by decide) (Nat.le_of_ble_eq_true rfl) (Nat.le_of_ble_eq_true rfl) dk10_244 dk10_246 (fun q30 H locs hP hD hS => ?_)
  refine lv_aload_n hx hb dk10_249 rfl (lv_at hl 0 rfl) ?_
  refine lv_sipush (v := nI 156) hx hb dk10_250 (by decide +kernel) ?_
  refine b_arrI (ci := 10) (N := 156) hx hb hts hown hin (by decide) hK hP hD hS hA 39 (by decide) (in_gT (List.mem_of_getElem? (i := 1102) (by decide +kernel)) rfl) rfl rfl (by decide +kernel) (by simp only [List.length_set]; exact Nat.le_of_ble_eq_true rfl) (by decide) (Nat.le_of_ble_eq_true rfl) (Nat.le_of_ble_eq_true rfl) dk10_253 dk10_255 (fun q31 H locs hP hD hS => ?_)
  refine lv_aload_n hx hb dk10_258 rfl (lv_at hl 0 rfl) ?_
  refine lv_bipush (v := nI 9) hx hb dk10_259 (by decide +kernel) ?_
  refine b_arrZ (ci := 10) (N := 9) hx hb hts hown hin (by decide) hK hP hD hS hA 40 (by decide) (in_gT (List.mem_of_getElem? (i := 1103) (by decide +kernel)) rfl) rfl rfl (by decide +kernel) (by simp only [List.length_set]; exact Nat.le_of_ble_eq_true rfl) (by decide) (Nat.le_of_ble_eq_true rfl) (Nat.le_of_ble_eq_true rfl) dk10_261 dk10_263 (fun q32 H locs hP hD hS => ?_)
  refine lv_aload_n hx hb dk10_266 rfl (lv_at hl 0 rfl) ?_
  refine lv_bipush (v := nI 12) hx hb dk10_267 (by decide +kernel) ?_
  refine b_arrZ (ci := 10) (N := 12) hx hb hts hown hin (by decide) hK hP hD hS hA 42 (by decide) (in_gT (List.mem_of_getElem? (i := 1105) (by decide +kernel)) rfl) rfl rfl (by decide +kernel) (by simp only [List.length_set]; exact Nat.le_of_ble_eq_true rfl) (by decide) (Nat.le_of_ble_eq_true rfl) (Nat.le_of_ble_eq_true rfl) dk10_269 dk10_271 (fun q33 H locs hP hD hS => ?_)
  refine lv_aload_n hx hb dk10_274 rfl (lv_at hl 0 rfl) ?_
  refine lv_bipush (v := nI 24) hx hb dk10_275 (by decide +kernel) ?_
  refine b_arrI (ci := 10) (N := 24) hx hb hts hown hin (by decide) hK hP hD hS hA 43 (by decide) (in_gT (List.mem_of_getElem? (i := 1106) (by decide +kernel)) rfl) rfl rfl (by decide +kernel) (by simp only [List.length_set]; exact Nat.le_of_ble_eq_true rfl) (by decide) (Nat.le_of_ble_eq_true rfl) (Nat.le_of_ble_eq_true rfl) dk10_277 dk10_279 (fun q34 H locs hP hD hS => ?_)
  refine lv_aload_n hx hb dk10_282 rfl (lv_at hl 0 rfl) ?_
  refine lv_bipush (v := nI 24) hx hb dk10_283 (by decide +kernel) ?_
  refine b_arrI (ci := 10) (N := 24) hx hb hts hown hin (by decide) hK hP hD hS hA 44 (by decide) (in_gT (List.mem_of_getElem? (i := 1107) (by decide +kernel)) rfl) rfl rfl (by decide +kernel) (by simp only [List.length_set]; exact Nat.le_of_ble_eq_true rfl) (by decide) (Nat.le_of_ble_eq_true rfl) (Nat.le_of_ble_eq_true rfl) dk10_285 dk10_287 (fun q35 H locs hP hD hS => ?_)
  obtain ⟨ad, had⟩ : ∃ ad : AD, ad = adM [h0, q1, q2, q3, q4, q5, q6, q7, q8, q9, q10, q11, q12, q13, q14, q15, q16, q17, q18, q19, q20, q21, q22, q23, q24, q25, q26, q27, q28, q29, q30, q31, q32, q33, q34, q35] t33 := ⟨_, rfl⟩
  have a_0_90 : ad (0, 90) = h0 := by rw [had]; rfl
  have a_0_91 : ad (0, 91) = q1 := by rw [had]; rfl
  have e_0_91 : cellOf ad cI cZ cJ cW cP z0 (0, 91) = .inl (cI, 24, .inl (fun _ => 0)) := cellI (by decide +kernel) (by decide +kernel) rfl
  have a_0_92 : ad (0, 92) = q2 := by rw [had]; rfl
  have e_0_92 : cellOf ad cI cZ cJ cW cP z0 (0, 92) = .inl (cI, 24, .inl (fun _ => 0)) := cellI (by decide +kernel) (by decide +kernel) rfl
  have a_0_93 : ad (0, 93) = q3 := by rw [had]; rfl
  have e_0_93 : cellOf ad cI cZ cJ cW cP z0 (0, 93) = .inl (cI, 24, .inl (fun _ => 0)) := cellI (by decide +kernel) (by decide +kernel) rfl
  have a_0_94 : ad (0, 94) = q4 := by rw [had]; rfl
  have e_0_94 : cellOf ad cI cZ cJ cW cP z0 (0, 94) = .inl (cI, 24, .inl (fun _ => 0)) := cellI (by decide +kernel) (by decide +kernel) rfl
  have a_0_95 : ad (0, 95) = q5 := by rw [had]; rfl
  have e_0_95 : cellOf ad cI cZ cJ cW cP z0 (0, 95) = .inl (cI, 24, .inl (fun _ => 0)) := cellI (by decide +kernel) (by decide +kernel) rfl
  have a_0_96 : ad (0, 96) = q6 := by rw [had]; rfl
  have e_0_96 : cellOf ad cI cZ cJ cW cP z0 (0, 96) = .inl (cI, 24, .inl (fun _ => 0)) := cellI (by decide +kernel) (by decide +kernel) rfl
  have a_0_97 : ad (0, 97) = q7 := by rw [had]; rfl
  have e_0_97 : cellOf ad cI cZ cJ cW cP z0 (0, 97) = .inl (cI, 24, .inl (fun _ => 0)) := cellI (by decide +kernel) (by decide +kernel) rfl
  have a_0_98 : ad (0, 98) = q8 := by rw [had]; rfl
  have e_0_98 : cellOf ad cI cZ cJ cW cP z0 (0, 98) = .inl (cI, 24, .inl (fun _ => 0)) := cellI (by decide +kernel) (by decide +kernel) rfl
  have a_0_99 : ad (0, 99) = q9 := by rw [had]; rfl
  have e_0_99 : cellOf ad cI cZ cJ cW cP z0 (0, 99) = .inl (cI, 24, .inl (fun _ => 0)) := cellI (by decide +kernel) (by decide +kernel) rfl
  have a_0_100 : ad (0, 100) = q10 := by rw [had]; rfl
  have e_0_100 : cellOf ad cI cZ cJ cW cP z0 (0, 100) = .inl (cI, 24, .inl (fun _ => 0)) := cellI (by decide +kernel) (by decide +kernel) rfl
  have a_0_101 : ad (0, 101) = q11 := by rw [had]; rfl
  have e_0_101 : cellOf ad cI cZ cJ cW cP z0 (0, 101) = .inl (cZ, 24, .inl (fun _ => 0)) := cellZ (by decide +kernel) (by decide +kernel) rfl
  have a_0_102 : ad (0, 102) = q12 := by rw [had]; rfl
  have e_0_102 : cellOf ad cI cZ cJ cW cP z0 (0, 102) = .inl (cI, 256, .inl (fun _ => 0)) := cellI (by decide +kernel) (by decide +kernel) rfl
  have a_0_103 : ad (0, 103) = q13 := by rw [had]; rfl
  have e_0_103 : cellOf ad cI cZ cJ cW cP z0 (0, 103) = .inl (cI, 256, .inl (fun _ => 0)) := cellI (by decide +kernel) (by decide +kernel) rfl
  have a_0_104 : ad (0, 104) = q14 := by rw [had]; rfl
  have e_0_104 : cellOf ad cI cZ cJ cW cP z0 (0, 104) = .inl (cI, 4, .inl (fun _ => 0)) := cellI (by decide +kernel) (by decide +kernel) rfl
  have a_0_105 : ad (0, 105) = q15 := by rw [had]; rfl
  have e_0_105 : cellOf ad cI cZ cJ cW cP z0 (0, 105) = .inl (cI, 12, .inl (fun _ => 0)) := cellI (by decide +kernel) (by decide +kernel) rfl
  have a_0_106 : ad (0, 106) = q16 := by rw [had]; rfl
  have e_0_106 : cellOf ad cI cZ cJ cW cP z0 (0, 106) = .inl (cI, 12, .inl (fun _ => 0)) := cellI (by decide +kernel) (by decide +kernel) rfl
  have a_0_107 : ad (0, 107) = q17 := by rw [had]; rfl
  have e_0_107 : cellOf ad cI cZ cJ cW cP z0 (0, 107) = .inl (cI, 1200, .inl (fun _ => 0)) := cellI (by decide +kernel) (by decide +kernel) rfl
  have a_0_108 : ad (0, 108) = q18 := by rw [had]; rfl
  have e_0_108 : cellOf ad cI cZ cJ cW cP z0 (0, 108) = .inl (cI, 8, .inl (fun _ => 0)) := cellI (by decide +kernel) (by decide +kernel) rfl
  have a_0_109 : ad (0, 109) = q19 := by rw [had]; rfl
  have e_0_109 : cellOf ad cI cZ cJ cW cP z0 (0, 109) = .inl (cI, 8, .inl (fun _ => 0)) := cellI (by decide +kernel) (by decide +kernel) rfl
  have a_0_110 : ad (0, 110) = q20 := by rw [had]; rfl
  have e_0_110 : cellOf ad cI cZ cJ cW cP z0 (0, 110) = .inl (cI, 8, .inl (fun _ => 0)) := cellI (by decide +kernel) (by decide +kernel) rfl
  have a_0_111 : ad (0, 111) = q21 := by rw [had]; rfl
  have e_0_111 : cellOf ad cI cZ cJ cW cP z0 (0, 111) = .inl (cI, 10, .inl (fun _ => 0)) := cellI (by decide +kernel) (by decide +kernel) rfl
  have a_0_112 : ad (0, 112) = q22 := by rw [had]; rfl
  have e_0_112 : cellOf ad cI cZ cJ cW cP z0 (0, 112) = .inl (cI, 10, .inl (fun _ => 0)) := cellI (by decide +kernel) (by decide +kernel) rfl
  have a_0_113 : ad (0, 113) = q23 := by rw [had]; rfl
  have e_0_113 : cellOf ad cI cZ cJ cW cP z0 (0, 113) = .inl (cI, 10, .inl (fun _ => 0)) := cellI (by decide +kernel) (by decide +kernel) rfl
  have a_1_114 : ad (1, 114) = q24 := by rw [had]; rfl
  have e_1_114 : cellOf ad cI cZ cJ cW cP z0 (1, 114) = .inl (cI, 19675, .inl (fun _ => 0)) := cellI (by decide +kernel) (by decide +kernel) rfl
  have a_2_114 : ad (2, 114) = q25 := by rw [had]; rfl
  have e_2_114 : cellOf ad cI cZ cJ cW cP z0 (2, 114) = .inl (cI, 19675, .inl (fun _ => 0)) := cellI (by decide +kernel) (by decide +kernel) rfl
  have a_0_116 : ad (0, 116) = q26 := by rw [had]; rfl
  have e_0_116 : cellOf ad cI cZ cJ cW cP z0 (0, 116) = .inl (cI, 118050, .inl (fun _ => 0)) := cellI (by decide +kernel) (by decide +kernel) rfl
  have a_0_117 : ad (0, 117) = q27 := by rw [had]; rfl
  have e_0_117 : cellOf ad cI cZ cJ cW cP z0 (0, 117) = .inl (cI, 6, .inl (fun _ => 0)) := cellI (by decide +kernel) (by decide +kernel) rfl
  have a_0_118 : ad (0, 118) = q28 := by rw [had]; rfl
  have e_0_118 : cellOf ad cI cZ cJ cW cP z0 (0, 118) = .inl (cI, 6, .inl (fun _ => 0)) := cellI (by decide +kernel) (by decide +kernel) rfl
  have a_0_119 : ad (0, 119) = q29 := by rw [had]; rfl
  have e_0_119 : cellOf ad cI cZ cJ cW cP z0 (0, 119) = .inl (cI, 6, .inl (fun _ => 0)) := cellI (by decide +kernel) (by decide +kernel) rfl
  have a_0_120 : ad (0, 120) = q30 := by rw [had]; rfl
  have e_0_120 : cellOf ad cI cZ cJ cW cP z0 (0, 120) = .inl (cJ, 600, .inr (.inl (fun _ => 0))) := cellJ (by decide +kernel) (by decide +kernel) rfl
  have a_0_121 : ad (0, 121) = q31 := by rw [had]; rfl
  have e_0_121 : cellOf ad cI cZ cJ cW cP z0 (0, 121) = .inl (cI, 156, .inl (fun _ => 0)) := cellI (by decide +kernel) (by decide +kernel) rfl
  have a_0_122 : ad (0, 122) = q32 := by rw [had]; rfl
  have e_0_122 : cellOf ad cI cZ cJ cW cP z0 (0, 122) = .inl (cZ, 9, .inl (fun _ => 0)) := cellZ (by decide +kernel) (by decide +kernel) rfl
  have a_0_123 : ad (0, 123) = q33 := by rw [had]; rfl
  have e_0_123 : cellOf ad cI cZ cJ cW cP z0 (0, 123) = .inl (cZ, 12, .inl (fun _ => 0)) := cellZ (by decide +kernel) (by decide +kernel) rfl
  have a_0_124 : ad (0, 124) = q34 := by rw [had]; rfl
  have e_0_124 : cellOf ad cI cZ cJ cW cP z0 (0, 124) = .inl (cI, 24, .inl (fun _ => 0)) := cellI (by decide +kernel) (by decide +kernel) rfl
  have a_0_125 : ad (0, 125) = q35 := by rw [had]; rfl
  have e_0_125 : cellOf ad cI cZ cJ cW cP z0 (0, 125) = .inl (cI, 24, .inl (fun _ => 0)) := cellI (by decide +kernel) (by decide +kernel) rfl
  have e_0_90 : cellOf ad cI cZ cJ cW cP z0 (0, 90) = .inr (10, [.ref (ad (0, 91)), .ref (ad (0, 92)), .ref (ad (0, 93)), .ref (ad (0, 94)), .ref (ad (0, 95)), .ref (ad (0, 96)), .ref (ad (0, 97)), .ref (ad (0, 98)), .ref (ad (0, 99)), .ref (ad (0, 100)), .ref (ad (0, 101)), .ref (ad (0, 102)), .ref (ad (0, 103)), .ref (ad (0, 104)), .ref (ad (0, 105)), .ref (ad (0, 106)), .ref (ad (0, 107)), .ref (ad (0, 108)), .ref (ad (0, 109)), .ref (ad (0, 110)), .ref (ad (0, 111)), .ref (ad (0, 112)), .ref (ad (0, 113)), .ref (ad (1, 114)), .ref (ad (2, 114)), .ref (ad (0, 116)), .ref (ad (0, 117)), .ref (ad (0, 118)), .ref (ad (0, 119)), .ref (ad (0, 120)), .int 0, .int 0, .int 0, .int 0, .int 0, .int 0, .int 0, .int 0, .int 0, .ref (ad (0, 121)), .ref (ad (0, 122)), .int 0, .ref (ad (0, 123)), .ref (ad (0, 124)), .ref (ad (0, 125))]) := by
    rw [cellO (show shk ((0, 90) : Ob).2 = 1 by decide +kernel) (show shc ((0, 90) : Ob).2 = 10 by decide +kernel)]
    rfl
  have eS : wsOfM ad cI cZ cJ cW cP z0 = [(h0, .inr (10, [.ref q1, .ref q2, .ref q3, .ref q4, .ref q5, .ref q6, .ref q7, .ref q8, .ref q9, .ref q10, .ref q11, .ref q12, .ref q13, .ref q14, .ref q15, .ref q16, .ref q17, .ref q18, .ref q19, .ref q20, .ref q21, .ref q22, .ref q23, .ref q24, .ref q25, .ref q26, .ref q27, .ref q28, .ref q29, .ref q30, .int 0, .int 0, .int 0, .int 0, .int 0, .int 0, .int 0, .int 0, .int 0, .ref q31, .ref q32, .int 0, .ref q33, .ref q34, .ref q35])), (q1, .inl (cI, 24, .inl (fun _ => 0))), (q2, .inl (cI, 24, .inl (fun _ => 0))), (q3, .inl (cI, 24, .inl (fun _ => 0))), (q4, .inl (cI, 24, .inl (fun _ => 0))), (q5, .inl (cI, 24, .inl (fun _ => 0))), (q6, .inl (cI, 24, .inl (fun _ => 0))), (q7, .inl (cI, 24, .inl (fun _ => 0))), (q8, .inl (cI, 24, .inl (fun _ => 0))), (q9, .inl (cI, 24, .inl (fun _ => 0))), (q10, .inl (cI, 24, .inl (fun _ => 0))), (q11, .inl (cZ, 24, .inl (fun _ => 0))), (q12, .inl (cI, 256, .inl (fun _ => 0))), (q13, .inl (cI, 256, .inl (fun _ => 0))), (q14, .inl (cI, 4, .inl (fun _ => 0))), (q15, .inl (cI, 12, .inl (fun _ => 0))), (q16, .inl (cI, 12, .inl (fun _ => 0))), (q17, .inl (cI, 1200, .inl (fun _ => 0))), (q18, .inl (cI, 8, .inl (fun _ => 0))), (q19, .inl (cI, 8, .inl (fun _ => 0))), (q20, .inl (cI, 8, .inl (fun _ => 0))), (q21, .inl (cI, 10, .inl (fun _ => 0))), (q22, .inl (cI, 10, .inl (fun _ => 0))), (q23, .inl (cI, 10, .inl (fun _ => 0))), (q24, .inl (cI, 19675, .inl (fun _ => 0))), (q25, .inl (cI, 19675, .inl (fun _ => 0))), (q26, .inl (cI, 118050, .inl (fun _ => 0))), (q27, .inl (cI, 6, .inl (fun _ => 0))), (q28, .inl (cI, 6, .inl (fun _ => 0))), (q29, .inl (cI, 6, .inl (fun _ => 0))), (q30, .inl (cJ, 600, .inr (.inl (fun _ => 0)))), (q31, .inl (cI, 156, .inl (fun _ => 0))), (q32, .inl (cZ, 9, .inl (fun _ => 0))), (q33, .inl (cZ, 12, .inl (fun _ => 0))), (q34, .inl (cI, 24, .inl (fun _ => 0))), (q35, .inl (cI, 24, .inl (fun _ => 0)))] := by
    unfold wsOfM objsM
    simp only [List.map_cons, List.map_nil, e_0_90, e_0_91, e_0_92, e_0_93, e_0_94, e_0_95, e_0_96, e_0_97, e_0_98, e_0_99, e_0_100, e_0_101, e_0_102, e_0_103, e_0_104, e_0_105, e_0_106, e_0_107, e_0_108, e_0_109, e_0_110, e_0_111, e_0_112, e_0_113, e_1_114, e_2_114, e_0_116, e_0_117, e_0_118, e_0_119, e_0_120, e_0_121, e_0_122, e_0_123, e_0_124, e_0_125, a_0_90, a_0_91, a_0_92, a_0_93, a_0_94, a_0_95, a_0_96, a_0_97, a_0_98, a_0_99, a_0_100, a_0_101, a_0_102, a_0_103, a_0_104, a_0_105, a_0_106, a_0_107, a_0_108, a_0_109, a_0_110, a_0_111, a_0_112, a_0_113, a_1_114, a_2_114, a_0_116, a_0_117, a_0_118, a_0_119, a_0_120, a_0_121, a_0_122, a_0_123, a_0_124, a_0_125]
  simp only [List.set_cons_zero, List.set_cons_succ, List.nil_append, List.cons_append] at hP hD
  rw [← eS, ← List.append_nil (wsOfM ad cI cZ cJ cW cP z0)] at hP hD
  have hZa : hZs ad A s := by
    have e33 : ad (0, 33) = t33 := by rw [had]; rfl
    unfold hZs; rw [e33]; exact hZ
  have h90 := a_0_90
  refine lv_aload_n hx hb dk10_290 rfl (lv_at hl 0 rfl) ?_
  refine lv_iconst (v := nI 4) hx hb dk10_291 (by decide +kernel) ?_
  refine W.eq (g2 := F0 m 292 ls ((([vI (nI 4)] : List PV).map (tV ad)).reverse ++ .ref (ad (0, 90)) :: [])) (by rw [h90]; rfl) ?_
  refine b_methIM (mi := 115) (o := (0, 90)) (as := [vI (nI 4)]) (k := fun _ w => K10 w) (X := []) (own := cR 10) (cW := cW) (cP := cP) (m_born (fun _ _ h => h)) (by decide) (by decide) (Or.inl (by decide)) rfl (by decide) (by decide) (by decide) ⟨trivial, trivial⟩ (by decide) (by decide) hx hb hml hown hts hKF hZa hP hD hS hA (in_gT (List.mem_of_getElem? (i := 1045) (by decide +kernel)) rfl) ⟨by decide +kernel, by decide +kernel⟩ hl.1 (Nat.le_of_ble_eq_true rfl) dk10_292 ⟨Nat.le_of_ble_eq_true rfl, Nat.le_of_ble_eq_true rfl⟩ (fun x w' H locs hk hP hD hS => ?_)
  refine lv_istore_n (lv' := [(1, .int x), (0, .ref h0)]) hx hb dk10_295 rfl hl (by decide) rfl (fun ls hl => ?_)
  rw [List.append_nil] at hP hD
  refine W.widen (k := 35) (n := 160301) (Nat.le_of_ble_eq_true rfl) (Nat.le_of_ble_eq_true rfl) ?_
  exact W.vret hx hb hr (fun t ht hW => ⟨⟨(ad, w'), rfl, ⟨h90, hk⟩, by rw [ht]; exact hP, va_K.moved hW.alike hKF, hD⟩, hS.F ht⟩) hS.2.2 dk10_296

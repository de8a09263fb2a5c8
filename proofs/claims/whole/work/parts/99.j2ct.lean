/-! constructors: where they stand, their steps -/
def rmC (f mc ms : Nat) : Room := { frames := f, cells := mc, slots := ms, locals := 64 * f }
def CX (X : mC) (own : String) (cc : ByteArray) (maxL : Nat) (p : Program) (s : State) (m : MethodId) (args : Array Value) (meth : Method) (c : Code) : Prop :=
  p.tables.exec = Jvm.exec ∧ c.code = cc ∧ c.maxLocals = maxL ∧ s.vm.findClass own = some m.cls ∧ (∀ w ∈ mTb, w.before args s = true) ∧ va_K (mcD X) vwCl (mTy X) s
abbrev eW (h0 ci : Nat) (fs : List Value) : va_W := [(h0, .inr (ci, fs))]
abbrev cQ (X : mC) (h0 ci : Nat) (fs : List Value) (sz : Nat) (F : (Nat → Nat) → va_W) : Array Value → State → Outcome → State → Prop := va_Qv (fun a : Nat → Nat => a 0 = h0) (fun a t => va_P (mcD X) vwCl (F a) t.heap ∧ va_D (va_A (eW h0 ci fs) sz) (F a)) (va_A (eW h0 ci fs) sz)
def cPr (X : mC) (EX : Nat → Nat → State → Prop) (h0 ci : Nat) (fs : List Value) (sz : Nat) (U : State) : Prop := U.heap.size = sz ∧ va_P (mcD X) vwCl (eW h0 ci fs) U.heap ∧ va_K (mcD X) vwCl (mTy X) U ∧ EX h0 sz U
def CT (X : mC) (EX : Nat → Nat → State → Prop) (y : MethodName) (cc : ByteArray) (maxL ci : Nat) (fs : List Value) (f mc ms : Nat) (F : (Nat → Nat) → va_W) : Prop :=
  ∀ (h0 sz : Nat), Met (mcL X) y (Cond.code y cc maxL none :: mTb) (rmC f mc ms) (va_Pc [.ref h0] (cPr X EX h0 ci fs sz)) (cQ X h0 ci fs sz F) mc ms (va_A (eW h0 ci fs) sz)
def exOk (EX : Nat → Nat → State → Prop) : Prop := ∀ (h0 sz : Nat) (U : State) (g : JFrame) (mk : MethodId) (a : Array Value), EX h0 sz U → EX h0 sz (U.calling g mk a)
def EX0 : Nat → Nat → State → Prop := fun _ _ _ => True
theorem EX0_ok : exOk EX0 := fun _ _ _ _ _ _ _ => trivial
section MCT
variable {X : mC} {EX : Nat → Nat → State → Prop} {h0 sz ci : Nat} {fs : List Value}
theorem cPr_blind {as : List Value} (he : exOk EX) : FrameBlind (va_Pc as (cPr X EX h0 ci fs sz)) := by
  intro a' U g mk hq
  obtain ⟨e1, e2, e3, e4, e5⟩ := hq
  exact ⟨e1, e2, e3, va_K.moved (u := U) (U := U.calling g mk a') (Vm.Alike.refl U.vm) e4, he _ _ _ _ _ _ e5⟩
theorem eW_D : va_D (va_A (eW h0 ci fs) sz) (eW h0 ci fs) := by
  refine ⟨fun i j p q hi hj _ => ?_, fun k q hk => va_A.in hk⟩
  have h1 : i < 1 := (List.getElem?_eq_some_iff.mp hi).1
  have h2 : j < 1 := (List.getElem?_eq_some_iff.mp hj).1
  omega
theorem ct_start {y : MethodName} {cc : ByteArray} {maxL f mc ms : Nat} {F : (Nat → Nat) → va_W} (hy : plainName y.cls = true) (hyn : y.name = "<init>") (hmx : 1 ≤ maxL)
    (body : ∀ (p : Program) (e : Env) (s : State) (m : MethodId) (below : List Frame) (meth : Method) (c : Code) (h0 : Nat) (ls : Array Slot), CX X y.cls cc maxL p s m #[.ref h0] meth c → meth.sig.returnType = none → meth.name = "<init>" → meth.locks = false → EX h0 s.heap.size s → va_P (mcD X) vwCl (eW h0 ci fs) s.heap → lv_has ls maxL [(0, .ref h0)] →
      W p (mcL X) e (rmC f mc ms) s m #[.ref h0] below meth c s.heap [] 0 0 (MQ below (cQ X h0 ci fs s.heap.size F) #[.ref h0] s mc ms (va_A (eW h0 ci fs) s.heap.size)) (F0 m 0 ls [])) : CT X EX y cc maxL ci fs f mc ms F := by
  intro h0 sz
  refine Met.ofW (cc := cc) (maxL := maxL) (ret := none) hy rfl ?_
  intro p e s m args below meth c s₁ B hml hv
  obtain ⟨rfl, rfl, hP, hK, hE⟩ := hv
  have hts := atoms_spec (ws := Cond.code y cc maxL none :: mTb) B.pre
  have hl := lv_entry ([.ref h0]) (n := maxL) (by show 1 ≤ maxL; exact hmx)
  rw [lg_entry_eq]
  exact body p e s m below meth c h0 _ ⟨B.exec, B.bytes, hml, findClass_of_methodNamed B.named, fun w hw => hts w (List.mem_cons_of_mem _ hw), hK⟩ B.returns ((name_of_methodNamed B.named B.method).1.trans hyn) B.notSynchronized hE hP hl
section MCS
variable {own : String} {cc : ByteArray} {maxL : Nat} {p : Program} {e : Env} {R : Room} {s : State} {m : MethodId} {args : Array Value} {below : List Frame} {meth : Method} {c : Code} {H : Heap} {locs : List Loc} {cells slots : Nat} {Q : State → Prop} {A : Nat → Prop} {ls : Array Slot} {ws : va_W} {pc : Nat} {rest : List Value}
theorem ct_end {F : (Nat → Nat) → va_W} {a : Nat → Nat} {mc ms : Nat} (hC : CX X own cc maxL p s m args meth c) (hr : meth.sig.returnType = none) (hlocks : meth.locks = false) (h1 : cells ≤ mc) (h2 : slots ≤ ms) (ha : a 0 = h0) (hP : va_P (mcD X) vwCl (F a) H) (hD : va_D (va_A (eW h0 ci fs) s.heap.size) (F a)) (hS : va_S (va_A (eW h0 ci fs) s.heap.size) s.heap H locs) (hdg : decode cc pc = .ok (.return_, 1)) :
    W p (mcL X) e R s m args below meth c H locs cells slots (MQ below (cQ X h0 ci fs s.heap.size F) args s mc ms (va_A (eW h0 ci fs) s.heap.size)) (F0 m pc ls []) := by
  refine W.widen (k := mc) (n := ms) h1 h2 ?_
  exact W.vret hC.1 hC.2.1 hr (fun t ht hWm => ⟨⟨a, rfl, ha, by rw [ht]; exact hP, hD⟩, hS.F ht⟩) hS.2.2 hdg hlocks
theorem oi_words : Cond.instanceMethod Lib.objectInit ∈ mTb ∧ Cond.code Lib.objectInit ⟨#[0xb1]⟩ 1 none ∈ mTb := by decide +kernel
theorem cs_super {idx : Nat} {lv : List (Nat × Value)} (hC : CX X own cc maxL p s m args meth c) (hlink : Cond.methodLink own idx Lib.objectInit ∈ mTb) (hR : 1 ≤ R.frames ∧ 12 ≤ R.locals) (hl : lv_has ls maxL ((0, .ref h0) :: lv)) (d0 : decode cc 0 = .ok (.aload_n 0, 1)) (d1 : decode cc 1 = .ok (.invokespecial idx, 3)) (k : W p (mcL X) e R s m args below meth c H locs cells slots Q (F0 m 4 ls [])) : W p (mcL X) e R s m args below meth c H locs cells slots Q (F0 m 0 ls []) := by
  refine lv_aload_n hC.1 hC.2.1 d0 rfl (lv_at hl 0 rfl) ?_
  refine W.objInit hC.1 hC.2.1 hC.2.2.2.1 (hC.2.2.2.2.1 _ hlink) (hC.2.2.2.2.1 _ oi_words.1) (hC.2.2.2.2.1 _ oi_words.2) rfl (by rw [hC.2.2.1]; exact hl.1) rfl d1 hR.1 (by show 2 * 0 + 0 + 12 ≤ R.locals; omega) ?_
  exact W.eq (g2 := F0 m 4 ls []) rfl k
/-- what the tables must say of a field that is written -/
def ckF (own : String) (ci k idx : Nat) (fty : FieldType) (fin : Bool) : Bool := match vwCl[ci]? with
  | some r => decide (r.1 = own) && (decide (k < r.2.2) && (decide (Cond.fieldLink own idx (r.2.1 k).1 (r.2.1 k).2.1 (r.2.1 k).2.2.1 ∈ mTb) && (decide ((r.2.1 k).2.2.2 = fin) && (decide ((r.2.1 k).1 = own) && decide (parseFieldDescriptor (r.2.1 k).2.2.1 = some fty)))))
  | none => false
theorem ckF_spec {k idx : Nat} {fty : FieldType} {fin : Bool} (h : ckF own ci k idx fty fin = true) : ∃ r, vwCl[ci]? = some r ∧ r.1 = own ∧ k < r.2.2 ∧ Cond.fieldLink own idx (r.2.1 k).1 (r.2.1 k).2.1 (r.2.1 k).2.2.1 ∈ mTb ∧ (r.2.1 k).2.2.2 = fin ∧ (r.2.1 k).1 = own ∧ parseFieldDescriptor (r.2.1 k).2.2.1 = some fty := by
  unfold ckF at h
  split at h
  · rename_i r hr
    simp only [Bool.and_eq_true, decide_eq_true_eq] at h
    exact ⟨r, hr, h⟩
  · cases h
/-- a final field gets a reference -/
theorem cs_putF {k idx v : Nat} {fty : FieldType} (hC : CX X own cc maxL p s m args meth c) (hin : meth.name = "<init>") (hP : va_P (mcD X) vwCl ((h0, .inr (ci, fs)) :: ws) H) (hD : va_D A ((h0, .inr (ci, fs)) :: ws)) (hS : va_S A s.heap H locs) (hck : ckF own ci k idx fty true = true) (hn : narrow fty (.ref v) = .ref v) (hf : fits fty (.ref v) = true) (hl : k < fs.length) (hdg : decode cc pc = .ok (.putfield idx, 3))
    (kk : ∀ (H1 : Heap) (locs1 : List Loc), va_P (mcD X) vwCl ((h0, .inr (ci, fs.set k (.ref v))) :: ws) H1 → va_D A ((h0, .inr (ci, fs.set k (.ref v))) :: ws) → va_S A s.heap H1 locs1 → W p (mcL X) e R s m args below meth c H1 locs1 cells slots Q (F0 m (pc + 3) ls rest)) : W p (mcL X) e R s m args below meth c H locs cells slots Q (F0 m pc ls (.ref v :: .ref h0 :: rest)) := by
  obtain ⟨⟨C, T, N⟩, hr, h1, h2, h3, h4, h5, h6⟩ := ckF_spec hck
  obtain ⟨g1, ty0, g2, g3⟩ := vwCl_ok ci _ hr
  exact va_putF (D := mcD X) (ci := ci) (v := .ref v) (ty := fty) (C := C) (T := T) (N := N) hC.1 hC.2.1 hC.2.2.2.2.1 g1 ty0 g2 g3 hC.2.2.2.1 hC.2.2.2.2.2 hP hD hS 0 rfl hr k h2 (hC.2.2.2.2.1 _ h3) (fun _ h9 => h9) h4 hin h5 h6 hn hf hl hdg kk
/-- a field gets an int -/
theorem cs_puti {k idx : Nat} {v : Int32} (hC : CX X own cc maxL p s m args meth c) (hP : va_P (mcD X) vwCl ((h0, .inr (ci, fs)) :: ws) H) (hD : va_D A ((h0, .inr (ci, fs)) :: ws)) (hS : va_S A s.heap H locs) (hck : ckF own ci k idx .int false = true) (hl : k < fs.length) (hdg : decode cc pc = .ok (.putfield idx, 3))
    (kk : ∀ (H1 : Heap) (locs1 : List Loc), va_P (mcD X) vwCl ((h0, .inr (ci, fs.set k (.int v))) :: ws) H1 → va_D A ((h0, .inr (ci, fs.set k (.int v))) :: ws) → va_S A s.heap H1 locs1 → W p (mcL X) e R s m args below meth c H1 locs1 cells slots Q (F0 m (pc + 3) ls rest)) : W p (mcL X) e R s m args below meth c H locs cells slots Q (F0 m pc ls (.int v :: .ref h0 :: rest)) := by
  obtain ⟨⟨C, T, N⟩, hr, h1, h2, h3, h4, h5, h6⟩ := ckF_spec hck
  obtain ⟨g1, ty0, g2, g3⟩ := vwCl_ok ci _ hr
  exact va_put (D := mcD X) (ci := ci) (v := .int v) (ty := .int) (C := C) (T := T) (N := N) hC.1 hC.2.1 hC.2.2.2.2.1 g1 ty0 g2 g3 hC.2.2.2.1 hC.2.2.2.2.2 hP hD hS 0 rfl hr k h2 (hC.2.2.2.2.1 _ h3) (fun _ h9 => h9) h4 h6 rfl rfl hl hdg kk
/-- a new row of numbers, of the class that is known -/
theorem cs_newa {atype : ArrayType} {ty : FieldType} {t0 n : Nat} {cA0 : ClassId} {a0 : vp_A} (hC : CX X own cc maxL p s m args meth c) (harr : Cond.arrayClass (newarray.typeOf atype) ∈ mTb) (hty : newarray.typeOf atype = ty) (hra : ∀ z, va_RA s z ty = (s.vm.findClass ("[" ++ ty.toString) = some z)) (ht : (mTy X)[t0]? = some (cA0, ty)) (hP : va_P (mcD X) vwCl ws H) (hD : va_D A ws) (hS : va_S A s.heap H locs) (hA : ∀ q, s.heap.size ≤ q → A q)
    (ha : ∀ cA : ClassId, vp_cell cA a0 = arrV cA n (fun _ => defaultValue ty)) (hn : n < 20000) (hb8 : componentBytes ty ≤ 8) (hcells : cells + 1 ≤ R.cells) (hslots : slots + n ≤ R.slots) (hdg : decode cc pc = .ok (.newarray atype, 2))
    (kk : ∀ (q : Nat) (H1 : Heap), va_P (mcD X) vwCl (ws ++ [(q, .inl (cA0, a0))]) H1 → va_D A (ws ++ [(q, .inl (cA0, a0))]) → va_S A s.heap H1 locs → W p (mcL X) e R s m args below meth c H1 locs (cells + 1) (slots + n) Q (F0 m (pc + 2) ls (.ref q :: rest))) : W p (mcL X) e R s m args below meth c H locs cells slots Q (F0 m pc ls (.int (nI n) :: rest)) := by
  refine va_newa hC.1 hC.2.1 (hC.2.2.2.2.1 _ harr) hty hC.2.2.2.2.2 hP hD hS hA ha (nI_pos (by omega)) (nI_clamp (by omega)) ?_ hcells hslots hdg (fun q cA H1 hK1 hP1 hD1 hS1 => ?_)
  · have := Nat.mul_le_mul (Nat.le_of_lt hn) hb8
    omega
  · have h1 := (hK1.2 (mTy X).length (cA, ty) (by rw [List.getElem?_append_right (Nat.le_refl _), Nat.sub_self]; rfl)).2
    have h2 := (hC.2.2.2.2.2.2 t0 _ ht).2
    rw [hra] at h1 h2
    have e := Option.some.inj (h1.symm.trans h2)
    subst e
    exact kk q H1 hP1 hD1 hS1
theorem ar_words : Cond.arrayClass .int ∈ mTb ∧ Cond.arrayClass .long ∈ mTb ∧ Cond.arrayClass .boolean ∈ mTb := by decide +kernel
/-- newarray int, putfield final -/
theorem cs_arrI {n k idx : Nat} (hC : CX X own cc maxL p s m args meth c) (hin : meth.name = "<init>") (hP : va_P (mcD X) vwCl ((h0, .inr (ci, fs)) :: ws) H) (hD : va_D A ((h0, .inr (ci, fs)) :: ws)) (hS : va_S A s.heap H locs) (hA : ∀ q, s.heap.size ≤ q → A q) (hck : ckF own ci k idx (.array .int) true = true) (hl : k < fs.length) (hn : n < 20000) (hcells : cells + 1 ≤ R.cells) (hslots : slots + n ≤ R.slots) (d0 : decode cc pc = .ok (.newarray .int, 2)) (d2 : decode cc (pc + 2) = .ok (.putfield idx, 3))
    (kk : ∀ (q : Nat) (H1 : Heap) (locs1 : List Loc), va_P (mcD X) vwCl ((h0, .inr (ci, fs.set k (.ref q))) :: (ws ++ [(q, .inl (mcA X 0, n, .inl (fun _ => 0)))])) H1 → va_D A ((h0, .inr (ci, fs.set k (.ref q))) :: (ws ++ [(q, .inl (mcA X 0, n, .inl (fun _ => 0)))])) → va_S A s.heap H1 locs1 → W p (mcL X) e R s m args below meth c H1 locs1 (cells + 1) (slots + n) Q (F0 m (pc + 2 + 3) ls [])) : W p (mcL X) e R s m args below meth c H locs cells slots Q (F0 m pc ls [.int (nI n), .ref h0]) :=
  cs_newa (t0 := 0) (ty := .int) (atype := .int) (n := n) (cA0 := mcA X 0) (a0 := (n, .inl (fun _ => 0))) hC ar_words.1 rfl (fun _ => rfl) rfl hP hD hS hA (fun _ => rfl) hn (by decide) hcells hslots d0 (fun q H1 hP1 hD1 hS1 => cs_putF (ci := ci) (fs := fs) (ws := ws ++ [((q, .inl (mcA X 0, n, .inl (fun _ => 0))) : Nat × va_E)]) hC hin hP1 hD1 hS1 hck rfl rfl hl d2 (fun H2 locs2 hP2 hD2 hS2 => kk q H2 locs2 hP2 hD2 hS2))
theorem cs_arrL {n k idx : Nat} (hC : CX X own cc maxL p s m args meth c) (hin : meth.name = "<init>") (hP : va_P (mcD X) vwCl ((h0, .inr (ci, fs)) :: ws) H) (hD : va_D A ((h0, .inr (ci, fs)) :: ws)) (hS : va_S A s.heap H locs) (hA : ∀ q, s.heap.size ≤ q → A q) (hck : ckF own ci k idx (.array .long) true = true) (hl : k < fs.length) (hn : n < 20000) (hcells : cells + 1 ≤ R.cells) (hslots : slots + n ≤ R.slots) (d0 : decode cc pc = .ok (.newarray .long, 2)) (d2 : decode cc (pc + 2) = .ok (.putfield idx, 3))
    (kk : ∀ (q : Nat) (H1 : Heap) (locs1 : List Loc), va_P (mcD X) vwCl ((h0, .inr (ci, fs.set k (.ref q))) :: (ws ++ [(q, .inl (mcA X 1, n, .inr (.inl (fun _ => 0))))])) H1 → va_D A ((h0, .inr (ci, fs.set k (.ref q))) :: (ws ++ [(q, .inl (mcA X 1, n, .inr (.inl (fun _ => 0))))])) → va_S A s.heap H1 locs1 → W p (mcL X) e R s m args below meth c H1 locs1 (cells + 1) (slots + n) Q (F0 m (pc + 2 + 3) ls [])) : W p (mcL X) e R s m args below meth c H locs cells slots Q (F0 m pc ls [.int (nI n), .ref h0]) :=
  cs_newa (t0 := 1) (ty := .long) (atype := .long) (n := n) (cA0 := mcA X 1) (a0 := (n, .inr (.inl (fun _ => 0)))) hC ar_words.2.1 rfl (fun _ => rfl) rfl hP hD hS hA (fun _ => rfl) hn (by decide) hcells hslots d0 (fun q H1 hP1 hD1 hS1 => cs_putF (ci := ci) (fs := fs) (ws := ws ++ [((q, .inl (mcA X 1, n, .inr (.inl (fun _ => 0)))) : Nat × va_E)]) hC hin hP1 hD1 hS1 hck rfl rfl hl d2 (fun H2 locs2 hP2 hD2 hS2 => kk q H2 locs2 hP2 hD2 hS2))
theorem cs_arrZ {n k idx : Nat} (hC : CX X own cc maxL p s m args meth c) (hin : meth.name = "<init>") (hP : va_P (mcD X) vwCl ((h0, .inr (ci, fs)) :: ws) H) (hD : va_D A ((h0, .inr (ci, fs)) :: ws)) (hS : va_S A s.heap H locs) (hA : ∀ q, s.heap.size ≤ q → A q) (hck : ckF own ci k idx (.array .boolean) true = true) (hl : k < fs.length) (hn : n < 20000) (hcells : cells + 1 ≤ R.cells) (hslots : slots + n ≤ R.slots) (d0 : decode cc pc = .ok (.newarray .boolean, 2)) (d2 : decode cc (pc + 2) = .ok (.putfield idx, 3))
    (kk : ∀ (q : Nat) (H1 : Heap) (locs1 : List Loc), va_P (mcD X) vwCl ((h0, .inr (ci, fs.set k (.ref q))) :: (ws ++ [(q, .inl (mcA X 2, n, .inl (fun _ => 0)))])) H1 → va_D A ((h0, .inr (ci, fs.set k (.ref q))) :: (ws ++ [(q, .inl (mcA X 2, n, .inl (fun _ => 0)))])) → va_S A s.heap H1 locs1 → W p (mcL X) e R s m args below meth c H1 locs1 (cells + 1) (slots + n) Q (F0 m (pc + 2 + 3) ls [])) : W p (mcL X) e R s m args below meth c H locs cells slots Q (F0 m pc ls [.int (nI n), .ref h0]) :=
  cs_newa (t0 := 2) (ty := .boolean) (atype := .boolean) (n := n) (cA0 := mcA X 2) (a0 := (n, .inl (fun _ => 0))) hC ar_words.2.2 rfl (fun _ => rfl) rfl hP hD hS hA (fun _ => rfl) hn (by decide) hcells hslots d0 (fun q H1 hP1 hD1 hS1 => cs_putF (ci := ci) (fs := fs) (ws := ws ++ [((q, .inl (mcA X 2, n, .inl (fun _ => 0))) : Nat × va_E)]) hC hin hP1 hD1 hS1 hck rfl rfl hl d2 (fun H2 locs2 hP2 hD2 hS2 => kk q H2 locs2 hP2 hD2 hS2))
/-- what the tables must say of a class that is made -/
def ckN (own : String) (cj ik ic : Nat) (y2 : MethodName) (cc2 : ByteArray) (maxL2 : Nat) : Bool := match vwCl[cj]? with
  | some r => decide (Cond.classLink own ik r.1 ∈ mTb) && (decide (Cond.instantiable r.1 r.2.2 ∈ mTb) && (decide (Cond.initialized r.1 ∈ mTb) && (decide (Cond.methodLink own ic y2 ∈ mTb) && (decide (Cond.instanceMethod y2 ∈ mTb) && (decide (Cond.code y2 cc2 maxL2 none ∈ mTb) && (decide (y2.name = "<init>") && (decide (y2.cls = r.1) && (decide (y2.cls ≠ "java/lang/invoke/MethodHandle") && (decide (y2.cls ≠ "java/lang/invoke/VarHandle") && decide ((parseMethodDescriptor y2.desc).map (fun d => d.parameters.length) = some 0))))))))))
  | none => false
theorem ckN_spec {cj ik ic maxL2 : Nat} {y2 : MethodName} {cc2 : ByteArray} (h : ckN own cj ik ic y2 cc2 maxL2 = true) : ∃ r, vwCl[cj]? = some r ∧ Cond.classLink own ik r.1 ∈ mTb ∧ Cond.instantiable r.1 r.2.2 ∈ mTb ∧ Cond.initialized r.1 ∈ mTb ∧ Cond.methodLink own ic y2 ∈ mTb ∧ Cond.instanceMethod y2 ∈ mTb ∧ Cond.code y2 cc2 maxL2 none ∈ mTb ∧ y2.name = "<init>" ∧ y2.cls = r.1 ∧ y2.cls ≠ "java/lang/invoke/MethodHandle" ∧ y2.cls ≠ "java/lang/invoke/VarHandle" ∧ (parseMethodDescriptor y2.desc).map (fun d => d.parameters.length) = some 0 := by
  unfold ckN at h
  split at h
  · rename_i r hr
    simp only [Bool.and_eq_true, decide_eq_true_eq] at h
    exact ⟨r, hr, h⟩
  · cases h
/-- new, dup, invokespecial -/
theorem cs_new {cj ik ic maxL2 f2 mc2 ms2 N : Nat} {y2 : MethodName} {cc2 : ByteArray} {fs2 : List Value} {F2 : (Nat → Nat) → va_W} {C : String} {T : u_T} {ty : Nat → FieldType} (hC : CX X own cc maxL p s m args meth c) (hP : va_P (mcD X) vwCl ws H) (hD : va_D A ws) (hS : va_S A s.heap H locs) (hA : ∀ q, s.heap.size ≤ q → A q) (hr : vwCl[cj]? = some (C, T, N)) (hty : ∀ k, k < N → parseFieldDescriptor (T k).2.2.1 = some (ty k)) (hfs : ∀ j, j < N → defaultValue (ty j) = vp_V fs2 j) (hck : ckN own cj ik ic y2 cc2 maxL2 = true) (hct : CT X EX y2 cc2 maxL2 cj fs2 f2 mc2 ms2 F2) (he : exOk EX)
    (hEX : ∀ (q : Nat) (H1 : Heap) (locs1 : List Loc) (U : State), A q → va_S A s.heap H1 locs1 → U.heap = H1 → s.WarmedH U.vm → EX q H1.size U) (hls : ls.size = maxL) (hR : f2 + 1 ≤ R.frames ∧ 8 + (maxL2 + 11) + 64 * f2 ≤ R.locals) (hcells : cells + 1 + mc2 ≤ R.cells) (hslots : slots + N + ms2 ≤ R.slots) (hcat : (rest.map fun v => v.category).sum ≤ 7)
    (d0 : decode cc pc = .ok (.new ik, 3)) (d3 : decode cc (pc + 3) = .ok (.dup, 1)) (d4 : decode cc (pc + 3 + 1) = .ok (.invokespecial ic, 3))
    (kk : ∀ (a : Nat → Nat) (H1 : Heap) (locs1 : List Loc), va_P (mcD X) vwCl (ws ++ F2 a) H1 → va_D A (ws ++ F2 a) → va_S A s.heap H1 locs1 → W p (mcL X) e R s m args below meth c H1 locs1 (cells + 1 + mc2) (slots + N + ms2) Q (F0 m (pc + 3 + 1 + 3) ls (.ref (a 0) :: rest))) : W p (mcL X) e R s m args below meth c H locs cells slots Q (F0 m pc ls rest) := by
  obtain ⟨r, hr2, k1, k2, k3, k4, k5, k6, k7, k8, k9, k10, k11⟩ := ckN_spec hck
  rw [hr] at hr2
  cases hr2
  have hw := hC.2.2.2.2.1
  refine va_new (D := mcD X) (ci := cj) (fs := fs2) (C := C) (T := T) (N := N) hC.1 hC.2.1 hw (vwCl_ok cj _ hr).1 ty hty hC.2.2.2.1 (hw _ k1) (hw _ k2) (hw _ k3) hC.2.2.2.2.2 hP hD hS hA hr hfs (by omega) (by omega) d0 (fun q H1 hP1 hD1 hS1 => ?_)
  refine lv_dup hC.1 hC.2.1 d3 rfl ?_
  have hq : (ws ++ [(q, (.inr (cj, fs2) : va_E))])[ws.length]? = some (q, .inr (cj, fs2)) := by
    rw [List.getElem?_append_right (Nat.le_refl _), Nat.sub_self]
    rfl
  have hPc : va_P (mcD X) vwCl (eW q cj fs2) H1 := fun k x hx => by
    have hk0 : k < 1 := (List.getElem?_eq_some_iff.mp hx).1
    rw [show k = 0 by omega] at hx
    cases hx
    exact hP1 ws.length _ hq
  have hFc : ∀ z, va_A (eW q cj fs2) H1.size z → A z := fun z hz => by
    rcases hz with ⟨j, e', hj⟩ | hz
    · have hj0 : j < 1 := (List.getElem?_eq_some_iff.mp hj).1
      rw [show j = 0 by omega] at hj
      have hj2 : (q, (.inr (cj, fs2) : va_E)) = (z, e') := Option.some.inj hj
      have hz2 : q = z := congrArg Prod.fst hj2
      rw [← hz2]
      exact hD1.2 ws.length _ hq
    · exact hA z (Nat.le_trans hS1.1 hz)
  have hAq : A q := hD1.2 ws.length _ hq
  refine va_callv (va_runI (Ts := mTb) (own := own) (y := y2) (b := q) (As := []) (rest := .ref q :: rest) ⟨hC.1, hC.2.1, hC.2.2.1, hC.2.2.2.1, hw⟩ (hct q H1.size) (cwI 0 hw ?_ rfl rfl rfl (by rw [k8]; exact hw _ k3) (hw _ k4) (hw _ k5) k7 ⟨k9, k10, k11⟩ ⟨hR.1, hR.2⟩) ⟨cPr_blind he, fun U hU hWm => ⟨rfl, by rw [hU], by rw [hU]; exact hPc, va_K.moved hWm.alike hC.2.2.2.2.2, hEX q H1 locs U hAq hS1 hU hWm⟩⟩ rfl rfl hls rfl (lv_room (by show 1 + (rest.map fun v => v.category).sum ≤ 8; omega)) d4 ⟨by omega, by omega⟩) hS1 (fun z _ h => hFc z h) hFc (fun a t H2 locs2 ht hvm hw2 hB hz hk hS2 => ?_)
  · intro w hw3
    rcases List.mem_cons.mp hw3 with rfl | z
    · exact ⟨k6, mTb_good k6⟩
    · exact ⟨z, mTb_good z⟩
  · obtain ⟨hP2, hD2⟩ := hB
    rw [ht] at hP2
    obtain ⟨hP3, hD3⟩ := va_join1 hP1 hD1 hk hFc hP2 hD2
    have h9 := kk a H2 locs2 hP3 hD3 hS2
    rw [hw2] at h9
    exact h9
end MCS
end MCT

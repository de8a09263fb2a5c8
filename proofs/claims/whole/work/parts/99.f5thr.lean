/-! what a throw needs; the class's work and worthOf with their throws; the law's own two methods -/
abbrev nsE : String := "java/util/NoSuchElementException"
abbrev nsR : String := "java/lang/RuntimeException"
abbrev nsU : List String := ["java/lang/Exception"]
abbrev bNs : ByteArray := prog_27_method_4_code
theorem dNs : decode bNs 0 = .ok (.aload_n 0, 1) ∧ decode bNs 1 = .ok (.aload_n 1, 1) ∧ decode bNs 2 = .ok (.invokespecial 13, 3) ∧ decode bNs 5 = .ok (.return_, 1) := by decide +kernel
abbrev tx1 : String := "no such work, or nothing such of it"
abbrev tx2 : String := "no such work in the latest worth, or nothing such of it"
abbrev nsB : List Cond := [.castable nsE nsE, .declares (Bundle.initS "java/lang/RuntimeException"), .declares (Bundle.initS "java/lang/Exception"), .declares (Bundle.initS Bundle.tN)]
def mNt (U : State) : Prop := va_Nw (.castable nsE nsE) U ∧ va_Nw (.declares (Bundle.initS "java/lang/RuntimeException")) U ∧ va_Nw (.declares (Bundle.initS "java/lang/Exception")) U ∧ va_Nw (.declares (Bundle.initS Bundle.tN)) U
theorem mNt_warm {s U : State} (hW : s.WarmedH U.vm) (h : mNt s) : mNt U := ⟨va_Nw.warmC hW h.1, va_Nw.warmD hW h.2.1, va_Nw.warmD hW h.2.2.1, va_Nw.warmD hW h.2.2.2⟩
def mTh (sa sb : Nat) (A : Nat → Prop) (U : State) (H : Heap) : Prop := mNt U ∧ vx_Zq Bundle.tN "UNASSIGNED_STACK" Bundle.steD A U H ∧ vx_Zq Bundle.tN "SUPPRESSED_SENTINEL" Bundle.listD A U H ∧ vk_R RX8 136 tx1 sa U ∧ vk_R RX8 303 tx2 sb U
theorem mTh_move {sa sb : Nat} {A B : Nat → Prop} {s U : State} {H H1 : Heap} (h : mTh sa sb A s H) (hW : s.WarmedH U.vm) (hq : ∀ a : Nat, a < H.size → ¬ A a → H1[a]? = H[a]?) (hAB : ∀ q, B q → A q) : mTh sa sb B U H1 :=
  ⟨mNt_warm hW h.1, vx_Zq.narrow (vx_Zq.moved hW.alike (vx_Zq.kept h.2.1 hq)) hAB, vx_Zq.narrow (vx_Zq.moved hW.alike (vx_Zq.kept h.2.2.1 hq)) hAB, vk_R.warm hW h.2.2.2.1, vk_R.warm hW h.2.2.2.2⟩
theorem th_w1 : ∀ w ∈ (vy_atS RX8 138 nsE nsR nsU 13 bNs).filter goodWord, w ∈ lw_tbl := by decide +kernel
theorem th_w2 : ∀ w ∈ (vy_atS RX8 138 nsE nsR nsU 13 bNs).filter (fun w => !goodWord w), w ∈ nsB := by decide +kernel
theorem th_w3 : ∀ w ∈ Cond.classLink RX8 134 nsE :: Cond.initialized nsE :: vy_atS RX8 138 nsE nsR nsU 13 bNs, vx_ot w = true := by decide +kernel
theorem th_w4 : Cond.classLink RX8 134 nsE ∈ mTb ∧ Cond.initialized nsE ∈ mTb := by decide +kernel
theorem th_fit : (Bundle.fit nsE = true ∧ Bundle.fit nsR = true) ∧ ∀ n ∈ nsU, Bundle.fit n = true := by decide +kernel
theorem th_hat {args : Array Value} {s : State} (hts : ∀ w ∈ mTb, w.before args s = true) (hn : mNt s) : ∀ w ∈ vy_atS RX8 138 nsE nsR nsU 13 bNs, w.before args s = true :=
  vx_hat (B := nsB) (fun w hw => hts w (List.mem_filter.mpr ⟨th_w1 w hw, (List.mem_filter.mp hw).2⟩)) th_w2 (vx_c (va_Nw.use rfl hn.1) (vx_c (va_Nw.use rfl hn.2.1) (vx_c (va_Nw.use rfl hn.2.2.1) (vx_c (va_Nw.use rfl hn.2.2.2) vx_n))))
theorem lg_len (X : mC) (a : List MV) : (lg_sl (a.map (mTr X))).length = mCat a := by
  induction a with
  | nil => rfl
  | cons v t ih =>
    show (lg_sl (mTr X v :: t.map (mTr X))).length = _
    unfold lg_sl at ih ⊢
    rw [List.flatMap_cons, List.length_append, ih, mTr_cat]
    show _ = (if mIsL v = true then 2 else 1) + mCat t
    by_cases hv : mIsL v = true
    · simp [hv]
    · simp [hv]
def rmX (h : Nat) : Room := { frames := h + 1, cells := 1, slots := 6, locals := 64 * (h + 1) }
def mPt (X : mC) (sa sb : Nat) (μ : Mem) (U : State) : Prop := mPre X μ U ∧ mTh sa sb (mA X) U U.heap
section MTh
variable {X : mC} {M h x sa sb : Nat} {μ : Mem} {K : MV → Mem → Prop} {KX : Mem → Prop}
theorem mPt_blind {as : List Value} : FrameBlind (va_Pc as (mPt X sa sb μ)) := by
  intro a' U g mk hq
  obtain ⟨e1, e2, e3⟩ := hq
  exact ⟨e1, (mPre_blind (X := X) (μ := μ) a' U g mk ⟨e1, e2⟩).2, mTh_move (U := U.calling g mk a') e3 (State.WarmedH.refl U) (fun _ _ _ => rfl) (fun _ h => h)⟩
abbrev mXC (X : mC) (KX : Mem → Prop) : String → State → State → Prop := vx_X KX (fun E u t => E = nsE ∧ mB X u t) (mA X)
/-- a method that may throw, out of the walk of its body -/
theorem vx_start (hm : mChkM M = true) {a : List MV} (ha : mCat a ≤ mMx M) (hok : ∀ v ∈ a, mOk v)
    (k : ∀ (p : Program) (e : Env) (s : State) (m : MethodId) (args : Array Value) (below : List Frame) (meth : Method) (c : Code), mFx X M h (mA X) p (rmX (h + 1)) s m args c 0 0 → mTh sa sb (mA X) s s.heap → meth.locks = false → (∀ x ∈ c.exceptionTable.toList, False) → mRh X M K (mA X) p e (rmX (h + 1)) s m args below meth c 0 0 (vx_MQ below (mQ X M K) (mXC X KX) args s 1 6 (mA X)) →
      lAt X M p e (rmX (h + 1)) s m args below meth c 0 0 (vx_MQ below (mQ X M K) (mXC X KX) args s 1 6 (mA X)) (mA X) 0 (mArg 0 a) [] μ) :
    vx_Met (mcL X) (mY M) (mWs M) (rmX (h + 1)) (va_Pc (a.map (mTr X)) (mPt X sa sb μ)) (mQ X M K) (mXC X KX) 1 6 (mA X) := by
  obtain ⟨m1, m2, m3, m4, m5, m6, m7, m8⟩ := mChkM_spec hm
  refine vx_ofW (cc := mCd M) (maxL := mMx M) (ret := mRt M) m6 rfl ?_
  intro p e s m args below meth c s₁ B hml ht hv
  obtain ⟨rfl, ⟨hW, hK, hD, hSt⟩, hTh⟩ := hv
  have hr := B.returns
  have hts := atoms_spec (ws := mWs M) B.pre
  have hown : s.vm.findClass (mY M).cls = some m.cls := findClass_of_methodNamed B.named
  have hlocks := B.notSynchronized
  have hl := lv_entry (a.map (mTr X)) (n := mMx M) (by rw [lg_len]; exact ha)
  rw [lg_entry_eq]
  rw [mArg_map] at hl
  refine k p e s m _ below meth c ⟨B.exec, B.bytes, hml, hown, fun w hw => hts w (List.mem_cons_of_mem _ hw), ⟨Nat.le_refl _, Nat.le_refl _, Nat.zero_le _, Nat.zero_le _⟩, hSt, hK, fun _ z => z⟩ hTh hlocks ht ?_ s.heap [] _ hW hD va_S.rf (fun q hq => hok _ (mArg_mem hq)) (fun v hv => by cases hv) hl
  intro H locs μ' v pc lsA stv hW' hS' hKv hri
  refine vx_ret ?_
  refine W.widen (k := 1) (n := 6) (Nat.zero_le _) (Nat.zero_le _) ?_
  rcases hri with ⟨x, ty, rfl, rfl, hdg, hrt, hne, hnar⟩ | ⟨x, rfl, rfl, hdg, hrt⟩ | ⟨rfl, rfl, hdg, hrt⟩
  · refine W.zret B.exec B.bytes (hr.trans hrt) hnar (fun t ht hWm => ?_) hS'.2.2 hdg hlocks
    rw [mQ_int hrt hne]
    exact ⟨⟨x, μ', rfl, hKv, by rw [mB, ht]; exact ⟨hW', va_K.moved hWm.alike hK⟩⟩, hS'.F ht⟩
  · refine W.lret B.exec B.bytes (hr.trans hrt) (fun t ht hWm => ?_) hS'.2.2 hdg hlocks
    unfold mQ
    rw [hrt]
    exact ⟨⟨x, μ', rfl, hKv, by rw [mB, ht]; exact ⟨hW', va_K.moved hWm.alike hK⟩⟩, hS'.F ht⟩
  · refine W.vret B.exec B.bytes (hr.trans hrt) (fun t ht hWm => ?_) hS'.2.2 hdg hlocks
    unfold mQ
    rw [hrt]
    exact ⟨⟨μ', rfl, hKv, by rw [mB, ht]; exact ⟨hW', va_K.moved hWm.alike hK⟩⟩, hS'.F ht⟩
section MTi
variable {p : Program} {e : Env} {R : Room} {s : State} {m : MethodId} {args : Array Value} {below : List Frame} {meth : Method} {c : Code} {ls : List (Nat × MV)} {Qc : Array Value → State → Outcome → State → Prop}
theorem thr_x {H : Heap} {locs : List Loc} (hK : va_K (mcD X) vwCl (mTy X) s) (hW : mWd X μ H) (hS : va_S (mA X) s.heap H locs) (hk : KX μ) : ∀ t : State, s.vm.Alike t.vm → H.size ≤ t.heap.size → (∀ q : Nat, q < H.size → t.heap[q]? = H[q]?) → mXC X KX nsE s t := by
  intro t hvm hz hq
  refine ⟨μ, hk, ⟨rfl, va_P.kept hW (fun k q hk => hq q.1 (hW k q hk).lt), va_K.moved hvm hK⟩, Nat.le_trans hS.1 hz, fun q h1 h2 => ?_⟩
  rw [hq q (Nat.lt_of_lt_of_le h1 hS.1)]
  exact hS.2.1 q h1 h2
theorem thr_work (hl : (mcL X).stackTraces = false) (hF : mFx X m_X8_work h (mA X) p R s m args c 0 0) (hTh : mTh sa sb (mA X) s s.heap) (hlocks : meth.locks = false) (hout : ∀ x ∈ c.exceptionTable.toList, False) (hR : 6 ≤ R.frames ∧ 100 ≤ R.locals ∧ 1 ≤ R.cells ∧ 6 ≤ R.slots) (hk : KX μ) : lAt X m_X8_work p e R s m args below meth c 0 0 (vx_MQ below Qc (mXC X KX) args s 1 6 (mA X)) (mA X) 17 ls [] μ := by
  intro H locs lsA hW hD hS h1 h2 hlv
  exact vy_throwS (Y0 := nsR) (ix := 13) (bts := bNs) (cc := mCd m_X8_work) (own := RX8) (cls := nsE) (text := tx1) (names := nsU) (ik := 134) (is := 136) (ic := 138) (sa := sa) (A := mA X) hF.1 hF.2.1 hl hF.2.2.2.1 th_fit.1.1 th_fit.1.2 dNs.1 dNs.2.1 dNs.2.2.1 dNs.2.2.2 th_fit.2 (hF.2.2.2.2.1 _ th_w4.1) (hF.2.2.2.2.1 _ th_w4.2) hTh.2.2.2.1 (th_hat hF.2.2.2.2.1 hTh.1) th_w3 hTh.2.1 hTh.2.2.1 hS (hlv.1.trans hF.2.2.1.symm) (by decide +kernel) (by decide +kernel) (by decide +kernel) (by decide +kernel) (by decide +kernel) (fun x hx => (hout x hx).elim) (by show 1 + 4 < R.frames; omega) (by show 0 + (13 * (1 + 2) + 43) ≤ R.locals; omega) (by omega) (by omega) hlocks (thr_x hF.2.2.2.2.2.2.2.1 hW hS hk) hS.2.2 (Nat.le_refl _) (Nat.le_refl _)
theorem thr_worthOf (hl : (mcL X).stackTraces = false) (hF : mFx X m_X8_worthOf h (mA X) p R s m args c 0 0) (hTh : mTh sa sb (mA X) s s.heap) (hlocks : meth.locks = false) (hout : ∀ x ∈ c.exceptionTable.toList, False) (hR : 6 ≤ R.frames ∧ 100 ≤ R.locals ∧ 1 ≤ R.cells ∧ 6 ≤ R.slots) (hk : KX μ) : lAt X m_X8_worthOf p e R s m args below meth c 0 0 (vx_MQ below Qc (mXC X KX) args s 1 6 (mA X)) (mA X) 21 ls [] μ := by
  intro H locs lsA hW hD hS h1 h2 hlv
  exact vy_throwSW (Y0 := nsR) (ix := 13) (bts := bNs) (cc := mCd m_X8_worthOf) (own := RX8) (cls := nsE) (text := tx2) (names := nsU) (ik := 134) (is := 303) (ic := 138) (sa := sb) (A := mA X) hF.1 hF.2.1 hl hF.2.2.2.1 th_fit.1.1 th_fit.1.2 dNs.1 dNs.2.1 dNs.2.2.1 dNs.2.2.2 th_fit.2 (hF.2.2.2.2.1 _ th_w4.1) (hF.2.2.2.2.1 _ th_w4.2) hTh.2.2.2.2 (th_hat hF.2.2.2.2.1 hTh.1) th_w3 hTh.2.1 hTh.2.2.1 hS (hlv.1.trans hF.2.2.1.symm) (by decide +kernel) (by decide +kernel) (by decide +kernel) (by decide +kernel) (by decide +kernel) (fun x hx => (hout x hx).elim) (by show 1 + 4 < R.frames; omega) (by show 0 + (13 * (1 + 2) + 43) ≤ R.locals; omega) (by omega) (by omega) hlocks (thr_x hF.2.2.2.2.2.2.2.1 hW hS hk) hS.2.2 (Nat.le_refl _) (Nat.le_refl _)
end MTi
theorem lk_isWork : Cond.methodLink (mY m_X8_work).cls 130 (mY m_X8_isWork) ∈ mTb := by decide +kernel
/-- the class's work: it returns, or throws -/
theorem cx_work {w t : Int32} (hl : (mcL X).stackTraces = false) (hsh : mSh[x]? = some (7, 0)) (hg : (0 ≤ w ∧ w < μ.1 (x + 4) 1) → ¬ t < 0 → t ≤ nI 5 → mAt X m_X8_work (h + 6) K 27 [(0, .inr (.inr (7, 0, x))), (1, .inl w), (2, .inl t)] [] μ) (hb : ¬ ((0 ≤ w ∧ w < μ.1 (x + 4) 1) ∧ ¬ t < 0 ∧ t ≤ nI 5) → KX μ) :
    vx_Met (mcL X) (mY m_X8_work) (mWs m_X8_work) (rmX (h + 7)) (va_Pc ([.inr (.inr (7, 0, x)), .inl w, .inl t].map (mTr X)) (mPt X sa sb μ)) (mQ X m_X8_work K) (mXC X KX) 1 6 (mA X) := by
  refine vx_start (h := h + 6) (M := m_X8_work) (a := [.inr (.inr (7, 0, x)), .inl w, .inl t]) cm_X8_work (Nat.le_of_ble_eq_true rfl) ?_ ?_
  · intro v hv
    simp only [List.mem_cons, List.not_mem_nil, or_false] at hv
    rcases hv with rfl | rfl | rfl
    · exact mOk_cell (by decide) (by decide) hsh
    · exact trivial
    · exact trivial
  · intro p e s m args below meth c hF hTh hlocks hout hR
    have hRm : 6 ≤ (rmX (h + 6 + 1)).frames ∧ 100 ≤ (rmX (h + 6 + 1)).locals ∧ 1 ≤ (rmX (h + 6 + 1)).cells ∧ 6 ≤ (rmX (h + 6 + 1)).slots := ⟨by show 6 ≤ h + 6 + 1 + 1; omega, by show 100 ≤ 64 * (h + 6 + 1 + 1); omega, Nat.le_refl _, Nat.le_refl _⟩
    have T : KX μ → lAt X m_X8_work p e (rmX (h + 6 + 1)) s m args below meth c 0 0 (vx_MQ below (mQ X m_X8_work K) (mXC X KX) args s 1 6 (mA X)) (mA X) 17 [(0, .inr (.inr (7, 0, x))), (1, .inl w), (2, .inl t)] [] μ := fun hk => thr_work hl hF hTh hlocks hout hRm hk
    show lAt X m_X8_work p e (rmX (h + 6 + 1)) s m args below meth c 0 0 (vx_MQ below (mQ X m_X8_work K) (mXC X KX) args s 1 6 (mA X)) (mA X) 0 [(0, .inr (.inr (7, 0, x))), (1, .inl w), (2, .inl t)] [] μ
    refine lc_aload_n hF (a := 0) (n := 0) (by decide +kernel) rfl rfl ?_
    refine lc_iload_n hF (a := 1) (n := 1) (by decide +kernel) rfl rfl ?_
    refine lc_invV hF (a := m_X8_isWork) (as := [.inl w]) (rest := []) (c0 := 1) (ci := 7) (n0 := 0) (i0 := x) (idx := 130) (by decide +kernel) cm_X8_isWork rfl lk_isWork (show (parseMethodDescriptor (mY m_X8_isWork).desc).map (fun d => d.parameters.length) = some 1 from by decide +kernel) rfl (by decide) (by decide +kernel) (Nat.zero_le _) (c_X8_isWork (h := h + 5) (K := fun r μ' => r = .inl (bI (0 ≤ w ∧ w < μ.1 (x + 4) 1)) ∧ μ' = μ) ⟨rfl, rfl⟩) (fun r μ' hk => ?_)
    obtain ⟨rfl, rfl⟩ := hk
    show lAt X m_X8_work p e (rmX (h + 6 + 1)) s m args below meth c 0 0 (vx_MQ below (mQ X m_X8_work K) (mXC X KX) args s 1 6 (mA X)) (mA X) 5 [(0, .inr (.inr (7, 0, x))), (1, .inl w), (2, .inl t)] [.inl (bI (0 ≤ w ∧ w < μ'.1 (x + 4) 1))] μ'
    refine lc_if_eq hF (a := 17) (off := 12) (by decide +kernel) (by decide) (fun z => T (hb (fun q => ?_))) (fun z => ?_)
    · rw [bI_0] at z
      exact z q.1
    · rw [bI_0] at z
      have z1 : 0 ≤ w ∧ w < μ'.1 (x + 4) 1 := Classical.not_not.mp z
      refine lc_iload_n hF (a := 2) (n := 2) (by decide +kernel) rfl rfl ?_
      refine lc_if_lt hF (a := 17) (off := 8) (by decide +kernel) (by decide) (fun z2 => T (hb (fun q => q.2.1 z2))) (fun z2 => ?_)
      refine lc_iload_n hF (a := 2) (n := 2) (by decide +kernel) rfl rfl ?_
      refine lc_iconst hF (n := 5) (by decide +kernel) ?_
      rw [show Int32.ofInt 5 = nI 5 from by decide]
      refine lc_icmp_le hF (a := 27) (off := 13) (by decide +kernel) (by decide) (fun z3 => ?_) (fun z3 => ?_)
      · exact lAt_of hF hR (hg z1 z2 z3)
      · exact T (hb (fun q => z3 q.2.2))
/-- the class's worthOf: it returns, or throws -/
theorem cx_worthOf {w t : Int32} (hl : (mcL X).stackTraces = false) (hsh : mSh[x]? = some (7, 0)) (hg : ¬ w < 0 → ¬ μ.1 x 15 ≤ w → ¬ t < 0 → t ≤ nI 1 → mAt X m_X8_worthOf (h + 6) K 32 [(0, .inr (.inr (7, 0, x))), (1, .inl w), (2, .inl t)] [] μ) (hb : ¬ (¬ w < 0 ∧ ¬ μ.1 x 15 ≤ w ∧ ¬ t < 0 ∧ t ≤ nI 1) → KX μ) :
    vx_Met (mcL X) (mY m_X8_worthOf) (mWs m_X8_worthOf) (rmX (h + 7)) (va_Pc ([.inr (.inr (7, 0, x)), .inl w, .inl t].map (mTr X)) (mPt X sa sb μ)) (mQ X m_X8_worthOf K) (mXC X KX) 1 6 (mA X) := by
  refine vx_start (h := h + 6) (M := m_X8_worthOf) (a := [.inr (.inr (7, 0, x)), .inl w, .inl t]) cm_X8_worthOf (Nat.le_of_ble_eq_true rfl) ?_ ?_
  · intro v hv
    simp only [List.mem_cons, List.not_mem_nil, or_false] at hv
    rcases hv with rfl | rfl | rfl
    · exact mOk_cell (by decide) (by decide) hsh
    · exact trivial
    · exact trivial
  · intro p e s m args below meth c hF hTh hlocks hout hR
    have hRm : 6 ≤ (rmX (h + 6 + 1)).frames ∧ 100 ≤ (rmX (h + 6 + 1)).locals ∧ 1 ≤ (rmX (h + 6 + 1)).cells ∧ 6 ≤ (rmX (h + 6 + 1)).slots := ⟨by show 6 ≤ h + 6 + 1 + 1; omega, by show 100 ≤ 64 * (h + 6 + 1 + 1); omega, Nat.le_refl _, Nat.le_refl _⟩
    have T : KX μ → lAt X m_X8_worthOf p e (rmX (h + 6 + 1)) s m args below meth c 0 0 (vx_MQ below (mQ X m_X8_worthOf K) (mXC X KX) args s 1 6 (mA X)) (mA X) 21 [(0, .inr (.inr (7, 0, x))), (1, .inl w), (2, .inl t)] [] μ := fun hk => thr_worthOf hl hF hTh hlocks hout hRm hk
    show lAt X m_X8_worthOf p e (rmX (h + 6 + 1)) s m args below meth c 0 0 (vx_MQ below (mQ X m_X8_worthOf K) (mXC X KX) args s 1 6 (mA X)) (mA X) 0 [(0, .inr (.inr (7, 0, x))), (1, .inl w), (2, .inl t)] [] μ
    refine lc_iload_n hF (a := 1) (n := 1) (by decide +kernel) rfl rfl ?_
    refine lc_if_lt hF (a := 21) (off := 20) (by decide +kernel) (by decide) (fun z => T (hb (fun q => q.1 z))) (fun z1 => ?_)
    refine lc_iload_n hF (a := 1) (n := 1) (by decide +kernel) rfl rfl ?_
    refine lc_aload_n hF (a := 0) (n := 0) (by decide +kernel) rfl rfl ?_
    refine lc_getf hF (a := 7) (b := 15) (k := 84) (r := (RX8, TX8, 18)) (t := (0, 0, 0, 0)) (n0 := 0) (i0 := x) (by decide +kernel) rfl rfl (by decide +kernel) (by decide) (by decide) (w := .inl (μ.1 x 15)) (fun _ => trivial) (fun _ => rfl) ?_
    refine lc_icmp_ge hF (a := 21) (off := 12) (by decide +kernel) (by decide) (fun z => T (hb (fun q => q.2.1 z))) (fun z2 => ?_)
    refine lc_iload_n hF (a := 2) (n := 2) (by decide +kernel) rfl rfl ?_
    refine lc_if_lt hF (a := 21) (off := 8) (by decide +kernel) (by decide) (fun z => T (hb (fun q => q.2.2.1 z))) (fun z3 => ?_)
    refine lc_iload_n hF (a := 2) (n := 2) (by decide +kernel) rfl rfl ?_
    refine lc_iconst hF (n := 1) (by decide +kernel) ?_
    rw [show Int32.ofInt 1 = nI 1 from by decide]
    refine lc_icmp_le hF (a := 32) (off := 14) (by decide +kernel) (by decide) (fun z4 => ?_) (fun z4 => ?_)
    · exact lAt_of hF hR (hg z1 z2 z3 z4)
    · exact T (hb (fun q => z4 q.2.2.2))
end MTh

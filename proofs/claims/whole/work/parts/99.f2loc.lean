/-! one machine: the rows of parts 06 to 09 where cells and slots are fixed -/
def lAt (X : mC) (M : Nat) (p : Program) (e : Env) (R : Room) (s : State) (m : MethodId) (args : Array Value) (below : List Frame) (meth : Method) (c : Code) (cells slots : Nat) (Q : State → Prop) (A : Nat → Prop) (pc : Nat) (ls : List (Nat × MV)) (st : List MV) (μ : Mem) : Prop :=
  ∀ (H : Heap) (locs : List Loc) (lsA : Array Slot), mWd X μ H → va_D A (mW X μ) → va_S A s.heap H locs → (∀ q ∈ ls, mOk q.2) → (∀ v ∈ st, mOk v) → lv_has lsA (mMx M) (mLs X ls) →
    W p (mcL X) e R s m args below meth c H locs cells slots Q (F0 m pc lsA (st.map (mTr X)))
section MLC
variable {X : mC} {M h : Nat} {q a b : Nat} {ls : List (Nat × MV)} {st : List MV} {μ : Mem} {p : Program} {e : Env} {R : Room} {s : State} {m : MethodId} {args : Array Value} {below : List Frame} {meth : Method} {c : Code} {cells slots : Nat} {Q : State → Prop} {A : Nat → Prop}
theorem lAt_of {K : MV → Mem → Prop} {pc : Nat} (hF : mFx X M h A p R s m args c cells slots) (hR : mRh X M K A p e R s m args below meth c cells slots Q) (k : mAt X M h K pc ls st μ) : lAt X M p e R s m args below meth c cells slots Q A pc ls st μ :=
  fun H locs lsA hW hD hS h1 h2 hl => k p e R s m args below meth c cells slots Q A H locs lsA hF hR hW hD hS h1 h2 hl
theorem lc_st {q2 : Nat} {st st2 : List MV} (hok : (∀ v ∈ st, mOk v) → (∀ q ∈ ls, mOk q.2) → ∀ v ∈ st2, mOk v)
    (hw : ∀ (H : Heap) (locs : List Loc) (lsA : Array Slot), mWd X μ H → va_S A s.heap H locs → (∀ v ∈ st, mOk v) → (∀ q ∈ ls, mOk q.2) → lv_has lsA (mMx M) (mLs X ls) → W p (mcL X) e R s m args below meth c H locs cells slots Q (F0 m q2 lsA (st2.map (mTr X))) → W p (mcL X) e R s m args below meth c H locs cells slots Q (F0 m q lsA (st.map (mTr X))))
    (k : lAt X M p e R s m args below meth c cells slots Q A q2 ls st2 μ) : lAt X M p e R s m args below meth c cells slots Q A q ls st μ := by
  intro H locs lsA hW hD hS h1 h2 hl
  exact hw H locs lsA hW hS h2 h1 hl (k H locs lsA hW hD hS h1 (hok h2 h1) hl)
theorem lc_iadd (hF : mFx X M h A p R s m args c cells slots) {x y : Int32} (hdg : decode (mCd M) q = .ok (.iadd, 1)) (k : lAt X M p e R s m args below meth c cells slots Q A (q + 1) ls (.inl (x + y) :: st) μ) : lAt X M p e R s m args below meth c cells slots Q A q ls (.inl y :: .inl x :: st) μ :=
  lc_st (fun h _ => ok_ci (ok_tail (ok_tail h))) (fun H locs lsA hW hS h2 h1 hl k => lv_iadd hF.1 hF.2.1 hdg k) k
theorem lc_isub (hF : mFx X M h A p R s m args c cells slots) {x y : Int32} (hdg : decode (mCd M) q = .ok (.isub, 1)) (k : lAt X M p e R s m args below meth c cells slots Q A (q + 1) ls (.inl (x - y) :: st) μ) : lAt X M p e R s m args below meth c cells slots Q A q ls (.inl y :: .inl x :: st) μ :=
  lc_st (fun h _ => ok_ci (ok_tail (ok_tail h))) (fun H locs lsA hW hS h2 h1 hl k => lv_isub hF.1 hF.2.1 hdg k) k
theorem lc_iand (hF : mFx X M h A p R s m args c cells slots) {x y : Int32} (hdg : decode (mCd M) q = .ok (.iand, 1)) (k : lAt X M p e R s m args below meth c cells slots Q A (q + 1) ls (.inl (x &&& y) :: st) μ) : lAt X M p e R s m args below meth c cells slots Q A q ls (.inl y :: .inl x :: st) μ :=
  lc_st (fun h _ => ok_ci (ok_tail (ok_tail h))) (fun H locs lsA hW hS h2 h1 hl k => lv_iand hF.1 hF.2.1 hdg k) k
theorem lc_lcmp (hF : mFx X M h A p R s m args c cells slots) {x y : Int64} (hdg : decode (mCd M) q = .ok (.lcmp, 1)) (k : lAt X M p e R s m args below meth c cells slots Q A (q + 1) ls (.inl (lg_cmp x y) :: st) μ) : lAt X M p e R s m args below meth c cells slots Q A q ls (.inr (.inl y) :: .inr (.inl x) :: st) μ :=
  lc_st (fun h _ => ok_ci (ok_tail (ok_tail h))) (fun H locs lsA hW hS h2 h1 hl k => W.lcmp hF.1 hF.2.1 hdg k) k
theorem lc_i2l (hF : mFx X M h A p R s m args c cells slots) {x : Int32} (hdg : decode (mCd M) q = .ok (.i2l, 1)) (k : lAt X M p e R s m args below meth c cells slots Q A (q + 1) ls (.inr (.inl x.toInt64) :: st) μ) : lAt X M p e R s m args below meth c cells slots Q A q ls (.inl x :: st) μ :=
  lc_st (fun h _ => ok_cl (ok_tail h)) (fun H locs lsA hW hS h2 h1 hl k => lv_i2l hF.1 hF.2.1 hdg rfl k) k
theorem lc_iconst (hF : mFx X M h A p R s m args c cells slots) {n : Int} (hdg : decode (mCd M) q = .ok (.iconst n, 1)) (k : lAt X M p e R s m args below meth c cells slots Q A (q + 1) ls (.inl (Int32.ofInt n) :: st) μ) : lAt X M p e R s m args below meth c cells slots Q A q ls st μ :=
  lc_st (fun h _ => ok_ci h) (fun H locs lsA hW hS h2 h1 hl k => lv_iconst hF.1 hF.2.1 hdg rfl k) k
theorem lc_bipush (hF : mFx X M h A p R s m args c cells slots) {n : Int} (hdg : decode (mCd M) q = .ok (.bipush n, 2)) (k : lAt X M p e R s m args below meth c cells slots Q A (q + 2) ls (.inl ((Int8.ofInt n).toInt32) :: st) μ) : lAt X M p e R s m args below meth c cells slots Q A q ls st μ :=
  lc_st (fun h _ => ok_ci h) (fun H locs lsA hW hS h2 h1 hl k => lv_bipush hF.1 hF.2.1 hdg rfl k) k
theorem lc_lconst (hF : mFx X M h A p R s m args c cells slots) {n : Fin 2} (hdg : decode (mCd M) q = .ok (.lconst n, 1)) (k : lAt X M p e R s m args below meth c cells slots Q A (q + 1) ls (.inr (.inl (Int64.ofNat (n : Nat))) :: st) μ) : lAt X M p e R s m args below meth c cells slots Q A q ls st μ :=
  lc_st (fun h _ => ok_cl h) (fun H locs lsA hW hS h2 h1 hl k => lv_lconst hF.1 hF.2.1 hdg rfl k) k
theorem lc_sipush (hF : mFx X M h A p R s m args c cells slots) {n : Int} (hdg : decode (mCd M) q = .ok (.sipush n, 3)) (k : lAt X M p e R s m args below meth c cells slots Q A (q + 3) ls (.inl ((Int16.ofInt n).toInt32) :: st) μ) : lAt X M p e R s m args below meth c cells slots Q A q ls st μ :=
  lc_st (fun h _ => ok_ci h) (fun H locs lsA hW hS h2 h1 hl k => lv_sipush hF.1 hF.2.1 hdg rfl k) k
theorem lc_iload (hF : mFx X M h A p R s m args c cells slots) {x : Int32} (hdg : decode (mCd M) q = .ok (.iload a, 2)) (hg : lget ls a = some (.inl x)) (k : lAt X M p e R s m args below meth c cells slots Q A (q + 2) ls (.inl x :: st) μ) : lAt X M p e R s m args below meth c cells slots Q A q ls st μ :=
  lc_st (fun h hl => ok_cons (ok_get hl hg) h) (fun H locs lsA hW hS h2 h1 hl k => lv_iload hF.1 hF.2.1 hdg (mLs_at hl hg) k) k
theorem lc_iload_n (hF : mFx X M h A p R s m args c cells slots) {x : Int32} {n : Fin 4} (hdg : decode (mCd M) q = .ok (.iload_n n, 1)) (hn : (n : Nat) = a) (hg : lget ls a = some (.inl x)) (k : lAt X M p e R s m args below meth c cells slots Q A (q + 1) ls (.inl x :: st) μ) : lAt X M p e R s m args below meth c cells slots Q A q ls st μ :=
  lc_st (fun h hl => ok_cons (ok_get hl hg) h) (fun H locs lsA hW hS h2 h1 hl k => lv_iload_n hF.1 hF.2.1 hdg hn (mLs_at hl hg) k) k
theorem lc_lload (hF : mFx X M h A p R s m args c cells slots) {x : Int64} (hdg : decode (mCd M) q = .ok (.lload a, 2)) (hg : lget ls a = some (.inr (.inl x))) (k : lAt X M p e R s m args below meth c cells slots Q A (q + 2) ls (.inr (.inl x) :: st) μ) : lAt X M p e R s m args below meth c cells slots Q A q ls st μ :=
  lc_st (fun h hl => ok_cons (ok_get hl hg) h) (fun H locs lsA hW hS h2 h1 hl k => lv_lload hF.1 hF.2.1 hdg (mLs_at hl hg) k) k
theorem lc_lload_n (hF : mFx X M h A p R s m args c cells slots) {x : Int64} {n : Fin 4} (hdg : decode (mCd M) q = .ok (.lload_n n, 1)) (hn : (n : Nat) = a) (hg : lget ls a = some (.inr (.inl x))) (k : lAt X M p e R s m args below meth c cells slots Q A (q + 1) ls (.inr (.inl x) :: st) μ) : lAt X M p e R s m args below meth c cells slots Q A q ls st μ :=
  lc_st (fun h hl => ok_cons (ok_get hl hg) h) (fun H locs lsA hW hS h2 h1 hl k => lv_lload_n hF.1 hF.2.1 hdg hn (mLs_at hl hg) k) k
theorem lc_aload (hF : mFx X M h A p R s m args c cells slots) {r : Nat × Nat × Nat} (hdg : decode (mCd M) q = .ok (.aload a, 2)) (hg : lget ls a = some (.inr (.inr r))) (k : lAt X M p e R s m args below meth c cells slots Q A (q + 2) ls (.inr (.inr r) :: st) μ) : lAt X M p e R s m args below meth c cells slots Q A q ls st μ :=
  lc_st (fun h hl => ok_cons (ok_get hl hg) h) (fun H locs lsA hW hS h2 h1 hl k => by
    have h3 := mLs_at hl hg
    obtain ⟨z, hz⟩ := mTr_ref X r
    rw [hz] at h3
    refine lv_aload hF.1 hF.2.1 hdg h3 ?_
    rw [List.map_cons, hz] at k
    exact k) k
theorem lc_aload_n (hF : mFx X M h A p R s m args c cells slots) {r : Nat × Nat × Nat} {n : Fin 4} (hdg : decode (mCd M) q = .ok (.aload_n n, 1)) (hn : (n : Nat) = a) (hg : lget ls a = some (.inr (.inr r))) (k : lAt X M p e R s m args below meth c cells slots Q A (q + 1) ls (.inr (.inr r) :: st) μ) : lAt X M p e R s m args below meth c cells slots Q A q ls st μ :=
  lc_st (fun h hl => ok_cons (ok_get hl hg) h) (fun H locs lsA hW hS h2 h1 hl k => by
    have h3 := mLs_at hl hg
    obtain ⟨z, hz⟩ := mTr_ref X r
    rw [hz] at h3
    refine lv_aload_n hF.1 hF.2.1 hdg hn h3 ?_
    rw [List.map_cons, hz] at k
    exact k) k
theorem lc_istore (hF : mFx X M h A p R s m args c cells slots) {x : Int32} (hdg : decode (mCd M) q = .ok (.istore a, 2)) (hn : a < mMx M) (k : lAt X M p e R s m args below meth c cells slots Q A (q + 2) ((a, .inl x) :: ldel ls a) st μ) : lAt X M p e R s m args below meth c cells slots Q A q ls (.inl x :: st) μ := by
  intro H locs lsA hW hD hS h1 h2 hl
  refine lv_istore hF.1 hF.2.1 hdg hl hn (by rw [ldel_map]) (fun ls' hl' => ?_)
  exact k H locs ls' hW hD hS (ok_ciL (ok_del h1)) (ok_tail h2) hl'
theorem lc_istore_n (hF : mFx X M h A p R s m args c cells slots) {x : Int32} {n : Fin 4} (hdg : decode (mCd M) q = .ok (.istore_n n, 1)) (hi : (n : Nat) = a) (hn : a < mMx M) (k : lAt X M p e R s m args below meth c cells slots Q A (q + 1) ((a, .inl x) :: ldel ls a) st μ) : lAt X M p e R s m args below meth c cells slots Q A q ls (.inl x :: st) μ := by
  intro H locs lsA hW hD hS h1 h2 hl
  refine lv_istore_n hF.1 hF.2.1 hdg hi hl hn (by rw [ldel_map]) (fun ls' hl' => ?_)
  exact k H locs ls' hW hD hS (ok_ciL (ok_del h1)) (ok_tail h2) hl'
theorem lc_lstore (hF : mFx X M h A p R s m args c cells slots) {x : Int64} (hdg : decode (mCd M) q = .ok (.lstore a, 2)) (hn : a + 1 < mMx M) (k : lAt X M p e R s m args below meth c cells slots Q A (q + 2) ((a, .inr (.inl x)) :: ldel2 ls a) st μ) : lAt X M p e R s m args below meth c cells slots Q A q ls (.inr (.inl x) :: st) μ := by
  intro H locs lsA hW hD hS h1 h2 hl
  refine lv_lstore hF.1 hF.2.1 hdg hl hn (by rw [ldel2_map]) (fun ls' hl' => ?_)
  exact k H locs ls' hW hD hS (ok_clL (ok_del2 h1)) (ok_tail h2) hl'
theorem lc_lstore_n (hF : mFx X M h A p R s m args c cells slots) {x : Int64} {n : Fin 4} (hdg : decode (mCd M) q = .ok (.lstore_n n, 1)) (hi : (n : Nat) = a) (hn : a + 1 < mMx M) (k : lAt X M p e R s m args below meth c cells slots Q A (q + 1) ((a, .inr (.inl x)) :: ldel2 ls a) st μ) : lAt X M p e R s m args below meth c cells slots Q A q ls (.inr (.inl x) :: st) μ := by
  intro H locs lsA hW hD hS h1 h2 hl
  refine lv_lstore_n hF.1 hF.2.1 hdg hi hl hn (by rw [ldel2_map]) (fun ls' hl' => ?_)
  exact k H locs ls' hW hD hS (ok_clL (ok_del2 h1)) (ok_tail h2) hl'
theorem lc_astore (hF : mFx X M h A p R s m args c cells slots) {r : Nat × Nat × Nat} (hdg : decode (mCd M) q = .ok (.astore a, 2)) (hn : a < mMx M) (k : lAt X M p e R s m args below meth c cells slots Q A (q + 2) ((a, .inr (.inr r)) :: ldel ls a) st μ) : lAt X M p e R s m args below meth c cells slots Q A q ls (.inr (.inr r) :: st) μ := by
  intro H locs lsA hW hD hS h1 h2 hl
  obtain ⟨z, hz⟩ := mTr_ref X r
  rw [List.map_cons, hz]
  refine lv_astore hF.1 hF.2.1 hdg hl hn (by rw [ldel_map, ← hz]) (fun ls' hl' => ?_)
  exact k H locs ls' hW hD hS (ok_consL (h2 _ List.mem_cons_self) (ok_del h1)) (ok_tail h2) hl'
theorem lc_astore_n (hF : mFx X M h A p R s m args c cells slots) {r : Nat × Nat × Nat} {n : Fin 4} (hdg : decode (mCd M) q = .ok (.astore_n n, 1)) (hi : (n : Nat) = a) (hn : a < mMx M) (k : lAt X M p e R s m args below meth c cells slots Q A (q + 1) ((a, .inr (.inr r)) :: ldel ls a) st μ) : lAt X M p e R s m args below meth c cells slots Q A q ls (.inr (.inr r) :: st) μ := by
  intro H locs lsA hW hD hS h1 h2 hl
  obtain ⟨z, hz⟩ := mTr_ref X r
  rw [List.map_cons, hz]
  refine lv_astore_n hF.1 hF.2.1 hdg hi hl hn (by rw [ldel_map, ← hz]) (fun ls' hl' => ?_)
  exact k H locs ls' hW hD hS (ok_consL (h2 _ List.mem_cons_self) (ok_del h1)) (ok_tail h2) hl'
theorem lc_iinc (hF : mFx X M h A p R s m args c cells slots) {x d : Int32} {n : Int} (hdg : decode (mCd M) q = .ok (.iinc a n, 3)) (hd : d = Int32.ofInt n) (hg : lget ls a = some (.inl x)) (hn : a < mMx M) (k : lAt X M p e R s m args below meth c cells slots Q A (q + 3) ((a, .inl (x + d)) :: ldel ls a) st μ) : lAt X M p e R s m args below meth c cells slots Q A q ls st μ := by
  intro H locs lsA hW hD hS h1 h2 hl
  subst hd
  obtain ⟨z, hz⟩ := lget_idx X hg
  refine lv_iinc hF.1 hF.2.1 hdg hl hz rfl hn (by rw [ldel_map]) (fun ls' hl' => ?_)
  exact k H locs ls' hW hD hS (ok_ciL (ok_del h1)) h2 hl'
theorem lc_if_eq (hF : mFx X M h A p R s m args c cells slots) {x : Int32} {off : Int} (hdg : decode (mCd M) q = .ok (.ifCond .eq off, 3)) (ht : (q : Int) + off = (a : Int)) (kt : x = 0 → lAt X M p e R s m args below meth c cells slots Q A a ls st μ) (kf : ¬ x = 0 → lAt X M p e R s m args below meth c cells slots Q A (q + 3) ls st μ) : lAt X M p e R s m args below meth c cells slots Q A q ls (.inl x :: st) μ := by
  intro H locs lsA hW hD hS h1 h2 hl
  exact lv_if_eq hF.1 hF.2.1 hdg ht (fun z => kt z H locs lsA hW hD hS h1 (ok_tail h2) hl) (fun z => kf z H locs lsA hW hD hS h1 (ok_tail h2) hl)
theorem lc_if_ne (hF : mFx X M h A p R s m args c cells slots) {x : Int32} {off : Int} (hdg : decode (mCd M) q = .ok (.ifCond .ne off, 3)) (ht : (q : Int) + off = (a : Int)) (kt : ¬ x = 0 → lAt X M p e R s m args below meth c cells slots Q A a ls st μ) (kf : x = 0 → lAt X M p e R s m args below meth c cells slots Q A (q + 3) ls st μ) : lAt X M p e R s m args below meth c cells slots Q A q ls (.inl x :: st) μ := by
  intro H locs lsA hW hD hS h1 h2 hl
  exact lv_if_ne hF.1 hF.2.1 hdg ht (fun z => kt z H locs lsA hW hD hS h1 (ok_tail h2) hl) (fun z => kf z H locs lsA hW hD hS h1 (ok_tail h2) hl)
theorem lc_if_lt (hF : mFx X M h A p R s m args c cells slots) {x : Int32} {off : Int} (hdg : decode (mCd M) q = .ok (.ifCond .lt off, 3)) (ht : (q : Int) + off = (a : Int)) (kt : x < 0 → lAt X M p e R s m args below meth c cells slots Q A a ls st μ) (kf : ¬ x < 0 → lAt X M p e R s m args below meth c cells slots Q A (q + 3) ls st μ) : lAt X M p e R s m args below meth c cells slots Q A q ls (.inl x :: st) μ := by
  intro H locs lsA hW hD hS h1 h2 hl
  exact lv_if_lt hF.1 hF.2.1 hdg ht (fun z => kt z H locs lsA hW hD hS h1 (ok_tail h2) hl) (fun z => kf z H locs lsA hW hD hS h1 (ok_tail h2) hl)
theorem lc_if_ge (hF : mFx X M h A p R s m args c cells slots) {x : Int32} {off : Int} (hdg : decode (mCd M) q = .ok (.ifCond .ge off, 3)) (ht : (q : Int) + off = (a : Int)) (kt : 0 ≤ x → lAt X M p e R s m args below meth c cells slots Q A a ls st μ) (kf : ¬ 0 ≤ x → lAt X M p e R s m args below meth c cells slots Q A (q + 3) ls st μ) : lAt X M p e R s m args below meth c cells slots Q A q ls (.inl x :: st) μ := by
  intro H locs lsA hW hD hS h1 h2 hl
  exact lv_if_ge hF.1 hF.2.1 hdg ht (fun z => kt z H locs lsA hW hD hS h1 (ok_tail h2) hl) (fun z => kf z H locs lsA hW hD hS h1 (ok_tail h2) hl)
theorem lc_if_gt (hF : mFx X M h A p R s m args c cells slots) {x : Int32} {off : Int} (hdg : decode (mCd M) q = .ok (.ifCond .gt off, 3)) (ht : (q : Int) + off = (a : Int)) (kt : 0 < x → lAt X M p e R s m args below meth c cells slots Q A a ls st μ) (kf : ¬ 0 < x → lAt X M p e R s m args below meth c cells slots Q A (q + 3) ls st μ) : lAt X M p e R s m args below meth c cells slots Q A q ls (.inl x :: st) μ := by
  intro H locs lsA hW hD hS h1 h2 hl
  exact lv_if_gt hF.1 hF.2.1 hdg ht (fun z => kt z H locs lsA hW hD hS h1 (ok_tail h2) hl) (fun z => kf z H locs lsA hW hD hS h1 (ok_tail h2) hl)
theorem lc_if_le (hF : mFx X M h A p R s m args c cells slots) {x : Int32} {off : Int} (hdg : decode (mCd M) q = .ok (.ifCond .le off, 3)) (ht : (q : Int) + off = (a : Int)) (kt : x ≤ 0 → lAt X M p e R s m args below meth c cells slots Q A a ls st μ) (kf : ¬ x ≤ 0 → lAt X M p e R s m args below meth c cells slots Q A (q + 3) ls st μ) : lAt X M p e R s m args below meth c cells slots Q A q ls (.inl x :: st) μ := by
  intro H locs lsA hW hD hS h1 h2 hl
  exact lv_if_le hF.1 hF.2.1 hdg ht (fun z => kt z H locs lsA hW hD hS h1 (ok_tail h2) hl) (fun z => kf z H locs lsA hW hD hS h1 (ok_tail h2) hl)
theorem lc_icmp_eq (hF : mFx X M h A p R s m args c cells slots) {x y : Int32} {off : Int} (hdg : decode (mCd M) q = .ok (.if_icmp .eq off, 3)) (ht : (q : Int) + off = (a : Int)) (kt : x = y → lAt X M p e R s m args below meth c cells slots Q A a ls st μ) (kf : ¬ x = y → lAt X M p e R s m args below meth c cells slots Q A (q + 3) ls st μ) : lAt X M p e R s m args below meth c cells slots Q A q ls (.inl y :: .inl x :: st) μ := by
  intro H locs lsA hW hD hS h1 h2 hl
  exact lv_icmp_eq hF.1 hF.2.1 hdg ht (fun z => kt z H locs lsA hW hD hS h1 (ok_tail (ok_tail h2)) hl) (fun z => kf z H locs lsA hW hD hS h1 (ok_tail (ok_tail h2)) hl)
theorem lc_icmp_ne (hF : mFx X M h A p R s m args c cells slots) {x y : Int32} {off : Int} (hdg : decode (mCd M) q = .ok (.if_icmp .ne off, 3)) (ht : (q : Int) + off = (a : Int)) (kt : ¬ x = y → lAt X M p e R s m args below meth c cells slots Q A a ls st μ) (kf : x = y → lAt X M p e R s m args below meth c cells slots Q A (q + 3) ls st μ) : lAt X M p e R s m args below meth c cells slots Q A q ls (.inl y :: .inl x :: st) μ := by
  intro H locs lsA hW hD hS h1 h2 hl
  exact lv_icmp_ne hF.1 hF.2.1 hdg ht (fun z => kt z H locs lsA hW hD hS h1 (ok_tail (ok_tail h2)) hl) (fun z => kf z H locs lsA hW hD hS h1 (ok_tail (ok_tail h2)) hl)
theorem lc_icmp_lt (hF : mFx X M h A p R s m args c cells slots) {x y : Int32} {off : Int} (hdg : decode (mCd M) q = .ok (.if_icmp .lt off, 3)) (ht : (q : Int) + off = (a : Int)) (kt : x < y → lAt X M p e R s m args below meth c cells slots Q A a ls st μ) (kf : ¬ x < y → lAt X M p e R s m args below meth c cells slots Q A (q + 3) ls st μ) : lAt X M p e R s m args below meth c cells slots Q A q ls (.inl y :: .inl x :: st) μ := by
  intro H locs lsA hW hD hS h1 h2 hl
  exact lv_icmp_lt hF.1 hF.2.1 hdg ht (fun z => kt z H locs lsA hW hD hS h1 (ok_tail (ok_tail h2)) hl) (fun z => kf z H locs lsA hW hD hS h1 (ok_tail (ok_tail h2)) hl)
theorem lc_icmp_ge (hF : mFx X M h A p R s m args c cells slots) {x y : Int32} {off : Int} (hdg : decode (mCd M) q = .ok (.if_icmp .ge off, 3)) (ht : (q : Int) + off = (a : Int)) (kt : y ≤ x → lAt X M p e R s m args below meth c cells slots Q A a ls st μ) (kf : ¬ y ≤ x → lAt X M p e R s m args below meth c cells slots Q A (q + 3) ls st μ) : lAt X M p e R s m args below meth c cells slots Q A q ls (.inl y :: .inl x :: st) μ := by
  intro H locs lsA hW hD hS h1 h2 hl
  exact lv_icmp_ge hF.1 hF.2.1 hdg ht (fun z => kt z H locs lsA hW hD hS h1 (ok_tail (ok_tail h2)) hl) (fun z => kf z H locs lsA hW hD hS h1 (ok_tail (ok_tail h2)) hl)
theorem lc_icmp_gt (hF : mFx X M h A p R s m args c cells slots) {x y : Int32} {off : Int} (hdg : decode (mCd M) q = .ok (.if_icmp .gt off, 3)) (ht : (q : Int) + off = (a : Int)) (kt : y < x → lAt X M p e R s m args below meth c cells slots Q A a ls st μ) (kf : ¬ y < x → lAt X M p e R s m args below meth c cells slots Q A (q + 3) ls st μ) : lAt X M p e R s m args below meth c cells slots Q A q ls (.inl y :: .inl x :: st) μ := by
  intro H locs lsA hW hD hS h1 h2 hl
  exact lv_icmp_gt hF.1 hF.2.1 hdg ht (fun z => kt z H locs lsA hW hD hS h1 (ok_tail (ok_tail h2)) hl) (fun z => kf z H locs lsA hW hD hS h1 (ok_tail (ok_tail h2)) hl)
theorem lc_icmp_le (hF : mFx X M h A p R s m args c cells slots) {x y : Int32} {off : Int} (hdg : decode (mCd M) q = .ok (.if_icmp .le off, 3)) (ht : (q : Int) + off = (a : Int)) (kt : x ≤ y → lAt X M p e R s m args below meth c cells slots Q A a ls st μ) (kf : ¬ x ≤ y → lAt X M p e R s m args below meth c cells slots Q A (q + 3) ls st μ) : lAt X M p e R s m args below meth c cells slots Q A q ls (.inl y :: .inl x :: st) μ := by
  intro H locs lsA hW hD hS h1 h2 hl
  exact lv_icmp_le hF.1 hF.2.1 hdg ht (fun z => kt z H locs lsA hW hD hS h1 (ok_tail (ok_tail h2)) hl) (fun z => kf z H locs lsA hW hD hS h1 (ok_tail (ok_tail h2)) hl)
theorem lc_goto (hF : mFx X M h A p R s m args c cells slots) {off : Int} (hdg : decode (mCd M) q = .ok (.goto off, 3)) (ht : (q : Int) + off = (a : Int)) (k : lAt X M p e R s m args below meth c cells slots Q A a ls st μ) : lAt X M p e R s m args below meth c cells slots Q A q ls st μ := by
  intro H locs lsA hW hD hS h1 h2 hl
  exact lv_goto hF.1 hF.2.1 hdg ht (k H locs lsA hW hD hS h1 h2 hl)
theorem lc_getf (hF : mFx X M h A p R s m args c cells slots) {k : Nat} {r : vw_C} {t : Nat × Nat × Nat × Nat} {n0 i0 : Nat} (hdg : decode (mCd M) q = .ok (.getfield k, 3)) (hr : vwCl[a]? = some r) (ht : (mF a)[b]? = some t) (hlink : Cond.fieldLink (mY M).cls k (r.2.1 b).1 (r.2.1 b).2.1 (r.2.1 b).2.2.1 ∈ mTb) (hb : b < r.2.2) (ha : a < 16)
    {w : MV} (hw : mSh[i0]? = some (a, n0) → mOk w) (htr : mSh[i0]? = some (a, n0) → mTr X w = mFv X μ i0 b t) (kk : lAt X M p e R s m args below meth c cells slots Q A (q + 3) ls (w :: st) μ) : lAt X M p e R s m args below meth c cells slots Q A q ls (.inr (.inr (a, n0, i0)) :: st) μ :=
  lc_st (fun h _ => ok_cons (hw (mTr_cell (X := X) (h _ List.mem_cons_self) (by omega) (by omega)).1) (ok_tail h)) (fun H locs lsA hW hS h2 h1 hl k => by
    obtain ⟨hs, he⟩ := mTr_cell (X := X) (h2 _ List.mem_cons_self) (by omega) (by omega)
    rw [List.map_cons, he]
    obtain ⟨C, T, N⟩ := r
    have hg := mW_get X μ hs
    rw [mCell_obj X μ i0 ha] at hg
    refine va_get hF.1 hF.2.1 hF.2.2.2.2.1 (vwCl_ok a _ hr).1 hF.2.2.2.1 hF.2.2.2.2.2.2.2.1 hW i0 hg hr b hb (hF.2.2.2.2.1 _ hlink) (fun x hx => hx) (mObj_at X μ i0 ht) hdg ?_
    rw [List.map_cons, htr hs] at k
    exact k) kk
theorem lc_iald (hF : mFx X M h A p R s m args c cells slots) {n0 i0 j : Nat} (hdg : decode (mCd M) q = .ok (.iaload, 1)) (hj : j < n0) (kk : lAt X M p e R s m args below meth c cells slots Q A (q + 1) ls (.inl (μ.1 i0 j) :: st) μ) : lAt X M p e R s m args below meth c cells slots Q A q ls (.inl (nI j) :: .inr (.inr (16, n0, i0)) :: st) μ :=
  lc_st (fun h _ => ok_ci (ok_tail (ok_tail h))) (fun H locs lsA hW hS h2 h1 hl k => by
    obtain ⟨hs, he⟩ := mTr_cell (X := X) (h2 _ (List.mem_cons_of_mem _ List.mem_cons_self)) (by decide) (by decide)
    rw [List.map_cons, List.map_cons, he]
    obtain ⟨c1, c2⟩ := nI_cl hj (mSh_lt hs)
    refine va_iald hF.1 hF.2.1 hF.2.2.2.2.2.2.2.1 hW i0 0 (mW_get X μ hs) rfl c1 hdg ?_
    rw [c2]
    exact k) kk
theorem lc_lald (hF : mFx X M h A p R s m args c cells slots) {n0 i0 j : Nat} (hdg : decode (mCd M) q = .ok (.laload, 1)) (hj : j < n0) (kk : lAt X M p e R s m args below meth c cells slots Q A (q + 1) ls (.inr (.inl (μ.2 i0 j)) :: st) μ) : lAt X M p e R s m args below meth c cells slots Q A q ls (.inl (nI j) :: .inr (.inr (17, n0, i0)) :: st) μ :=
  lc_st (fun h _ => ok_cl (ok_tail (ok_tail h))) (fun H locs lsA hW hS h2 h1 hl k => by
    obtain ⟨hs, he⟩ := mTr_cell (X := X) (h2 _ (List.mem_cons_of_mem _ List.mem_cons_self)) (by decide) (by decide)
    rw [List.map_cons, List.map_cons, he]
    obtain ⟨c1, c2⟩ := nI_cl hj (mSh_lt hs)
    refine va_lald hF.1 hF.2.1 hF.2.2.2.2.2.2.2.1 hW i0 1 (mW_get X μ hs) rfl c1 hdg ?_
    rw [c2]
    exact k) kk
theorem lc_last (hF : mFx X M h A p R s m args c cells slots) {n0 i0 j : Nat} {y : Int64} (hdg : decode (mCd M) q = .ok (.lastore, 1)) (hj : j < n0) (kk : lAt X M p e R s m args below meth c cells slots Q A (q + 1) ls st (upL μ i0 j y)) : lAt X M p e R s m args below meth c cells slots Q A q ls (.inr (.inl y) :: .inl (nI j) :: .inr (.inr (17, n0, i0)) :: st) μ := by
  intro H locs lsA hW hD hS h1 h2 hl
  obtain ⟨hs, he⟩ := mTr_cell (X := X) (h2 _ (List.mem_cons_of_mem _ (List.mem_cons_of_mem _ List.mem_cons_self))) (by decide) (by decide)
  rw [List.map_cons, List.map_cons, List.map_cons, he]
  obtain ⟨c1, c2⟩ := nI_cl hj (mSh_lt hs)
  refine va_last hF.1 hF.2.1 hF.2.2.2.2.2.2.2.1 hW hD hS i0 1 (mW_get X μ hs) rfl c1 hdg (fun H1 locs1 hP1 hD1 hS1 => ?_)
  rw [c2, mW_set X (μ := μ) (μ' := upL μ i0 j y) hs (fun _ _ => rfl) (fun j' hj' => up_off j' hj') (by show _ = mCell X (upL μ i0 j y) i0 (17, n0); unfold mCell upL; simp [up_at])] at hP1 hD1
  exact kk H1 locs1 lsA hP1 hD1 hS1 h1 (ok_tail (ok_tail (ok_tail h2))) hl
theorem lc_xald (hF : mFx X M h A p R s m args c cells slots) {j : Nat} (hdg : decode (mCd M) q = .ok (.iaload, 1)) (hj : j < mcN X) (hj2 : j < 2 ^ 31) {i0 n0 : Nat} (kk : lAt X M p e R s m args below meth c cells slots Q A (q + 1) ls (.inl (mcX X j) :: st) μ) : lAt X M p e R s m args below meth c cells slots Q A q ls (.inl (nI j) :: .inr (.inr (21, n0, i0)) :: st) μ :=
  lc_st (fun h _ => ok_ci (ok_tail (ok_tail h))) (fun H locs lsA hW hS h2 h1 hl k => by
    have c2 : (nI j).toNatClampNeg = j := nI_clamp hj2
    have c1 : vp_in (nI j) (mcN X) := by
      intro hh
      rcases hh with hh | hh
      · exact nI_pos hj2 hh
      · rw [c2] at hh; omega
    obtain ⟨-, -, g3, g4, g5⟩ := hF.2.2.2.2.2.2.1
    refine va_sld hF.1 hF.2.1 g3 g4 g5 hS c1 hdg ?_
    rw [c2]
    exact k) kk
theorem lc_xlen (hF : mFx X M h A p R s m args c cells slots) {n0 i0 : Nat} (hdg : decode (mCd M) q = .ok (.arraylength, 1)) (kk : lAt X M p e R s m args below meth c cells slots Q A (q + 1) ls (.inl (nI (mcN X)) :: st) μ) : lAt X M p e R s m args below meth c cells slots Q A q ls (.inr (.inr (21, n0, i0)) :: st) μ :=
  lc_st (fun h _ => ok_ci (ok_tail h)) (fun H locs lsA hW hS h2 h1 hl k => by
    obtain ⟨-, -, g3, g4, g5⟩ := hF.2.2.2.2.2.2.1
    exact va_slen hF.1 hF.2.1 g3 g4 g5 hS hdg k) kk
theorem lc_ret (hF : mFx X M h A p R s m args c cells slots) {M2 : Nat} {rest : List MV} {ret : Option FieldType} (hret : mRt M2 = ret) {K2 : MV → Mem → Prop} {c0 : Nat} (hc0 : c0 = 0 ↔ mRt M2 = none)
    (kk : ∀ r μ', K2 r μ' → lAt X M p e R s m args below meth c cells slots Q A (q + 3) ls (if c0 = 0 then rest else r :: rest) μ')
    {H : Heap} {locs : List Loc} {lsA : Array Slot} {st0 : List Value} {av : Array Value}
    (hD : va_D A (mW X μ)) (hS : va_S A s.heap H locs) (h1 : ∀ q ∈ ls, mOk q.2) (h2 : ∀ v ∈ rest, mOk v) (hl : lv_has lsA (mMx M) (mLs X ls))
    (run : va_Run p (mcL X) e R s m args below meth c H locs cells slots 0 0 (F0 m q lsA st0) (rest.map (mTr X)) (mQ X M2 K2 av) (mA X)) : W p (mcL X) e R s m args below meth c H locs cells slots Q (F0 m q lsA st0) := by
  have hA := hF.2.2.2.2.2.2.2.2
  unfold mQ at run
  rw [hret] at run hc0
  split at run
  · refine va_callv run hS (fun q _ z => hA q z) hA (fun u t H1 locs1 ht hvm hw hB hz1 hk1 hS1 => ?_)
    have k2 := kk _ u hw
    rw [if_pos (hc0.mpr rfl)] at k2
    obtain ⟨b1, b2⟩ := hB
    rw [ht] at b1
    exact k2 H1 locs1 lsA b1 (mD_any X hD u) hS1 h1 h2 hl
  · refine va_calll run hS (fun q _ z => hA q z) hA (fun r u t H1 locs1 ht hvm hw hB hz1 hk1 hS1 => ?_)
    have k2 := kk _ u hw
    rw [if_neg (fun z => by have := hc0.mp z; cases this)] at k2
    obtain ⟨b1, b2⟩ := hB
    rw [ht] at b1
    exact k2 H1 locs1 lsA b1 (mD_any X hD u) hS1 h1 (ok_cl h2) hl
  · refine va_calli run hS (fun q _ z => hA q z) hA (fun r u t H1 locs1 ht hvm hw hB hz1 hk1 hS1 => ?_)
    have k2 := kk _ u hw
    rw [if_neg (fun z => by have := hc0.mp z; cases this)] at k2
    obtain ⟨b1, b2⟩ := hB
    rw [ht] at b1
    exact k2 H1 locs1 lsA b1 (mD_any X hD u) hS1 h1 (ok_ci h2) hl
theorem lc_invV (hF : mFx X M h A p R s m args c cells slots) {idx : Nat} {as rest : List MV} {c0 ci n0 i0 : Nat} (hdg : decode (mCd M) q = .ok (.invokevirtual idx, 3)) (hm : mChkM a = true) (hs : mSc a = false) (hlink : Cond.methodLink (mY M).cls idx (mY a) ∈ mTb) (hpar : (parseMethodDescriptor (mY a).desc).map (fun d => d.parameters.length) = some as.length) (hci : (vwCl[ci]?).map (fun r => r.1) = some (mY a).cls) (hc16 : ci < 16) (hc0 : c0 = 0 ↔ mRt a = none) (hcat : mCat rest ≤ 8)
    {K2 : MV → Mem → Prop} (hmet : mMet X h a (.inr (.inr (ci, n0, i0)) :: as) μ K2) (kk : ∀ r μ', K2 r μ' → lAt X M p e R s m args below meth c cells slots Q A (q + 3) ls (if c0 = 0 then rest else r :: rest) μ') : lAt X M p e R s m args below meth c cells slots Q A q ls (as.reverse ++ .inr (.inr (ci, n0, i0)) :: rest) μ := by
  intro H locs lsA hW hD hS h1 h2 hl
  have g0 : mOk (.inr (.inr (ci, n0, i0))) := h2 _ (List.mem_append_right _ List.mem_cons_self)
  have g1 : ∀ v ∈ (.inr (.inr (ci, n0, i0)) :: as : List MV), mOk v := ok_cons g0 (fun v hv => h2 v (List.mem_append_left _ (List.mem_reverse.mpr hv)))
  have g2 : ∀ v ∈ rest, mOk v := fun v hv => h2 v (List.mem_append_right _ (List.mem_cons_of_mem _ hv))
  obtain ⟨m1, m2, m3, m4, m5, m6, m7, m8⟩ := mChkM_spec hm
  obtain ⟨hsh, htr⟩ := mTr_cell (X := X) g0 (by omega) (by omega)
  have hme := hmet g1
  rw [List.map_cons, htr] at hme
  obtain ⟨r, hr, hrn⟩ : ∃ r, vwCl[ci]? = some r ∧ r.1 = (mY a).cls := by
    cases hz : vwCl[ci]? with
    | none => rw [hz] at hci; cases hci
    | some r => rw [hz] at hci; exact ⟨r, rfl, Option.some.inj hci⟩
  have hg := mW_get X μ hsh
  rw [mCell_obj X μ i0 hc16] at hg
  have hrcv := va_recv hF.2.2.2.2.2.2.2.1 hW hr hg
  rw [hrn] at hrcv
  refine lc_ret hF (M2 := a) (rest := rest) rfl hc0 kk hD hS h1 g2 hl (va_runV (Ts := mTb) (own := (mY M).cls) (C := (mY a).cls) (y := mY a) (b := mAd X i0) (As := as.map (mTr X)) ⟨hF.1, hF.2.1, hF.2.2.1, hF.2.2.2.1, hF.2.2.2.2.1⟩ hme (cwV as.length hF.2.2.2.2.1 ?_ rfl rfl rfl ⟨rfl, m7, m8, hpar⟩ ⟨?_, ?_⟩) ⟨mPre_blind, hrcv, fun U hU hWm => ⟨rfl, mPre_at hF hW hD hS U hU hWm⟩⟩ rfl (by rw [List.length_map]) hl.1 ?_ ?_ hdg ⟨hF.2.2.2.2.2.1.2.2.1, hF.2.2.2.2.2.1.2.2.2⟩)
  · intro w hw
    unfold wsV at hw
    rcases List.mem_append.mp hw with z | z
    · simp only [List.mem_cons, List.not_mem_nil, or_false] at z
      rcases z with rfl | rfl | rfl | rfl
      · exact ⟨hlink, mTb_good hlink⟩
      · exact ⟨(m4 hs).1, mTb_good (m4 hs).1⟩
      · exact ⟨(m4 hs).2, mTb_good (m4 hs).2⟩
      · exact ⟨m2, mTb_good m2⟩
    · exact mGood hm w z
  · have := hF.2.2.2.2.2.1.1
    show h + 1 + 1 ≤ R.frames
    omega
  · have := hF.2.2.2.2.2.1.2.1
    show 8 + (mMx a + 11) + 64 * (h + 1) ≤ R.locals
    omega
  · show List.map (mTr X) (as.reverse ++ .inr (.inr (ci, n0, i0)) :: rest) = (as.map (mTr X)).reverse ++ .ref (mAd X i0) :: rest.map (mTr X)
    rw [List.map_append, List.map_reverse, List.map_cons, htr]
  · exact lv_room (by rw [mCat_sum]; exact hcat)
theorem lc_invS (hF : mFx X M h A p R s m args c cells slots) {idx : Nat} {as rest : List MV} {c0 : Nat} (hdg : decode (mCd M) q = .ok (.invokestatic idx, 3)) (hm : mChkM a = true) (hs : mSc a = true) (hlink : Cond.methodLink (mY M).cls idx (mY a) ∈ mTb) (hpar : (parseMethodDescriptor (mY a).desc).map (fun d => d.parameters.length) = some as.length) (hc0 : c0 = 0 ↔ mRt a = none) (hcat : mCat rest ≤ 8)
    {K2 : MV → Mem → Prop} (hmet : mMet X h a as μ K2) (kk : ∀ r μ', K2 r μ' → lAt X M p e R s m args below meth c cells slots Q A (q + 3) ls (if c0 = 0 then rest else r :: rest) μ') : lAt X M p e R s m args below meth c cells slots Q A q ls (as.reverse ++ rest) μ := by
  intro H locs lsA hW hD hS h1 h2 hl
  have g1 : ∀ v ∈ as, mOk v := fun v hv => h2 v (List.mem_append_left _ (List.mem_reverse.mpr hv))
  have g2 : ∀ v ∈ rest, mOk v := fun v hv => h2 v (List.mem_append_right _ hv)
  obtain ⟨m1, m2, m3, m4, m5, m6, m7, m8⟩ := mChkM_spec hm
  refine lc_ret hF (M2 := a) (rest := rest) rfl hc0 kk hD hS h1 g2 hl (va_runS (Ts := mTb) (own := (mY M).cls) (y := mY a) (As := as.map (mTr X)) ⟨hF.1, hF.2.1, hF.2.2.1, hF.2.2.2.1, hF.2.2.2.2.1⟩ (hmet g1) (va_cwS as.length hF.2.2.2.2.1 ?_ rfl rfl rfl ⟨m7, m8, hpar⟩ ⟨?_, ?_⟩) ⟨mPre_blind, fun U hU hWm => ⟨rfl, mPre_at hF hW hD hS U hU hWm⟩⟩ rfl (by rw [List.length_map]) hl.1 ?_ ?_ hdg ⟨hF.2.2.2.2.2.1.2.2.1, hF.2.2.2.2.2.1.2.2.2⟩)
  · intro w hw
    unfold va_wsS at hw
    rcases List.mem_append.mp hw with z | z
    · simp only [List.mem_cons, List.not_mem_nil, or_false] at z
      rcases z with rfl | rfl | rfl
      · exact ⟨hlink, mTb_good hlink⟩
      · exact ⟨m3 hs, mTb_good (m3 hs)⟩
      · exact ⟨m2, mTb_good m2⟩
    · exact mGood hm w z
  · have := hF.2.2.2.2.2.1.1
    show h + 1 + 1 ≤ R.frames
    omega
  · have := hF.2.2.2.2.2.1.2.1
    show 8 + (mMx a + 11) + 64 * (h + 1) ≤ R.locals
    omega
  · show List.map (mTr X) (as.reverse ++ rest) = (as.map (mTr X)).reverse ++ rest.map (mTr X)
    rw [List.map_append, List.map_reverse]
  · exact lv_room (by rw [mCat_sum]; exact hcat)
theorem lc_tsw (hF : mFx X M h A p R s m args c cells slots) {q a b : Nat} {ls : List (Nat × MV)} {st : List MV} {μ : Mem} {d lo hi : Int} {offs : Array Int} {len : Nat} {ts : List Nat} {x : Int32} (hdg : decode (mCd M) q = .ok (.tableswitch d lo hi offs, len)) (hd : (q : Int) + d = (a : Int)) (hlo : (b : Int) = lo) (hhi : hi = lo + (ts.length : Int) - 1) (ho : offs.toList.map (fun o => (q : Int) + o) = ts.map (fun (t : Nat) => (t : Int))) (hb : b + ts.length < 1000)
    (kd : (x.toInt < lo ∨ hi < x.toInt) → lAt X M p e R s m args below meth c cells slots Q A a ls st μ) (ks : swt x b ts (fun t => lAt X M p e R s m args below meth c cells slots Q A t ls st μ)) : lAt X M p e R s m args below meth c cells slots Q A q ls (.inl x :: st) μ := by
  intro H locs lsA hW hD hS h1 h2 hl
  by_cases hx : x.toInt < lo ∨ hi < x.toInt
  · exact lv_tableOut hF.1 hF.2.1 hdg hx hd (kd hx H locs lsA hW hD hS h1 (ok_tail h2) hl)
  · have x1 : ¬ x.toInt < lo := fun z => hx (Or.inl z)
    have x2 : ¬ hi < x.toInt := fun z => hx (Or.inr z)
    obtain ⟨n, hn⟩ : ∃ n : Nat, x.toInt - lo = (n : Int) := ⟨(x.toInt - lo).toNat, by omega⟩
    have hlt : n < ts.length := by omega
    have e1 : ts[n]? = some ts[n] := List.getElem?_eq_getElem hlt
    have e2 : (ts.map (fun (t : Nat) => (t : Int)))[n]? = some ((ts[n] : Nat) : Int) := by rw [List.getElem?_map, e1]; rfl
    rw [← ho, List.getElem?_map] at e2
    obtain ⟨off, hof, hoff⟩ : ∃ off, offs.toList[n]? = some off ∧ (q : Int) + off = ((ts[n] : Nat) : Int) := by
      cases hz : offs.toList[n]? with
      | none => rw [hz] at e2; cases e2
      | some off => rw [hz] at e2; exact ⟨off, rfl, Option.some.inj e2⟩
    have hxn : x = nI (b + n) := nI_ofInt (by omega) (by omega)
    refine lv_tableIn hF.1 hF.2.1 hdg x1 x2 (off := off) ?_ hoff (swt_spec ks e1 hxn H locs lsA hW hD hS h1 (ok_tail h2) hl)
    rw [show (x.toInt - lo).toNat = n by omega, ← Array.getElem?_toList]
    exact hof
end MLC

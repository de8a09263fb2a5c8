theorem ok_ci {x : Int32} {st : List MV} (h : ∀ v ∈ st, mOk v) : ∀ v ∈ (Sum.inl x : MV) :: st, mOk v := ok_cons (w := .inl x) trivial h
theorem ok_cl {x : Int64} {st : List MV} (h : ∀ v ∈ st, mOk v) : ∀ v ∈ (Sum.inr (.inl x) : MV) :: st, mOk v := ok_cons (w := .inr (.inl x)) trivial h
theorem ok_ciL {x : Int32} {k : Nat} {ls : List (Nat × MV)} (h : ∀ q ∈ ls, mOk q.2) : ∀ q ∈ (k, (Sum.inl x : MV)) :: ls, mOk q.2 := ok_consL (w := (k, .inl x)) trivial h
theorem ok_clL {x : Int64} {k : Nat} {ls : List (Nat × MV)} (h : ∀ q ∈ ls, mOk q.2) : ∀ q ∈ (k, (Sum.inr (.inl x) : MV)) :: ls, mOk q.2 := ok_consL (w := (k, .inr (.inl x))) trivial h
section MMS
variable {X : mC} {M h : Nat} {K : MV → Mem → Prop} {q a b : Nat} {ls : List (Nat × MV)} {st : List MV} {μ : Mem}
theorem at_st {q' : Nat} {st st' : List MV} (hok : (∀ v ∈ st, mOk v) → (∀ q ∈ ls, mOk q.2) → ∀ v ∈ st', mOk v)
    (hw : ∀ (p : Program) (e : Env) (R : Room) (s : State) (m : MethodId) (args : Array Value) (below : List Frame) (meth : Method) (c : Code) (cells slots : Nat) (Q : State → Prop) (A : Nat → Prop) (H : Heap) (locs : List Loc) (lsA : Array Slot),
      mFx X M h A p R s m args c cells slots → mWd X μ H → va_S A s.heap H locs → (∀ v ∈ st, mOk v) → (∀ q ∈ ls, mOk q.2) → lv_has lsA (mMx M) (mLs X ls) → W p (mcL X) e R s m args below meth c H locs cells slots Q (F0 m q' lsA (st'.map (mTr X))) → W p (mcL X) e R s m args below meth c H locs cells slots Q (F0 m q lsA (st.map (mTr X))))
    (k : mAt X M h K q' ls st' μ) : mAt X M h K q ls st μ := by
  intro p e R s m args below meth c cells slots Q A H locs lsA hF hR hW hD hS h1 h2 hl
  exact hw p e R s m args below meth c cells slots Q A H locs lsA hF hW hS h2 h1 hl (k p e R s m args below meth c cells slots Q A H locs lsA hF hR hW hD hS h1 (hok h2 h1) hl)
theorem at_iadd {x y : Int32} (hdg : decode (mCd M) q = .ok (.iadd, 1)) (k : mAt X M h K (q + 1) ls (.inl (x + y) :: st) μ) : mAt X M h K q ls (.inl y :: .inl x :: st) μ :=
  at_st (fun h _ => ok_ci (ok_tail (ok_tail h))) (fun p e R s m args below meth c cells slots Q A H locs lsA hF hW hS h2 h1 hl k => lv_iadd hF.1 hF.2.1 hdg k) k
theorem at_isub {x y : Int32} (hdg : decode (mCd M) q = .ok (.isub, 1)) (k : mAt X M h K (q + 1) ls (.inl (x - y) :: st) μ) : mAt X M h K q ls (.inl y :: .inl x :: st) μ :=
  at_st (fun h _ => ok_ci (ok_tail (ok_tail h))) (fun p e R s m args below meth c cells slots Q A H locs lsA hF hW hS h2 h1 hl k => lv_isub hF.1 hF.2.1 hdg k) k
theorem at_imul {x y : Int32} (hdg : decode (mCd M) q = .ok (.imul, 1)) (k : mAt X M h K (q + 1) ls (.inl (x * y) :: st) μ) : mAt X M h K q ls (.inl y :: .inl x :: st) μ :=
  at_st (fun h _ => ok_ci (ok_tail (ok_tail h))) (fun p e R s m args below meth c cells slots Q A H locs lsA hF hW hS h2 h1 hl k => lv_imul hF.1 hF.2.1 hdg k) k
theorem at_iand {x y : Int32} (hdg : decode (mCd M) q = .ok (.iand, 1)) (k : mAt X M h K (q + 1) ls (.inl (x &&& y) :: st) μ) : mAt X M h K q ls (.inl y :: .inl x :: st) μ :=
  at_st (fun h _ => ok_ci (ok_tail (ok_tail h))) (fun p e R s m args below meth c cells slots Q A H locs lsA hF hW hS h2 h1 hl k => lv_iand hF.1 hF.2.1 hdg k) k
theorem at_ior {x y : Int32} (hdg : decode (mCd M) q = .ok (.ior, 1)) (k : mAt X M h K (q + 1) ls (.inl (x ||| y) :: st) μ) : mAt X M h K q ls (.inl y :: .inl x :: st) μ :=
  at_st (fun h _ => ok_ci (ok_tail (ok_tail h))) (fun p e R s m args below meth c cells slots Q A H locs lsA hF hW hS h2 h1 hl k => lv_ior hF.1 hF.2.1 hdg k) k
theorem at_ixor {x y : Int32} (hdg : decode (mCd M) q = .ok (.ixor, 1)) (k : mAt X M h K (q + 1) ls (.inl (x ^^^ y) :: st) μ) : mAt X M h K q ls (.inl y :: .inl x :: st) μ :=
  at_st (fun h _ => ok_ci (ok_tail (ok_tail h))) (fun p e R s m args below meth c cells slots Q A H locs lsA hF hW hS h2 h1 hl k => lv_ixor hF.1 hF.2.1 hdg k) k
theorem at_ishl {x y : Int32} (hdg : decode (mCd M) q = .ok (.ishl, 1)) (k : mAt X M h K (q + 1) ls (.inl (x <<< (y &&& 31)) :: st) μ) : mAt X M h K q ls (.inl y :: .inl x :: st) μ :=
  at_st (fun h _ => ok_ci (ok_tail (ok_tail h))) (fun p e R s m args below meth c cells slots Q A H locs lsA hF hW hS h2 h1 hl k => lv_ishl hF.1 hF.2.1 hdg k) k
theorem at_ishr {x y : Int32} (hdg : decode (mCd M) q = .ok (.ishr, 1)) (k : mAt X M h K (q + 1) ls (.inl (x >>> (y &&& 31)) :: st) μ) : mAt X M h K q ls (.inl y :: .inl x :: st) μ :=
  at_st (fun h _ => ok_ci (ok_tail (ok_tail h))) (fun p e R s m args below meth c cells slots Q A H locs lsA hF hW hS h2 h1 hl k => lv_ishr hF.1 hF.2.1 hdg k) k
theorem at_iushr {x y : Int32} (hdg : decode (mCd M) q = .ok (.iushr, 1)) (k : mAt X M h K (q + 1) ls (.inl (x.toUInt32 >>> (y.toUInt32 &&& Int32.toUInt32 31)).toInt32 :: st) μ) : mAt X M h K q ls (.inl y :: .inl x :: st) μ :=
  at_st (fun h _ => ok_ci (ok_tail (ok_tail h))) (fun p e R s m args below meth c cells slots Q A H locs lsA hF hW hS h2 h1 hl k => lv_iushr hF.1 hF.2.1 hdg rfl k) k
theorem at_idiv {x y : Int32} (hdg : decode (mCd M) q = .ok (.idiv, 1)) (hne : ¬ y = 0) (k : mAt X M h K (q + 1) ls (.inl (x / y) :: st) μ) : mAt X M h K q ls (.inl y :: .inl x :: st) μ :=
  at_st (fun h _ => ok_ci (ok_tail (ok_tail h))) (fun p e R s m args below meth c cells slots Q A H locs lsA hF hW hS h2 h1 hl k => lv_idiv hF.1 hF.2.1 hdg hne k) k
theorem at_irem {x y : Int32} (hdg : decode (mCd M) q = .ok (.irem, 1)) (hne : ¬ y = 0) (k : mAt X M h K (q + 1) ls (.inl (x - x / y * y) :: st) μ) : mAt X M h K q ls (.inl y :: .inl x :: st) μ :=
  at_st (fun h _ => ok_ci (ok_tail (ok_tail h))) (fun p e R s m args below meth c cells slots Q A H locs lsA hF hW hS h2 h1 hl k => lv_irem hF.1 hF.2.1 hdg hne k) k
theorem at_ladd {x y : Int64} (hdg : decode (mCd M) q = .ok (.ladd, 1)) (k : mAt X M h K (q + 1) ls (.inr (.inl (x + y)) :: st) μ) : mAt X M h K q ls (.inr (.inl y) :: .inr (.inl x) :: st) μ :=
  at_st (fun h _ => ok_cl (ok_tail (ok_tail h))) (fun p e R s m args below meth c cells slots Q A H locs lsA hF hW hS h2 h1 hl k => lv_ladd hF.1 hF.2.1 hdg k) k
theorem at_lsub {x y : Int64} (hdg : decode (mCd M) q = .ok (.lsub, 1)) (k : mAt X M h K (q + 1) ls (.inr (.inl (x - y)) :: st) μ) : mAt X M h K q ls (.inr (.inl y) :: .inr (.inl x) :: st) μ :=
  at_st (fun h _ => ok_cl (ok_tail (ok_tail h))) (fun p e R s m args below meth c cells slots Q A H locs lsA hF hW hS h2 h1 hl k => lv_lsub hF.1 hF.2.1 hdg k) k
theorem at_lmul {x y : Int64} (hdg : decode (mCd M) q = .ok (.lmul, 1)) (k : mAt X M h K (q + 1) ls (.inr (.inl (x * y)) :: st) μ) : mAt X M h K q ls (.inr (.inl y) :: .inr (.inl x) :: st) μ :=
  at_st (fun h _ => ok_cl (ok_tail (ok_tail h))) (fun p e R s m args below meth c cells slots Q A H locs lsA hF hW hS h2 h1 hl k => lv_lmul hF.1 hF.2.1 hdg k) k
theorem at_ldiv {x y : Int64} (hdg : decode (mCd M) q = .ok (.ldiv, 1)) (hne : ¬ y = 0) (k : mAt X M h K (q + 1) ls (.inr (.inl (x / y)) :: st) μ) : mAt X M h K q ls (.inr (.inl y) :: .inr (.inl x) :: st) μ :=
  at_st (fun h _ => ok_cl (ok_tail (ok_tail h))) (fun p e R s m args below meth c cells slots Q A H locs lsA hF hW hS h2 h1 hl k => lv_ldiv hF.1 hF.2.1 hdg hne k) k
theorem at_lrem {x y : Int64} (hdg : decode (mCd M) q = .ok (.lrem, 1)) (hne : ¬ y = 0) (k : mAt X M h K (q + 1) ls (.inr (.inl (x - x / y * y)) :: st) μ) : mAt X M h K q ls (.inr (.inl y) :: .inr (.inl x) :: st) μ :=
  at_st (fun h _ => ok_cl (ok_tail (ok_tail h))) (fun p e R s m args below meth c cells slots Q A H locs lsA hF hW hS h2 h1 hl k => lv_lrem hF.1 hF.2.1 hdg hne k) k
theorem at_lneg {x : Int64} (hdg : decode (mCd M) q = .ok (.lneg, 1)) (k : mAt X M h K (q + 1) ls (.inr (.inl (-x)) :: st) μ) : mAt X M h K q ls (.inr (.inl x) :: st) μ :=
  at_st (fun h _ => ok_cl (ok_tail h)) (fun p e R s m args below meth c cells slots Q A H locs lsA hF hW hS h2 h1 hl k => lv_lneg hF.1 hF.2.1 hdg k) k
theorem at_lcmp {x y : Int64} (hdg : decode (mCd M) q = .ok (.lcmp, 1)) (k : mAt X M h K (q + 1) ls (.inl (lg_cmp x y) :: st) μ) : mAt X M h K q ls (.inr (.inl y) :: .inr (.inl x) :: st) μ :=
  at_st (fun h _ => ok_ci (ok_tail (ok_tail h))) (fun p e R s m args below meth c cells slots Q A H locs lsA hF hW hS h2 h1 hl k => W.lcmp hF.1 hF.2.1 hdg k) k
theorem at_i2l {x : Int32} (hdg : decode (mCd M) q = .ok (.i2l, 1)) (k : mAt X M h K (q + 1) ls (.inr (.inl x.toInt64) :: st) μ) : mAt X M h K q ls (.inl x :: st) μ :=
  at_st (fun h _ => ok_cl (ok_tail h)) (fun p e R s m args below meth c cells slots Q A H locs lsA hF hW hS h2 h1 hl k => lv_i2l hF.1 hF.2.1 hdg rfl k) k
theorem at_l2i {x : Int64} (hdg : decode (mCd M) q = .ok (.l2i, 1)) (k : mAt X M h K (q + 1) ls (.inl x.toInt32 :: st) μ) : mAt X M h K q ls (.inr (.inl x) :: st) μ :=
  at_st (fun h _ => ok_ci (ok_tail h)) (fun p e R s m args below meth c cells slots Q A H locs lsA hF hW hS h2 h1 hl k => lv_l2i hF.1 hF.2.1 hdg rfl k) k
theorem at_iconst {n : Int} (hdg : decode (mCd M) q = .ok (.iconst n, 1)) (k : mAt X M h K (q + 1) ls (.inl (Int32.ofInt n) :: st) μ) : mAt X M h K q ls st μ :=
  at_st (fun h _ => ok_ci h) (fun p e R s m args below meth c cells slots Q A H locs lsA hF hW hS h2 h1 hl k => lv_iconst hF.1 hF.2.1 hdg rfl k) k
theorem at_bipush {n : Int} (hdg : decode (mCd M) q = .ok (.bipush n, 2)) (k : mAt X M h K (q + 2) ls (.inl ((Int8.ofInt n).toInt32) :: st) μ) : mAt X M h K q ls st μ :=
  at_st (fun h _ => ok_ci h) (fun p e R s m args below meth c cells slots Q A H locs lsA hF hW hS h2 h1 hl k => lv_bipush hF.1 hF.2.1 hdg rfl k) k
theorem at_sipush {n : Int} (hdg : decode (mCd M) q = .ok (.sipush n, 3)) (k : mAt X M h K (q + 3) ls (.inl ((Int16.ofInt n).toInt32) :: st) μ) : mAt X M h K q ls st μ :=
  at_st (fun h _ => ok_ci h) (fun p e R s m args below meth c cells slots Q A H locs lsA hF hW hS h2 h1 hl k => lv_sipush hF.1 hF.2.1 hdg rfl k) k
theorem at_lconst {n : Fin 2} (hdg : decode (mCd M) q = .ok (.lconst n, 1)) (k : mAt X M h K (q + 1) ls (.inr (.inl (Int64.ofNat (n : Nat))) :: st) μ) : mAt X M h K q ls st μ :=
  at_st (fun h _ => ok_cl h) (fun p e R s m args below meth c cells slots Q A H locs lsA hF hW hS h2 h1 hl k => lv_lconst hF.1 hF.2.1 hdg rfl k) k
theorem at_ldc {i : Nat} {x : Int32} (hdg : decode (mCd M) q = .ok (.ldc i, 2)) (hc : Cond.constant (mY M).cls i x ∈ mTb) (k : mAt X M h K (q + 2) ls (.inl x :: st) μ) : mAt X M h K q ls st μ :=
  at_st (fun h _ => ok_ci h) (fun p e R s m args below meth c cells slots Q A H locs lsA hF hW hS h2 h1 hl k => lv_ldc hF.1 hF.2.1 hF.2.2.2.1 (hF.2.2.2.2.1 _ hc) hdg k) k
theorem at_ldcw {i : Nat} {x : Int32} (hdg : decode (mCd M) q = .ok (.ldc_w i, 3)) (hc : Cond.constant (mY M).cls i x ∈ mTb) (k : mAt X M h K (q + 3) ls (.inl x :: st) μ) : mAt X M h K q ls st μ :=
  at_st (fun h _ => ok_ci h) (fun p e R s m args below meth c cells slots Q A H locs lsA hF hW hS h2 h1 hl k => lv_ldcw hF.1 hF.2.1 hF.2.2.2.1 (hF.2.2.2.2.1 _ hc) hdg k) k
theorem at_ldc2 {i : Nat} {x : Int64} (hdg : decode (mCd M) q = .ok (.ldc2_w i, 3)) (hc : Cond.constantLong (mY M).cls i x ∈ mTb) (k : mAt X M h K (q + 3) ls (.inr (.inl x) :: st) μ) : mAt X M h K q ls st μ :=
  at_st (fun h _ => ok_cl h) (fun p e R s m args below meth c cells slots Q A H locs lsA hF hW hS h2 h1 hl k => lv_ldc2 hF.1 hF.2.1 hF.2.2.2.1 (hF.2.2.2.2.1 _ hc) hdg k) k
theorem at_getstatic {i : Nat} (hdg : decode (mCd M) q = .ok (.getstatic i, 3)) (hc : Cond.fieldLink (mY M).cls i "WasteBrook" "FACTORIALS" "[I" ∈ mTb) (k : mAt X M h K (q + 3) ls (.inr (.inr (20, 9, 0)) :: st) μ) : mAt X M h K q ls st μ :=
  at_st (fun h _ => ok_cons (w := .inr (.inr (20, 9, 0))) rfl h) (fun p e R s m args below meth c cells slots Q A H locs lsA hF hW hS h2 h1 hl k => va_gets hF.1 hF.2.1 hF.2.2.2.2.2.2.1.1 hS hF.2.2.2.1 (hF.2.2.2.2.1 _ hc) (fun x hx => hx) hdg k) k
theorem at_dup {w : MV} (hdg : decode (mCd M) q = .ok (.dup, 1)) (hw : mIsL w = false) (k : mAt X M h K (q + 1) ls (w :: w :: st) μ) : mAt X M h K q ls (w :: st) μ :=
  at_st (fun h _ => ok_cons (h w List.mem_cons_self) h) (fun p e R s m args below meth c cells slots Q A H locs lsA hF hW hS h2 h1 hl k => lv_dup hF.1 hF.2.1 hdg (by rw [mTr_cat, hw]; rfl) k) k
theorem at_dup2 {w z : MV} (hdg : decode (mCd M) q = .ok (.dup2, 1)) (hw : mIsL w = false) (hz : mIsL z = false) (k : mAt X M h K (q + 1) ls (w :: z :: w :: z :: st) μ) : mAt X M h K q ls (w :: z :: st) μ :=
  at_st (fun h _ => ok_cons (h w List.mem_cons_self) (ok_cons (h z (List.mem_cons_of_mem _ List.mem_cons_self)) h)) (fun p e R s m args below meth c cells slots Q A H locs lsA hF hW hS h2 h1 hl k => lv_dup2_11 hF.1 hF.2.1 hdg (by rw [mTr_cat, hw]; rfl) (by rw [mTr_cat, hz]; rfl) k) k
theorem at_pop {w : MV} (hdg : decode (mCd M) q = .ok (.pop, 1)) (hw : mIsL w = false) (k : mAt X M h K (q + 1) ls st μ) : mAt X M h K q ls (w :: st) μ :=
  at_st (fun h _ => ok_tail h) (fun p e R s m args below meth c cells slots Q A H locs lsA hF hW hS h2 h1 hl k => lv_pop hF.1 hF.2.1 hdg (by rw [mTr_cat, hw]; rfl) k) k
theorem at_iload {x : Int32} (hdg : decode (mCd M) q = .ok (.iload a, 2)) (hg : lget ls a = some (.inl x)) (k : mAt X M h K (q + 2) ls (.inl x :: st) μ) : mAt X M h K q ls st μ :=
  at_st (fun h hl => ok_cons (ok_get hl hg) h) (fun p e R s m args below meth c cells slots Q A H locs lsA hF hW hS h2 h1 hl k => lv_iload hF.1 hF.2.1 hdg (mLs_at hl hg) k) k
theorem at_iload_n {x : Int32} {n : Fin 4} (hdg : decode (mCd M) q = .ok (.iload_n n, 1)) (hn : (n : Nat) = a) (hg : lget ls a = some (.inl x)) (k : mAt X M h K (q + 1) ls (.inl x :: st) μ) : mAt X M h K q ls st μ :=
  at_st (fun h hl => ok_cons (ok_get hl hg) h) (fun p e R s m args below meth c cells slots Q A H locs lsA hF hW hS h2 h1 hl k => lv_iload_n hF.1 hF.2.1 hdg hn (mLs_at hl hg) k) k
theorem at_lload {x : Int64} (hdg : decode (mCd M) q = .ok (.lload a, 2)) (hg : lget ls a = some (.inr (.inl x))) (k : mAt X M h K (q + 2) ls (.inr (.inl x) :: st) μ) : mAt X M h K q ls st μ :=
  at_st (fun h hl => ok_cons (ok_get hl hg) h) (fun p e R s m args below meth c cells slots Q A H locs lsA hF hW hS h2 h1 hl k => lv_lload hF.1 hF.2.1 hdg (mLs_at hl hg) k) k
theorem at_lload_n {x : Int64} {n : Fin 4} (hdg : decode (mCd M) q = .ok (.lload_n n, 1)) (hn : (n : Nat) = a) (hg : lget ls a = some (.inr (.inl x))) (k : mAt X M h K (q + 1) ls (.inr (.inl x) :: st) μ) : mAt X M h K q ls st μ :=
  at_st (fun h hl => ok_cons (ok_get hl hg) h) (fun p e R s m args below meth c cells slots Q A H locs lsA hF hW hS h2 h1 hl k => lv_lload_n hF.1 hF.2.1 hdg hn (mLs_at hl hg) k) k
theorem mTr_ref (X : mC) (r : Nat × Nat × Nat) : ∃ z, mTr X (.inr (.inr r)) = .ref z := by
  obtain ⟨c, n, i⟩ := r
  show ∃ z, (if c = 20 then Value.ref (mcF X) else if c = 21 then .ref (mcB X) else .ref (mAd X i)) = .ref z
  split
  · exact ⟨_, rfl⟩
  · split <;> exact ⟨_, rfl⟩
theorem at_aload {r : Nat × Nat × Nat} (hdg : decode (mCd M) q = .ok (.aload a, 2)) (hg : lget ls a = some (.inr (.inr r))) (k : mAt X M h K (q + 2) ls (.inr (.inr r) :: st) μ) : mAt X M h K q ls st μ :=
  at_st (fun h hl => ok_cons (ok_get hl hg) h) (fun p e R s m args below meth c cells slots Q A H locs lsA hF hW hS h2 h1 hl k => by
    have h3 := mLs_at hl hg
    obtain ⟨z, hz⟩ := mTr_ref X r
    rw [hz] at h3
    refine lv_aload hF.1 hF.2.1 hdg h3 ?_
    rw [List.map_cons, hz] at k
    exact k) k
theorem at_aload_n {r : Nat × Nat × Nat} {n : Fin 4} (hdg : decode (mCd M) q = .ok (.aload_n n, 1)) (hn : (n : Nat) = a) (hg : lget ls a = some (.inr (.inr r))) (k : mAt X M h K (q + 1) ls (.inr (.inr r) :: st) μ) : mAt X M h K q ls st μ :=
  at_st (fun h hl => ok_cons (ok_get hl hg) h) (fun p e R s m args below meth c cells slots Q A H locs lsA hF hW hS h2 h1 hl k => by
    have h3 := mLs_at hl hg
    obtain ⟨z, hz⟩ := mTr_ref X r
    rw [hz] at h3
    refine lv_aload_n hF.1 hF.2.1 hdg hn h3 ?_
    rw [List.map_cons, hz] at k
    exact k) k
theorem at_istore {x : Int32} (hdg : decode (mCd M) q = .ok (.istore a, 2)) (hn : a < mMx M) (k : mAt X M h K (q + 2) ((a, .inl x) :: ldel ls a) st μ) : mAt X M h K q ls (.inl x :: st) μ := by
  intro p e R s m args below meth c cells slots Q A H locs lsA hF hR hW hD hS h1 h2 hl
  refine lv_istore hF.1 hF.2.1 hdg hl hn (by rw [ldel_map]) (fun ls' hl' => ?_)
  exact k p e R s m args below meth c cells slots Q A H locs ls' hF hR hW hD hS (ok_ciL (ok_del h1)) (ok_tail h2) hl'
theorem at_istore_n {x : Int32} {n : Fin 4} (hdg : decode (mCd M) q = .ok (.istore_n n, 1)) (hi : (n : Nat) = a) (hn : a < mMx M) (k : mAt X M h K (q + 1) ((a, .inl x) :: ldel ls a) st μ) : mAt X M h K q ls (.inl x :: st) μ := by
  intro p e R s m args below meth c cells slots Q A H locs lsA hF hR hW hD hS h1 h2 hl
  refine lv_istore_n hF.1 hF.2.1 hdg hi hl hn (by rw [ldel_map]) (fun ls' hl' => ?_)
  exact k p e R s m args below meth c cells slots Q A H locs ls' hF hR hW hD hS (ok_ciL (ok_del h1)) (ok_tail h2) hl'
theorem at_lstore {x : Int64} (hdg : decode (mCd M) q = .ok (.lstore a, 2)) (hn : a + 1 < mMx M) (k : mAt X M h K (q + 2) ((a, .inr (.inl x)) :: ldel2 ls a) st μ) : mAt X M h K q ls (.inr (.inl x) :: st) μ := by
  intro p e R s m args below meth c cells slots Q A H locs lsA hF hR hW hD hS h1 h2 hl
  refine lv_lstore hF.1 hF.2.1 hdg hl hn (by rw [ldel2_map]) (fun ls' hl' => ?_)
  exact k p e R s m args below meth c cells slots Q A H locs ls' hF hR hW hD hS (ok_clL (ok_del2 h1)) (ok_tail h2) hl'
theorem at_lstore_n {x : Int64} {n : Fin 4} (hdg : decode (mCd M) q = .ok (.lstore_n n, 1)) (hi : (n : Nat) = a) (hn : a + 1 < mMx M) (k : mAt X M h K (q + 1) ((a, .inr (.inl x)) :: ldel2 ls a) st μ) : mAt X M h K q ls (.inr (.inl x) :: st) μ := by
  intro p e R s m args below meth c cells slots Q A H locs lsA hF hR hW hD hS h1 h2 hl
  refine lv_lstore_n hF.1 hF.2.1 hdg hi hl hn (by rw [ldel2_map]) (fun ls' hl' => ?_)
  exact k p e R s m args below meth c cells slots Q A H locs ls' hF hR hW hD hS (ok_clL (ok_del2 h1)) (ok_tail h2) hl'
theorem at_astore {r : Nat × Nat × Nat} (hdg : decode (mCd M) q = .ok (.astore a, 2)) (hn : a < mMx M) (k : mAt X M h K (q + 2) ((a, .inr (.inr r)) :: ldel ls a) st μ) : mAt X M h K q ls (.inr (.inr r) :: st) μ := by
  intro p e R s m args below meth c cells slots Q A H locs lsA hF hR hW hD hS h1 h2 hl
  obtain ⟨z, hz⟩ := mTr_ref X r
  rw [List.map_cons, hz]
  refine lv_astore hF.1 hF.2.1 hdg hl hn (by rw [ldel_map, ← hz]) (fun ls' hl' => ?_)
  exact k p e R s m args below meth c cells slots Q A H locs ls' hF hR hW hD hS (ok_consL (h2 _ List.mem_cons_self) (ok_del h1)) (ok_tail h2) hl'
theorem at_astore_n {r : Nat × Nat × Nat} {n : Fin 4} (hdg : decode (mCd M) q = .ok (.astore_n n, 1)) (hi : (n : Nat) = a) (hn : a < mMx M) (k : mAt X M h K (q + 1) ((a, .inr (.inr r)) :: ldel ls a) st μ) : mAt X M h K q ls (.inr (.inr r) :: st) μ := by
  intro p e R s m args below meth c cells slots Q A H locs lsA hF hR hW hD hS h1 h2 hl
  obtain ⟨z, hz⟩ := mTr_ref X r
  rw [List.map_cons, hz]
  refine lv_astore_n hF.1 hF.2.1 hdg hi hl hn (by rw [ldel_map, ← hz]) (fun ls' hl' => ?_)
  exact k p e R s m args below meth c cells slots Q A H locs ls' hF hR hW hD hS (ok_consL (h2 _ List.mem_cons_self) (ok_del h1)) (ok_tail h2) hl'
theorem lget_idx {ls : List (Nat × MV)} {k : Nat} {v : MV} (X : mC) (h : lget ls k = some v) : ∃ n : Nat, (mLs X ls)[n]? = some (k, mTr X v) := by
  obtain ⟨n, hn⟩ := List.getElem?_of_mem (lget_mem h)
  exact ⟨n, by unfold mLs; rw [List.getElem?_map, hn]; rfl⟩
theorem at_iinc {x d : Int32} {n : Int} (hdg : decode (mCd M) q = .ok (.iinc a n, 3)) (hd : d = Int32.ofInt n) (hg : lget ls a = some (.inl x)) (hn : a < mMx M) (k : mAt X M h K (q + 3) ((a, .inl (x + d)) :: ldel ls a) st μ) : mAt X M h K q ls st μ := by
  intro p e R s m args below meth c cells slots Q A H locs lsA hF hR hW hD hS h1 h2 hl
  subst hd
  obtain ⟨z, hz⟩ := lget_idx X hg
  refine lv_iinc hF.1 hF.2.1 hdg hl hz rfl hn (by rw [ldel_map]) (fun ls' hl' => ?_)
  exact k p e R s m args below meth c cells slots Q A H locs ls' hF hR hW hD hS (ok_ciL (ok_del h1)) h2 hl'
theorem at_if_eq {x : Int32} {off : Int} (hdg : decode (mCd M) q = .ok (.ifCond .eq off, 3)) (ht : (q : Int) + off = (a : Int)) (kt : x = 0 → mAt X M h K a ls st μ) (kf : ¬ x = 0 → mAt X M h K (q + 3) ls st μ) : mAt X M h K q ls (.inl x :: st) μ := by
  intro p e R s m args below meth c cells slots Q A H locs lsA hF hR hW hD hS h1 h2 hl
  exact lv_if_eq hF.1 hF.2.1 hdg ht (fun z => kt z p e R s m args below meth c cells slots Q A H locs lsA hF hR hW hD hS h1 (ok_tail h2) hl) (fun z => kf z p e R s m args below meth c cells slots Q A H locs lsA hF hR hW hD hS h1 (ok_tail h2) hl)
theorem at_if_ne {x : Int32} {off : Int} (hdg : decode (mCd M) q = .ok (.ifCond .ne off, 3)) (ht : (q : Int) + off = (a : Int)) (kt : ¬ x = 0 → mAt X M h K a ls st μ) (kf : x = 0 → mAt X M h K (q + 3) ls st μ) : mAt X M h K q ls (.inl x :: st) μ := by
  intro p e R s m args below meth c cells slots Q A H locs lsA hF hR hW hD hS h1 h2 hl
  exact lv_if_ne hF.1 hF.2.1 hdg ht (fun z => kt z p e R s m args below meth c cells slots Q A H locs lsA hF hR hW hD hS h1 (ok_tail h2) hl) (fun z => kf z p e R s m args below meth c cells slots Q A H locs lsA hF hR hW hD hS h1 (ok_tail h2) hl)
theorem at_if_lt {x : Int32} {off : Int} (hdg : decode (mCd M) q = .ok (.ifCond .lt off, 3)) (ht : (q : Int) + off = (a : Int)) (kt : x < 0 → mAt X M h K a ls st μ) (kf : ¬ x < 0 → mAt X M h K (q + 3) ls st μ) : mAt X M h K q ls (.inl x :: st) μ := by
  intro p e R s m args below meth c cells slots Q A H locs lsA hF hR hW hD hS h1 h2 hl
  exact lv_if_lt hF.1 hF.2.1 hdg ht (fun z => kt z p e R s m args below meth c cells slots Q A H locs lsA hF hR hW hD hS h1 (ok_tail h2) hl) (fun z => kf z p e R s m args below meth c cells slots Q A H locs lsA hF hR hW hD hS h1 (ok_tail h2) hl)
theorem at_if_ge {x : Int32} {off : Int} (hdg : decode (mCd M) q = .ok (.ifCond .ge off, 3)) (ht : (q : Int) + off = (a : Int)) (kt : 0 ≤ x → mAt X M h K a ls st μ) (kf : ¬ 0 ≤ x → mAt X M h K (q + 3) ls st μ) : mAt X M h K q ls (.inl x :: st) μ := by
  intro p e R s m args below meth c cells slots Q A H locs lsA hF hR hW hD hS h1 h2 hl
  exact lv_if_ge hF.1 hF.2.1 hdg ht (fun z => kt z p e R s m args below meth c cells slots Q A H locs lsA hF hR hW hD hS h1 (ok_tail h2) hl) (fun z => kf z p e R s m args below meth c cells slots Q A H locs lsA hF hR hW hD hS h1 (ok_tail h2) hl)
theorem at_if_gt {x : Int32} {off : Int} (hdg : decode (mCd M) q = .ok (.ifCond .gt off, 3)) (ht : (q : Int) + off = (a : Int)) (kt : 0 < x → mAt X M h K a ls st μ) (kf : ¬ 0 < x → mAt X M h K (q + 3) ls st μ) : mAt X M h K q ls (.inl x :: st) μ := by
  intro p e R s m args below meth c cells slots Q A H locs lsA hF hR hW hD hS h1 h2 hl
  exact lv_if_gt hF.1 hF.2.1 hdg ht (fun z => kt z p e R s m args below meth c cells slots Q A H locs lsA hF hR hW hD hS h1 (ok_tail h2) hl) (fun z => kf z p e R s m args below meth c cells slots Q A H locs lsA hF hR hW hD hS h1 (ok_tail h2) hl)
theorem at_if_le {x : Int32} {off : Int} (hdg : decode (mCd M) q = .ok (.ifCond .le off, 3)) (ht : (q : Int) + off = (a : Int)) (kt : x ≤ 0 → mAt X M h K a ls st μ) (kf : ¬ x ≤ 0 → mAt X M h K (q + 3) ls st μ) : mAt X M h K q ls (.inl x :: st) μ := by
  intro p e R s m args below meth c cells slots Q A H locs lsA hF hR hW hD hS h1 h2 hl
  exact lv_if_le hF.1 hF.2.1 hdg ht (fun z => kt z p e R s m args below meth c cells slots Q A H locs lsA hF hR hW hD hS h1 (ok_tail h2) hl) (fun z => kf z p e R s m args below meth c cells slots Q A H locs lsA hF hR hW hD hS h1 (ok_tail h2) hl)
theorem at_icmp_eq {x y : Int32} {off : Int} (hdg : decode (mCd M) q = .ok (.if_icmp .eq off, 3)) (ht : (q : Int) + off = (a : Int)) (kt : x = y → mAt X M h K a ls st μ) (kf : ¬ x = y → mAt X M h K (q + 3) ls st μ) : mAt X M h K q ls (.inl y :: .inl x :: st) μ := by
  intro p e R s m args below meth c cells slots Q A H locs lsA hF hR hW hD hS h1 h2 hl
  exact lv_icmp_eq hF.1 hF.2.1 hdg ht (fun z => kt z p e R s m args below meth c cells slots Q A H locs lsA hF hR hW hD hS h1 (ok_tail (ok_tail h2)) hl) (fun z => kf z p e R s m args below meth c cells slots Q A H locs lsA hF hR hW hD hS h1 (ok_tail (ok_tail h2)) hl)
theorem at_icmp_ne {x y : Int32} {off : Int} (hdg : decode (mCd M) q = .ok (.if_icmp .ne off, 3)) (ht : (q : Int) + off = (a : Int)) (kt : ¬ x = y → mAt X M h K a ls st μ) (kf : x = y → mAt X M h K (q + 3) ls st μ) : mAt X M h K q ls (.inl y :: .inl x :: st) μ := by
  intro p e R s m args below meth c cells slots Q A H locs lsA hF hR hW hD hS h1 h2 hl
  exact lv_icmp_ne hF.1 hF.2.1 hdg ht (fun z => kt z p e R s m args below meth c cells slots Q A H locs lsA hF hR hW hD hS h1 (ok_tail (ok_tail h2)) hl) (fun z => kf z p e R s m args below meth c cells slots Q A H locs lsA hF hR hW hD hS h1 (ok_tail (ok_tail h2)) hl)
theorem at_icmp_lt {x y : Int32} {off : Int} (hdg : decode (mCd M) q = .ok (.if_icmp .lt off, 3)) (ht : (q : Int) + off = (a : Int)) (kt : x < y → mAt X M h K a ls st μ) (kf : ¬ x < y → mAt X M h K (q + 3) ls st μ) : mAt X M h K q ls (.inl y :: .inl x :: st) μ := by
  intro p e R s m args below meth c cells slots Q A H locs lsA hF hR hW hD hS h1 h2 hl
  exact lv_icmp_lt hF.1 hF.2.1 hdg ht (fun z => kt z p e R s m args below meth c cells slots Q A H locs lsA hF hR hW hD hS h1 (ok_tail (ok_tail h2)) hl) (fun z => kf z p e R s m args below meth c cells slots Q A H locs lsA hF hR hW hD hS h1 (ok_tail (ok_tail h2)) hl)
theorem at_icmp_ge {x y : Int32} {off : Int} (hdg : decode (mCd M) q = .ok (.if_icmp .ge off, 3)) (ht : (q : Int) + off = (a : Int)) (kt : y ≤ x → mAt X M h K a ls st μ) (kf : ¬ y ≤ x → mAt X M h K (q + 3) ls st μ) : mAt X M h K q ls (.inl y :: .inl x :: st) μ := by
  intro p e R s m args below meth c cells slots Q A H locs lsA hF hR hW hD hS h1 h2 hl
  exact lv_icmp_ge hF.1 hF.2.1 hdg ht (fun z => kt z p e R s m args below meth c cells slots Q A H locs lsA hF hR hW hD hS h1 (ok_tail (ok_tail h2)) hl) (fun z => kf z p e R s m args below meth c cells slots Q A H locs lsA hF hR hW hD hS h1 (ok_tail (ok_tail h2)) hl)
theorem at_icmp_gt {x y : Int32} {off : Int} (hdg : decode (mCd M) q = .ok (.if_icmp .gt off, 3)) (ht : (q : Int) + off = (a : Int)) (kt : y < x → mAt X M h K a ls st μ) (kf : ¬ y < x → mAt X M h K (q + 3) ls st μ) : mAt X M h K q ls (.inl y :: .inl x :: st) μ := by
  intro p e R s m args below meth c cells slots Q A H locs lsA hF hR hW hD hS h1 h2 hl
  exact lv_icmp_gt hF.1 hF.2.1 hdg ht (fun z => kt z p e R s m args below meth c cells slots Q A H locs lsA hF hR hW hD hS h1 (ok_tail (ok_tail h2)) hl) (fun z => kf z p e R s m args below meth c cells slots Q A H locs lsA hF hR hW hD hS h1 (ok_tail (ok_tail h2)) hl)
theorem at_icmp_le {x y : Int32} {off : Int} (hdg : decode (mCd M) q = .ok (.if_icmp .le off, 3)) (ht : (q : Int) + off = (a : Int)) (kt : x ≤ y → mAt X M h K a ls st μ) (kf : ¬ x ≤ y → mAt X M h K (q + 3) ls st μ) : mAt X M h K q ls (.inl y :: .inl x :: st) μ := by
  intro p e R s m args below meth c cells slots Q A H locs lsA hF hR hW hD hS h1 h2 hl
  exact lv_icmp_le hF.1 hF.2.1 hdg ht (fun z => kt z p e R s m args below meth c cells slots Q A H locs lsA hF hR hW hD hS h1 (ok_tail (ok_tail h2)) hl) (fun z => kf z p e R s m args below meth c cells slots Q A H locs lsA hF hR hW hD hS h1 (ok_tail (ok_tail h2)) hl)
theorem at_goto {off : Int} (hdg : decode (mCd M) q = .ok (.goto off, 3)) (ht : (q : Int) + off = (a : Int)) (k : mAt X M h K a ls st μ) : mAt X M h K q ls st μ := by
  intro p e R s m args below meth c cells slots Q A H locs lsA hF hR hW hD hS h1 h2 hl
  exact lv_goto hF.1 hF.2.1 hdg ht (k p e R s m args below meth c cells slots Q A H locs lsA hF hR hW hD hS h1 h2 hl)
end MMS

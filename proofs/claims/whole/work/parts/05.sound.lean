def wAt (n : Nat) (w : Cond) : Bool := decide (lw_tbl[n]? = some w) && goodWord w
theorem wAt_mem {n : Nat} {w : Cond} (h : wAt n w = true) : w ∈ mTb := by
  unfold wAt at h
  rw [Bool.and_eq_true, decide_eq_true_eq] at h
  exact List.mem_filter.mpr ⟨List.mem_of_getElem? h.1, h.2⟩
/-- what the tables must say of method M so that it may be called -/
def mChkM (M : Nat) : Bool :=
  let ps := mTp.getD M []
  let y := mY M
  wAt (ps.getD 0 0) (Cond.code y (mCd M) (mMx M) (mRt M)) && wAt (ps.getD 1 0) (Cond.initialized y.cls)
  && (if mSc M = true then wAt (ps.getD 2 0) (Cond.static y) else wAt (ps.getD 2 0) (Cond.instanceMethod y) && wAt (ps.getD 3 0) (Cond.selects y.cls y y))
  && decide (mMx M ≤ 40) && plainName y.cls && decide (y.cls ≠ "java/lang/invoke/MethodHandle") && decide (y.cls ≠ "java/lang/invoke/VarHandle")
def mLk (own : String) (i : Instr) (a b c : Nat) (v : MV) (ts : List Nat) (fin : Bool) (idx : Nat) : Bool :=
  match vwCl[a]?, (mF a)[b]? with
  | some (_, T, N), some t => wAt (ts.getD 0 0) (Cond.fieldLink own idx (T b).1 (T b).2.1 (T b).2.2.1) && decide (b < N) && decide (t.1 = c) && decide (c = 3 → v = .inr (.inr (t.2.1, t.2.2.1, t.2.2.2)))
      && decide (a < 16) && (fin || (decide ((T b).2.2.2 = false) && decide (c = 0 → parseFieldDescriptor (T b).2.2.1 = some .int) && decide (c = 1 → parseFieldDescriptor (T b).2.2.1 = some .long) && decide (c = 2 → parseFieldDescriptor (T b).2.2.1 = some .boolean)))
  | _, _ => false
def lkp : List Nat → List (Int × Int)
  | k :: t :: ts => ((k : Int), (t : Int)) :: lkp ts
  | _ => []
def mChk (M : Nat) (e : mE) : Bool :=
  let own := (mY M).cls
  match e with
  | (q, i, len, a, b, c, v, ts) => decide (decode (mCd M) q = .ok (i, len)) &&
    match i with
    | .iconst n => decide (v = .inl (Int32.ofInt n)) && decide (len = 1)
    | .bipush n => decide (v = .inl ((Int8.ofInt n).toInt32)) && decide (len = 2)
    | .sipush n => decide (v = .inl ((Int16.ofInt n).toInt32)) && decide (len = 3)
    | .ldc k => (match v with | .inl x => wAt (ts.getD 0 0) (Cond.constant own k x) && decide (len = 2) | _ => true)
    | .ldc_w k => (match v with | .inl x => wAt (ts.getD 0 0) (Cond.constant own k x) && decide (len = 3) | _ => true)
    | .lconst n => decide (v = .inr (.inl (Int64.ofNat (n : Nat)))) && decide (len = 1)
    | .ldc2_w k => (match v with | .inr (.inl x) => wAt (ts.getD 0 0) (Cond.constantLong own k x) | _ => false) && decide (len = 3)
    | .getstatic k => wAt (ts.getD 0 0) (Cond.fieldLink own k "WasteBrook" "FACTORIALS" "[I") && decide (v = .inr (.inr (20, 9, 0))) && decide (len = 3)
    | .iload k => decide (a = k) && decide (len = 2)
    | .lload k => decide (a = k) && decide (len = 2)
    | .aload k => decide (a = k) && decide (len = 2)
    | .iload_n k => decide ((k : Nat) = a) && decide (len = 1)
    | .lload_n k => decide ((k : Nat) = a) && decide (len = 1)
    | .aload_n k => decide ((k : Nat) = a) && decide (len = 1)
    | .istore k => decide (a = k) && decide (len = 2) && decide (a < mMx M)
    | .lstore k => decide (a = k) && decide (len = 2) && decide (a + 1 < mMx M)
    | .astore k => decide (a = k) && decide (len = 2) && decide (a < mMx M)
    | .istore_n k => decide ((k : Nat) = a) && decide (len = 1) && decide (a < mMx M)
    | .lstore_n k => decide ((k : Nat) = a) && decide (len = 1) && decide (a + 1 < mMx M)
    | .astore_n k => decide ((k : Nat) = a) && decide (len = 1) && decide (a < mMx M)
    | .iinc k n => decide (a = k) && decide (v = .inl (Int32.ofInt n)) && decide (len = 3) && decide (a < mMx M)
    | .getfield k => mLk own i a b c v ts true k && decide (len = 3)
    | .putfield k => mLk own i a b c v ts false k && decide (len = 3)
    | .ifCond _ o => decide ((q : Int) + o = (a : Int)) && decide (len = 3)
    | .if_icmp _ o => decide ((q : Int) + o = (a : Int)) && decide (len = 3)
    | .goto o => decide ((q : Int) + o = (a : Int)) && decide (len = 3)
    | .tableswitch d lo hi offs => decide ((q : Int) + d = (a : Int)) && decide ((b : Int) = lo) && decide (hi = lo + (ts.length : Int) - 1) && decide (offs.toList.map (fun o => (q : Int) + o) = ts.map (fun (t : Nat) => (t : Int))) && decide (b + ts.length < 1000)
    | .lookupswitch d ps => decide ((q : Int) + d = (a : Int)) && decide (ps.toList.map (fun r => (r.1, (q : Int) + r.2)) = lkp ts) && (ps.toList.zip (ps.toList.drop 1)).all (fun (a, next) => a.1 < next.1) && ts.all (fun k => decide (k < 10000))
    | .invokevirtual k => mChkM a && !mSc a && wAt (ts.getD 0 0) (Cond.methodLink own k (mY a)) && decide ((parseMethodDescriptor (mY a).desc).map (fun d => d.parameters.length + 1) = some b) && decide (len = 3) && decide (c = 0 ↔ mRt a = none) && decide ((vwCl[ts.getD 1 99]?).map (fun r => r.1) = some (mY a).cls) && decide (ts.getD 1 99 < 16)
    | .invokestatic k => (if c = 8 then true else if c = 9 then wAt (ts.getD 0 0) (Cond.methodLink own k arraycopyName) && decide (b = 5) else if c = 10 then wAt (ts.getD 0 0) (Cond.methodLink own k Lib.Math.min.name) && decide (b = 2) else if c = 11 then wAt (ts.getD 0 0) (Cond.methodLink own k Lib.Math.max.name) && decide (b = 2) else if c = 12 then wAt (ts.getD 0 0) (Cond.methodLink own k Lib.MathLoose.max_long.x) && decide (b = 2) else if c = 13 then wAt (ts.getD 0 0) (Cond.methodLink own k Lib.MathLoose.abs_long.x) && decide (b = 1) else mChkM a && mSc a && wAt (ts.getD 0 0) (Cond.methodLink own k (mY a)) && decide ((parseMethodDescriptor (mY a).desc).map (fun d => d.parameters.length) = some b) && decide (c = 0 ↔ mRt a = none)) && decide (len = 3)
    | .ireturn => (match mRt M with | some .int => true | some .boolean => decide (a = 1) | _ => false) && decide (len = 1)
    | .lreturn => decide (mRt M = some .long) && decide (len = 1)
    | .return_ => decide (mRt M = none) && decide (len = 1)
    | .athrow => true
    | .new _ => true
    | .newarray _ => true
    | .invokespecial _ => true
    | _ => decide (len = 1)
def mNf (i : Instr) : Bool := match i with
  | .goto _ | .ireturn | .lreturn | .return_ | .tableswitch _ _ _ _ | .lookupswitch _ _ | .athrow => true
  | _ => false
def mNx (cs : List mE) (n : Nat) : Bool := match cs with
  | [] => false
  | e :: _ => decide (e.1 = n)
def mOkF (M : Nat) : List mE → Bool
  | [] => true
  | (q, i, len, a, b, c, v, ts) :: cs => mChk M (q, i, len, a, b, c, v, ts) && (mNf i || mNx cs (q + len)) && mOkF M cs
theorem ok_cons {w : MV} {st : List MV} (hw : mOk w) (h : ∀ v ∈ st, mOk v) : ∀ v ∈ w :: st, mOk v := fun v hv => (List.mem_cons.mp hv).elim (fun e => e ▸ hw) (h v)
theorem ok_tail {w : MV} {st : List MV} (h : ∀ v ∈ w :: st, mOk v) : ∀ v ∈ st, mOk v := fun v hv => h v (List.mem_cons_of_mem _ hv)
theorem ok_consL {w : Nat × MV} {ls : List (Nat × MV)} (hw : mOk w.2) (h : ∀ q ∈ ls, mOk q.2) : ∀ q ∈ w :: ls, mOk q.2 := fun q hq => (List.mem_cons.mp hq).elim (fun e => e ▸ hw) (h q)
theorem ok_del {ls : List (Nat × MV)} {k : Nat} (h : ∀ q ∈ ls, mOk q.2) : ∀ q ∈ ldel ls k, mOk q.2 := fun q hq => h q (ldel_mem hq)
theorem ok_del2 {ls : List (Nat × MV)} {k : Nat} (h : ∀ q ∈ ls, mOk q.2) : ∀ q ∈ ldel2 ls k, mOk q.2 := fun q hq => h q (ldel2_mem hq)
theorem ok_get {ls : List (Nat × MV)} {k : Nat} {v : MV} (h : ∀ q ∈ ls, mOk q.2) (hg : lget ls k = some v) : mOk v := h (k, v) (lget_mem hg)
theorem mSh_small : ∀ q ∈ mSh, q.2 < 20000 := by decide +kernel
theorem mSh_lt {i c n : Nat} (h : mSh[i]? = some (c, n)) : n < 2 ^ 31 := Nat.lt_trans (mSh_small _ (List.mem_of_getElem? h)) (by decide)
/-- the cells' layout: where an object lies, its rows and parts lie as its class says -/
def mLayB : Bool := (List.range mSh.length).all fun i => match mSh[i]? with
  | some (c, n) => if c = 19 then (List.range n).all (fun j => decide (mSh[i + 1 + 36 * j]? = some (1, 0))) else if c < 16 then (mF c).all (fun t => decide (t.1 = 3 → mSh[i + t.2.2.2]? = some (t.2.1, t.2.2.1) ∧ t.2.1 ≠ 20 ∧ t.2.1 ≠ 21)) else true
  | none => true
theorem mLay_ok : mLayB = true := by decide +kernel
theorem mLay_f {i c n b : Nat} {t : Nat × Nat × Nat × Nat} (h : mSh[i]? = some (c, n)) (hc : c < 16) (hb : (mF c)[b]? = some t) (h3 : t.1 = 3) : mSh[i + t.2.2.2]? = some (t.2.1, t.2.2.1) ∧ t.2.1 ≠ 20 ∧ t.2.1 ≠ 21 := by
  have h1 := List.all_eq_true.mp mLay_ok i (List.mem_range.mpr (List.getElem?_eq_some_iff.mp h).1)
  rw [h] at h1
  have hc2 : ¬ c = 19 := by omega
  simp only [if_neg hc2, if_pos hc] at h1
  have h2 := List.all_eq_true.mp h1 t (List.mem_of_getElem? hb)
  exact (decide_eq_true_eq.mp h2) h3
theorem mLay_a {i n j : Nat} (h : mSh[i]? = some (19, n)) (hj : j < n) : mSh[i + 1 + 36 * j]? = some (1, 0) := by
  have h1 := List.all_eq_true.mp mLay_ok i (List.mem_range.mpr (List.getElem?_eq_some_iff.mp h).1)
  rw [h] at h1
  have h2 := List.all_eq_true.mp h1 j (List.mem_range.mpr hj)
  exact decide_eq_true_eq.mp h2
theorem mSh_zero : ∀ q ∈ mSh, q.1 < 16 → q.2 = 0 := by decide +kernel
/-- every class's words are in the tables, its fields apart, its types as told -/
theorem vwCl_ok : ∀ (c : Nat) (r : vw_C), vwCl[c]? = some r → (∀ w ∈ u_ws r.1 r.2.1 r.2.2, w ∈ mTb) ∧ ∃ ty0 : Nat → FieldType, (∀ k, k < r.2.2 → parseFieldDescriptor (r.2.1 k).2.2.1 = some (ty0 k)) ∧ ∀ a, a < r.2.2 → ∀ b, b < r.2.2 → a ≠ b → (r.2.1 a).2.1 ≠ (r.2.1 b).2.1 := by
  intro c r h
  match c, h with
  | 0, h => cases h; exact ⟨by decide +kernel, _, tyX0_ok, nmX0⟩
  | 1, h => cases h; exact ⟨by decide +kernel, _, tyX1_ok, nmX1⟩
  | 2, h => cases h; exact ⟨by decide +kernel, _, tyX3_ok, nmX3⟩
  | 3, h => cases h; exact ⟨by decide +kernel, _, tyX4_ok, nmX4⟩
  | 4, h => cases h; exact ⟨by decide +kernel, _, tyX5_ok, nmX5⟩
  | 5, h => cases h; exact ⟨by decide +kernel, _, tyX6_ok, nmX6⟩
  | 6, h => cases h; exact ⟨by decide +kernel, _, tyX7_ok, nmX7⟩
  | 7, h => cases h; exact ⟨by decide +kernel, _, tyX8_ok, nmX8⟩
  | 8, h => cases h; exact ⟨by decide +kernel, _, tyX9_ok, nmX9⟩
  | k + 9, h => simp [vwCl] at h
theorem mFl_len : ∀ (c : Nat) (r : vw_C), vwCl[c]? = some r → (mF c).length = r.2.2 := by
  intro c r h
  match c, h with
  | 0, h => cases h; rfl
  | 1, h => cases h; rfl
  | 2, h => cases h; rfl
  | 3, h => cases h; rfl
  | 4, h => cases h; rfl
  | 5, h => cases h; rfl
  | 6, h => cases h; rfl
  | 7, h => cases h; rfl
  | 8, h => cases h; rfl
  | k + 9, h => simp [vwCl] at h

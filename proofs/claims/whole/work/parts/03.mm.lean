/-! A small machine over the kit's worlds: values with their classes in them, a memory of rows of numbers, one world for all cells of the class and of the reference. -/
abbrev MV : Type := Int32 ⊕ (Int64 ⊕ (Nat × Nat × Nat))
abbrev Mem : Type := (Nat → Nat → Int32) × (Nat → Nat → Int64)
/-- an entry of a method's code: place, instruction, length, three numbers, a value, targets -/
abbrev mE : Type := Nat × Instr × Nat × Nat × Nat × Nat × MV × List Nat
/-- what a claim's run fixes: launch, classes and slots, array classes, addresses, the static row's address, the script's address, length, ints -/
abbrev mC : Type := Launch × va_G × (Nat → ClassId) × (Nat → Nat) × Nat × Nat × Nat × (Nat → Int32)
def mcL (X : mC) : Launch := X.1
def mcD (X : mC) : va_G := X.2.1
def mcA (X : mC) : Nat → ClassId := X.2.2.1
def mAd (X : mC) : Nat → Nat := X.2.2.2.1
def mcF (X : mC) : Nat := X.2.2.2.2.1
def mcB (X : mC) : Nat := X.2.2.2.2.2.1
def mcN (X : mC) : Nat := X.2.2.2.2.2.2.1
def mcX (X : mC) : Nat → Int32 := X.2.2.2.2.2.2.2
def mFac (j : Nat) : Int32 := ([1, 1, 2, 6, 24, 120, 720, 5040, 40320] : List Int32).getD j 0
def mTr (X : mC) (v : MV) : Value := match v with
  | .inl x => .int x
  | .inr (.inl x) => .long x
  | .inr (.inr (c, _, i)) => if c = 20 then .ref (mcF X) else if c = 21 then .ref (mcB X) else .ref (mAd X i)
/-- the fields of class c: kind (0 int, 1 long, 2 boolean, 3 reference), and of a reference its class, length, and how far behind the object it lies -/
def mF (c : Nat) : List (Nat × Nat × Nat × Nat) := mFl.getD c []
def mFv (X : mC) (μ : Mem) (i k : Nat) (t : Nat × Nat × Nat × Nat) : Value := if t.1 = 3 then .ref (mAd X (i + t.2.2.2)) else if t.1 = 1 then .long (μ.2 i k) else .int (μ.1 i k)
def mObj (X : mC) (μ : Mem) (i c : Nat) : List Value := (mF c).mapIdx (fun k t => mFv X μ i k t)
def mCell (X : mC) (μ : Mem) (i : Nat) (q : Nat × Nat) : va_E :=
  if q.1 = 16 then .inl (mcA X 0, q.2, .inl (μ.1 i))
  else if q.1 = 17 then .inl (mcA X 1, q.2, .inr (.inl (μ.2 i)))
  else if q.1 = 18 then .inl (mcA X 2, q.2, .inl (μ.1 i))
  else if q.1 = 19 then .inl (mcA X 3, q.2, .inr (.inr (.inr (.inr (fun j => some (mAd X (i + 1 + 36 * j)))))))
  else .inr (q.1, mObj X μ i q.1)
def mW (X : mC) (μ : Mem) : va_W := mSh.mapIdx (fun i q => (mAd X i, mCell X μ i q))
def mA (X : mC) : Nat → Prop := fun q => ∃ i, i < mSh.length ∧ q = mAd X i
def mTy (X : mC) : List (ClassId × FieldType) := [(mcA X 0, .int), (mcA X 1, .long), (mcA X 2, .boolean), (mcA X 3, .object "WasteBrook$Image")]
def mOk (v : MV) : Prop := match v with
  | .inl _ => True
  | .inr (.inl _) => True
  | .inr (.inr (c, n, i)) => if c = 20 then n = 9 else if c = 21 then True else mSh[i]? = some (c, n)
def mSt (X : mC) (A : Nat → Prop) (U : State) (H : Heap) : Prop := va_Z "WasteBrook" "FACTORIALS" "[I" (.ref (mcF X)) A U H ∧ va_T .int (mcF X) 9 (fun j => .int (mFac j)) A U H ∧ va_X (mcB X) (mcN X) (mcX X) U H ∧ mcB X < H.size ∧ ¬ A (mcB X)
/-- the world of a memory in a heap -/
def mWd (X : mC) (μ : Mem) (H : Heap) : Prop := va_P (mcD X) vwCl (mW X μ) H
theorem mW_get (X : mC) (μ : Mem) {i : Nat} {q : Nat × Nat} (h : mSh[i]? = some q) : (mW X μ)[i]? = some (mAd X i, mCell X μ i q) := by
  unfold mW
  rw [List.getElem?_mapIdx, h]
  rfl
theorem mCell_off (X : mC) {μ μ' : Mem} {j : Nat} (h1 : μ'.1 j = μ.1 j) (h2 : μ'.2 j = μ.2 j) (q : Nat × Nat) : mCell X μ' j q = mCell X μ j q := by
  unfold mCell mObj mFv
  rw [h1, h2]
theorem mW_set (X : mC) {μ μ' : Mem} {i : Nat} {q : Nat × Nat} (h : mSh[i]? = some q) (h1 : ∀ j, j ≠ i → μ'.1 j = μ.1 j) (h2 : ∀ j, j ≠ i → μ'.2 j = μ.2 j) {e : va_E} (he : e = mCell X μ' i q) : (mW X μ).set i (mAd X i, e) = mW X μ' := by
  subst he
  apply List.ext_getElem?
  intro j
  unfold mW
  rw [List.getElem?_set, List.getElem?_mapIdx, List.getElem?_mapIdx, List.length_mapIdx]
  by_cases hj : i = j
  · subst hj
    have hl := (List.getElem?_eq_some_iff.mp h).1
    rw [if_pos rfl, if_pos hl, h]
    rfl
  · rw [if_neg hj]
    cases hq : mSh[j]? with
    | none => rfl
    | some r =>
      show some (mAd X j, mCell X μ j r) = some (mAd X j, mCell X μ' j r)
      rw [mCell_off X (h1 j (fun e => hj e.symm)) (h2 j (fun e => hj e.symm)) r]
theorem mD_any (X : mC) {A : Nat → Prop} {μ : Mem} (h : va_D A (mW X μ)) (μ' : Mem) : va_D A (mW X μ') := by
  have key : ∀ (k : Nat) (q : Nat × va_E), (mW X μ')[k]? = some q → ∃ e, (mW X μ)[k]? = some (q.1, e) := by
    intro k q hq
    unfold mW at hq ⊢
    rw [List.getElem?_mapIdx] at hq ⊢
    cases hr : mSh[k]? with
    | none => rw [hr] at hq; cases hq
    | some r =>
      rw [hr] at hq
      cases hq
      exact ⟨_, rfl⟩
  refine ⟨fun i j p q hi hj hpq => ?_, fun k q hk => ?_⟩
  · obtain ⟨e1, h1⟩ := key i p hi
    obtain ⟨e2, h2⟩ := key j q hj
    exact h.1 i j _ _ h1 h2 hpq
  · obtain ⟨e1, h1⟩ := key k q hk
    exact h.2 k (q.1, e1) h1
theorem mD_A (X : mC) {A : Nat → Prop} {μ : Mem} (h : va_D A (mW X μ)) : va_D (mA X) (mW X μ) := by
  refine ⟨h.1, fun k q hk => ?_⟩
  unfold mW at hk
  rw [List.getElem?_mapIdx] at hk
  cases hr : mSh[k]? with
  | none => rw [hr] at hk; cases hk
  | some r =>
    rw [hr] at hk
    cases hk
    exact ⟨k, (List.getElem?_eq_some_iff.mp hr).1, rfl⟩
theorem mSt_move {X : mC} {A B : Nat → Prop} {s U : State} {H H1 : Heap} (h : mSt X A s H) (hvm : s.vm.Alike U.vm) (hz : H.size ≤ H1.size) (hq : ∀ a : Nat, a < H.size → ¬ A a → H1[a]? = H[a]?) (hAB : ∀ q, B q → A q) : mSt X B U H1 := by
  obtain ⟨h1, h2, h3, h4, h5⟩ := h
  exact ⟨((h1.kept hq).moved hvm).narrow hAB, ((h2.kept hq).moved hvm).narrow hAB, (h3.kept (hq _ h4 h5)).moved hvm, Nat.lt_of_lt_of_le h4 hz, fun h => h5 (hAB _ h)⟩
/-! locals -/
def lget : List (Nat × MV) → Nat → Option MV
  | [], _ => none
  | (j, v) :: t, k => if j = k then some v else lget t k
def mIsL (v : MV) : Bool := match v with
  | .inr (.inl _) => true
  | _ => false
def ldel : List (Nat × MV) → Nat → List (Nat × MV)
  | [], _ => []
  | (j, v) :: t, k => if j = k then ldel t k else if mIsL v = true ∧ j + 1 = k then ldel t k else (j, v) :: ldel t k
def ldel2 : List (Nat × MV) → Nat → List (Nat × MV)
  | [], _ => []
  | (j, v) :: t, k => if j = k then ldel2 t k else if j = k + 1 then ldel2 t k else if mIsL v = true ∧ j + 1 = k then ldel2 t k else (j, v) :: ldel2 t k
def mLs (X : mC) (ls : List (Nat × MV)) : List (Nat × Value) := ls.map (fun q => (q.1, mTr X q.2))
theorem mTr_cat (X : mC) (v : MV) : (mTr X v).category = if mIsL v = true then 2 else 1 := by
  rcases v with x | x | ⟨c, n, i⟩
  · rfl
  · rfl
  · show Value.category (if c = 20 then _ else if c = 21 then _ else _) = _
    split
    · rfl
    · split <;> rfl
theorem lget_mem {ls : List (Nat × MV)} {k : Nat} {v : MV} (h : lget ls k = some v) : (k, v) ∈ ls := by
  induction ls with
  | nil => cases h
  | cons a t ih =>
    obtain ⟨j, w⟩ := a
    unfold lget at h
    split at h
    · rename_i e
      cases h
      subst e
      exact List.mem_cons_self
    · exact List.mem_cons_of_mem _ (ih h)
theorem mLs_at {X : mC} {lsA : Array Slot} {n : Nat} {ls : List (Nat × MV)} {k : Nat} {v : MV} (hl : lv_has lsA n (mLs X ls)) (h : lget ls k = some v) : lsA[k]? = some (.val (mTr X v)) :=
  hl.2.2 (k, mTr X v) (List.mem_map.mpr ⟨(k, v), lget_mem h, rfl⟩)
theorem ldel_mem {ls : List (Nat × MV)} {k : Nat} {q : Nat × MV} (h : q ∈ ldel ls k) : q ∈ ls := by
  induction ls with
  | nil => cases h
  | cons a t ih =>
    obtain ⟨j, w⟩ := a
    unfold ldel at h
    split at h
    · exact List.mem_cons_of_mem _ (ih h)
    · split at h
      · exact List.mem_cons_of_mem _ (ih h)
      · rcases List.mem_cons.mp h with h | h
        · rw [h]; exact List.mem_cons_self
        · exact List.mem_cons_of_mem _ (ih h)
theorem ldel2_mem {ls : List (Nat × MV)} {k : Nat} {q : Nat × MV} (h : q ∈ ldel2 ls k) : q ∈ ls := by
  induction ls with
  | nil => cases h
  | cons a t ih =>
    obtain ⟨j, w⟩ := a
    unfold ldel2 at h
    split at h
    · exact List.mem_cons_of_mem _ (ih h)
    · split at h
      · exact List.mem_cons_of_mem _ (ih h)
      · split at h
        · exact List.mem_cons_of_mem _ (ih h)
        · rcases List.mem_cons.mp h with h | h
          · rw [h]; exact List.mem_cons_self
          · exact List.mem_cons_of_mem _ (ih h)
theorem ldel_map (X : mC) (ls : List (Nat × MV)) (k : Nat) : (mLs X ls).filter (fun q => !(q.1 == k) && !(q.1 + 1 == k && q.2.category == 2)) = mLs X (ldel ls k) := by
  induction ls with
  | nil => rfl
  | cons a t ih =>
    obtain ⟨j, w⟩ := a
    show List.filter _ ((j, mTr X w) :: mLs X t) = mLs X (if j = k then ldel t k else if mIsL w = true ∧ j + 1 = k then ldel t k else (j, w) :: ldel t k)
    rw [List.filter_cons, ih]
    have hc := mTr_cat X w
    by_cases h1 : j = k
    · simp [h1]
    · by_cases h2 : mIsL w = true
      · rw [if_pos h2] at hc
        by_cases h3 : j + 1 = k
        · simp [h1, h2, h3, hc]
        · simp [h1, h2, h3, mLs]
      · rw [if_neg h2] at hc
        simp [h1, h2, hc, mLs]
theorem ldel2_map (X : mC) (ls : List (Nat × MV)) (k : Nat) : (mLs X ls).filter (fun q => !(q.1 == k) && (!(q.1 == k + 1) && !(q.1 + 1 == k && q.2.category == 2))) = mLs X (ldel2 ls k) := by
  induction ls with
  | nil => rfl
  | cons a t ih =>
    obtain ⟨j, w⟩ := a
    show List.filter _ ((j, mTr X w) :: mLs X t) = mLs X (if j = k then ldel2 t k else if j = k + 1 then ldel2 t k else if mIsL w = true ∧ j + 1 = k then ldel2 t k else (j, w) :: ldel2 t k)
    rw [List.filter_cons, ih]
    have hc := mTr_cat X w
    by_cases h1 : j = k
    · simp [h1]
    · by_cases h4 : j = k + 1
      · simp [h4]
      · by_cases h2 : mIsL w = true
        · rw [if_pos h2] at hc
          by_cases h3 : j + 1 = k
          · simp [h1, h2, h3, h4, hc]
          · simp [h1, h2, h3, h4, mLs]
        · rw [if_neg h2] at hc
          simp [h1, h2, h4, hc, mLs]
def mArg : Nat → List MV → List (Nat × MV)
  | _, [] => []
  | i, v :: vs => (i, v) :: mArg (if mIsL v = true then i + 2 else i + 1) vs
theorem mArg_map (X : mC) (vs : List MV) : ∀ i, lv_args i (vs.map (mTr X)) = mLs X (mArg i vs) := by
  induction vs with
  | nil => intro i; rfl
  | cons v t ih =>
    intro i
    show (i, mTr X v) :: lv_args (if (mTr X v).category = 2 then i + 2 else i + 1) (t.map (mTr X)) = (i, mTr X v) :: mLs X (mArg (if mIsL v = true then i + 2 else i + 1) t)
    rw [ih, mTr_cat]
    by_cases h : mIsL v = true
    · simp [h]
    · simp [h]
theorem mArg_mem {vs : List MV} : ∀ {i : Nat} {q : Nat × MV}, q ∈ mArg i vs → q.2 ∈ vs := by
  induction vs with
  | nil => intro i q h; cases h
  | cons v t ih =>
    intro i q h
    rcases List.mem_cons.mp h with h | h
    · rw [h]; exact List.mem_cons_self
    · exact List.mem_cons_of_mem _ (ih h)
def mCat : List MV → Nat
  | [] => 0
  | v :: t => (if mIsL v = true then 2 else 1) + mCat t
theorem mCat_sum (X : mC) (st : List MV) : ((st.map (mTr X)).map fun v => v.category).sum = mCat st := by
  induction st with
  | nil => rfl
  | cons v t ih =>
    rw [List.map_cons, List.map_cons, List.sum_cons, ih, mTr_cat]
    rfl

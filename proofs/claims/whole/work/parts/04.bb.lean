def mI (M : Nat) : MethodName × ByteArray × Nat × Option FieldType × Bool := mT.getD M (⟨"", "", ""⟩, ⟨#[]⟩, 0, none, false)
def mY (M : Nat) : MethodName := (mI M).1
def mCd (M : Nat) : ByteArray := (mI M).2.1
def mMx (M : Nat) : Nat := (mI M).2.2.1
def mRt (M : Nat) : Option FieldType := (mI M).2.2.2.1
def mSc (M : Nat) : Bool := (mI M).2.2.2.2
def mTb : List Cond := lw_tbl.filter goodWord
def mWs (M : Nat) : List Cond := Cond.code (mY M) (mCd M) (mMx M) (mRt M) :: mTb
def mRm (h : Nat) : Room := { frames := h + 1, cells := 0, slots := 0, locals := 64 * (h + 1) }
def mB (X : mC) (u : Mem) (t : State) : Prop := mWd X u t.heap ∧ va_K (mcD X) vwCl (mTy X) t
def mQ (X : mC) (M : Nat) (K : MV → Mem → Prop) : Array Value → State → Outcome → State → Prop :=
  match mRt M with
  | none => va_Qv (fun u => K (.inl 0) u) (mB X) (mA X)
  | some .long => va_Ql (fun r u => K (.inr (.inl r)) u) (mB X) (mA X)
  | some _ => va_Qi (fun r u => K (.inl r) u) (mB X) (mA X)
def mPre (X : mC) (μ : Mem) (U : State) : Prop := mWd X μ U.heap ∧ va_K (mcD X) vwCl (mTy X) U ∧ va_D (mA X) (mW X μ) ∧ mSt X (mA X) U U.heap
/-- method M, called with these values in this memory, returns with K -/
def mMet (X : mC) (h M : Nat) (a : List MV) (μ : Mem) (K : MV → Mem → Prop) : Prop :=
  (∀ v ∈ a, mOk v) → Met (mcL X) (mY M) (mWs M) (mRm h) (va_Pc (a.map (mTr X)) (mPre X μ)) (mQ X M K) 0 0 (mA X)
def mFx (X : mC) (M h : Nat) (A : Nat → Prop) (p : Program) (R : Room) (s : State) (m : MethodId) (args : Array Value) (c : Code) (cells slots : Nat) : Prop :=
  p.tables.exec = Jvm.exec ∧ c.code = mCd M ∧ c.maxLocals = mMx M ∧ s.vm.findClass (mY M).cls = some m.cls ∧ (∀ w ∈ mTb, w.before args s = true) ∧ (h + 2 ≤ R.frames ∧ 64 * (h + 2) ≤ R.locals ∧ cells ≤ R.cells ∧ slots ≤ R.slots) ∧ mSt X A s s.heap ∧ va_K (mcD X) vwCl (mTy X) s ∧ ∀ q, mA X q → A q
def mRi (M pc : Nat) (v : MV) (stv : List Value) : Prop :=
  (∃ (x : Int32) (ty : FieldType), v = .inl x ∧ stv = [.int x] ∧ decode (mCd M) pc = .ok (.ireturn, 1) ∧ mRt M = some ty ∧ ty ≠ .long ∧ narrow ty (.int x) = .int x)
  ∨ (∃ x : Int64, v = .inr (.inl x) ∧ stv = [.long x] ∧ decode (mCd M) pc = .ok (.lreturn, 1) ∧ mRt M = some .long)
  ∨ (v = .inl 0 ∧ stv = [] ∧ decode (mCd M) pc = .ok (.return_, 1) ∧ mRt M = none)
def mRh (X : mC) (M : Nat) (K : MV → Mem → Prop) (A : Nat → Prop) (p : Program) (e : Env) (R : Room) (s : State) (m : MethodId) (args : Array Value) (below : List Frame) (meth : Method) (c : Code) (cells slots : Nat) (Q : State → Prop) : Prop :=
  ∀ (H : Heap) (locs : List Loc) (μ : Mem) (v : MV) (pc : Nat) (lsA : Array Slot) (stv : List Value), mWd X μ H → va_S A s.heap H locs → K v μ → mRi M pc v stv → W p (mcL X) e R s m args below meth c H locs cells slots Q (F0 m pc lsA stv)
/-- the machine stands at place pc of method M with these locals, this stack, this memory, and comes to its end with K -/
def mAt (X : mC) (M h : Nat) (K : MV → Mem → Prop) (pc : Nat) (ls : List (Nat × MV)) (st : List MV) (μ : Mem) : Prop :=
  ∀ (p : Program) (e : Env) (R : Room) (s : State) (m : MethodId) (args : Array Value) (below : List Frame) (meth : Method) (c : Code) (cells slots : Nat) (Q : State → Prop) (A : Nat → Prop) (H : Heap) (locs : List Loc) (lsA : Array Slot),
    mFx X M h A p R s m args c cells slots → mRh X M K A p e R s m args below meth c cells slots Q →
    mWd X μ H → va_D A (mW X μ) → va_S A s.heap H locs → (∀ q ∈ ls, mOk q.2) → (∀ v ∈ st, mOk v) → lv_has lsA (mMx M) (mLs X ls) →
    W p (mcL X) e R s m args below meth c H locs cells slots Q (F0 m pc lsA (st.map (mTr X)))
abbrev mP : Type := Nat → List MV → Mem → Option MV
abbrev mJ : Type := Nat → List (Nat × MV) → List MV → Mem → Prop
def upI (μ : Mem) (i j : Nat) (x : Int32) : Mem := (va_up μ.1 i (upd (μ.1 i) j x), μ.2)
def upL (μ : Mem) (i j : Nat) (x : Int64) : Mem := (μ.1, va_up μ.2 i (vp_updL (μ.2 i) j x))
def cpI (μ : Mem) (i : Nat) (f : Nat → Int32) : Mem := (va_up μ.1 i f, μ.2)
def swt (x : Int32) : Nat → List Nat → (Nat → Prop) → Prop
  | _, [], _ => True
  | lo, t :: ts, J => (x = nI lo → J t) ∧ swt x (lo + 1) ts J
def lkw (x : Int32) : List Nat → (Nat → Prop) → Prop → Prop
  | k :: t :: ts, J, d => (x = nI k → J t) ∧ (¬ x = nI k → lkw x ts J d)
  | _, _, d => d
/-- the class of the first of the values, as a receiver -/
def mRcv (a : List MV) : Nat := match a with
  | .inr (.inr (c, _, _)) :: _ => c
  | _ => 98
/-- a call: by its summary, or by its contract -/
def mCall (X : mC) (P : mP) (h M : Nat) (a : List MV) (μ : Mem) (K : MV → Mem → Prop) : Prop :=
  match P M a μ with
  | some r => K r μ
  | none => mMet X h M a μ K
def bb (X : mC) (P : mP) (M h : Nat) (K : MV → Mem → Prop) (J : mJ) : List mE → List (Nat × MV) → List MV → Mem → Prop
  | [], _, _, _ => False
  | (q, i, _, a, b, c, v, ts) :: cs, ls, st, μ =>
    match i with
    | .iconst _ => bb X P M h K J cs ls (v :: st) μ
    | .bipush _ => bb X P M h K J cs ls (v :: st) μ
    | .sipush _ => bb X P M h K J cs ls (v :: st) μ
    | .ldc _ => match v with
      | .inl x => bb X P M h K J cs ls (.inl x :: st) μ
      | _ => mAt X M h K q ls st μ
    | .ldc_w _ => match v with
      | .inl x => bb X P M h K J cs ls (.inl x :: st) μ
      | _ => mAt X M h K q ls st μ
    | .lconst _ => bb X P M h K J cs ls (v :: st) μ
    | .ldc2_w _ => bb X P M h K J cs ls (v :: st) μ
    | .getstatic _ => bb X P M h K J cs ls (v :: st) μ
    | .iload _ | .iload_n _ => match lget ls a with
      | some (.inl x) => bb X P M h K J cs ls (.inl x :: st) μ
      | _ => False
    | .lload _ | .lload_n _ => match lget ls a with
      | some (.inr (.inl x)) => bb X P M h K J cs ls (.inr (.inl x) :: st) μ
      | _ => False
    | .aload _ | .aload_n _ => match lget ls a with
      | some (.inr (.inr x)) => bb X P M h K J cs ls (.inr (.inr x) :: st) μ
      | _ => False
    | .istore _ | .istore_n _ => match st with
      | .inl x :: st => ∀ y, y = x → bb X P M h K J cs ((a, .inl y) :: ldel ls a) st μ
      | _ => False
    | .lstore _ | .lstore_n _ => match st with
      | .inr (.inl x) :: st => ∀ y, y = x → bb X P M h K J cs ((a, .inr (.inl y)) :: ldel2 ls a) st μ
      | _ => False
    | .astore _ | .astore_n _ => match st with
      | .inr (.inr x) :: st => bb X P M h K J cs ((a, .inr (.inr x)) :: ldel ls a) st μ
      | _ => False
    | .iinc _ _ => match lget ls a, v with
      | some (.inl x), .inl d => ∀ y, y = x + d → bb X P M h K J cs ((a, .inl y) :: ldel ls a) st μ
      | _, _ => False
    | .getfield _ => match st with
      | .inr (.inr (c0, n0, i0)) :: st => if c0 = a then
          match c, v with
          | 3, .inr (.inr (c1, n1, off)) => bb X P M h K J cs ls (.inr (.inr (c1, n1, i0 + off)) :: st) μ
          | 1, _ => bb X P M h K J cs ls (.inr (.inl (μ.2 i0 b)) :: st) μ
          | 0, _ => bb X P M h K J cs ls (.inl (μ.1 i0 b) :: st) μ
          | 2, _ => bb X P M h K J cs ls (.inl (μ.1 i0 b) :: st) μ
          | _, _ => False
        else False
      | _ => False
    | .putfield _ => match st with
      | .inl x :: .inr (.inr (c0, n0, i0)) :: st => if c0 = a then
          match c with
          | 0 => bb X P M h K J cs ls st (upI μ i0 b x)
          | 2 => (x = 0 ∨ x = 1) ∧ bb X P M h K J cs ls st (upI μ i0 b x)
          | _ => False
        else False
      | .inr (.inl x) :: .inr (.inr (c0, n0, i0)) :: st => if c0 = a then
          match c with
          | 1 => bb X P M h K J cs ls st (upL μ i0 b x)
          | _ => False
        else False
      | _ => False
    | .iaload => match st with
      | .inl x :: .inr (.inr (c0, n0, i0)) :: st =>
          if c0 = 16 then ∃ j, x = nI j ∧ j < n0 ∧ bb X P M h K J cs ls (.inl (μ.1 i0 j) :: st) μ
          else if c0 = 20 then ∃ j, x = nI j ∧ j < 9 ∧ bb X P M h K J cs ls (.inl (mFac j) :: st) μ
          else if c0 = 21 then ∃ j, x = nI j ∧ j < mcN X ∧ j < 2 ^ 31 ∧ bb X P M h K J cs ls (.inl (mcX X j) :: st) μ
          else False
      | _ => False
    | .baload => match st with
      | .inl x :: .inr (.inr (c0, n0, i0)) :: st =>
          if c0 = 18 then ∃ j, x = nI j ∧ j < n0 ∧ bb X P M h K J cs ls (.inl (μ.1 i0 j) :: st) μ
          else False
      | _ => False
    | .laload => match st with
      | .inl x :: .inr (.inr (c0, n0, i0)) :: st =>
          if c0 = 17 then ∃ j, x = nI j ∧ j < n0 ∧ bb X P M h K J cs ls (.inr (.inl (μ.2 i0 j)) :: st) μ
          else False
      | _ => False
    | .aaload => match st with
      | .inl x :: .inr (.inr (c0, n0, i0)) :: st =>
          if c0 = 19 then ∃ j, x = nI j ∧ j < n0 ∧ bb X P M h K J cs ls (.inr (.inr (1, 0, i0 + 1 + 36 * j)) :: st) μ
          else False
      | _ => False
    | .iastore => match st with
      | .inl y :: .inl x :: .inr (.inr (c0, n0, i0)) :: st =>
          if c0 = 16 then ∃ j, x = nI j ∧ j < n0 ∧ bb X P M h K J cs ls st (upI μ i0 j y)
          else False
      | _ => False
    | .bastore => match st with
      | .inl y :: .inl x :: .inr (.inr (c0, n0, i0)) :: st =>
          if c0 = 18 then ∃ j, x = nI j ∧ j < n0 ∧ (y = 0 ∨ y = 1) ∧ bb X P M h K J cs ls st (upI μ i0 j y)
          else False
      | _ => False
    | .lastore => match st with
      | .inr (.inl y) :: .inl x :: .inr (.inr (c0, n0, i0)) :: st =>
          if c0 = 17 then ∃ j, x = nI j ∧ j < n0 ∧ bb X P M h K J cs ls st (upL μ i0 j y)
          else False
      | _ => False
    | .arraylength => match st with
      | .inr (.inr (c0, n0, i0)) :: st =>
          if c0 = 16 then bb X P M h K J cs ls (.inl (nI n0) :: st) μ
          else if c0 = 21 then bb X P M h K J cs ls (.inl (nI (mcN X)) :: st) μ
          else False
      | _ => False
    | .dup => match st with
      | w :: st => if mIsL w = false then bb X P M h K J cs ls (w :: w :: st) μ else False
      | _ => False
    | .dup2 => match st with
      | w :: z :: st => if mIsL w = false ∧ mIsL z = false then bb X P M h K J cs ls (w :: z :: w :: z :: st) μ else False
      | _ => False
    | .pop => match st with
      | w :: st => if mIsL w = false then bb X P M h K J cs ls st μ else False
      | _ => False
    | .iadd => match st with
      | .inl y :: .inl x :: st => bb X P M h K J cs ls (.inl (x + y) :: st) μ
      | _ => False
    | .isub => match st with
      | .inl y :: .inl x :: st => bb X P M h K J cs ls (.inl (x - y) :: st) μ
      | _ => False
    | .imul => match st with
      | .inl y :: .inl x :: st => bb X P M h K J cs ls (.inl (x * y) :: st) μ
      | _ => False
    | .iand => match st with
      | .inl y :: .inl x :: st => bb X P M h K J cs ls (.inl (x &&& y) :: st) μ
      | _ => False
    | .ior => match st with
      | .inl y :: .inl x :: st => bb X P M h K J cs ls (.inl (x ||| y) :: st) μ
      | _ => False
    | .ixor => match st with
      | .inl y :: .inl x :: st => bb X P M h K J cs ls (.inl (x ^^^ y) :: st) μ
      | _ => False
    | .ishl => match st with
      | .inl y :: .inl x :: st => bb X P M h K J cs ls (.inl (x <<< (y &&& 31)) :: st) μ
      | _ => False
    | .ishr => match st with
      | .inl y :: .inl x :: st => bb X P M h K J cs ls (.inl (x >>> (y &&& 31)) :: st) μ
      | _ => False
    | .iushr => match st with
      | .inl y :: .inl x :: st => bb X P M h K J cs ls (.inl (x.toUInt32 >>> (y.toUInt32 &&& Int32.toUInt32 31)).toInt32 :: st) μ
      | _ => False
    | .idiv => match st with
      | .inl y :: .inl x :: st => ¬ y = 0 ∧ bb X P M h K J cs ls (.inl (x / y) :: st) μ
      | _ => False
    | .irem => match st with
      | .inl y :: .inl x :: st => ¬ y = 0 ∧ bb X P M h K J cs ls (.inl (x - x / y * y) :: st) μ
      | _ => False
    | .ladd => match st with
      | .inr (.inl y) :: .inr (.inl x) :: st => bb X P M h K J cs ls (.inr (.inl (x + y)) :: st) μ
      | _ => False
    | .lsub => match st with
      | .inr (.inl y) :: .inr (.inl x) :: st => bb X P M h K J cs ls (.inr (.inl (x - y)) :: st) μ
      | _ => False
    | .lmul => match st with
      | .inr (.inl y) :: .inr (.inl x) :: st => bb X P M h K J cs ls (.inr (.inl (x * y)) :: st) μ
      | _ => False
    | .ldiv => match st with
      | .inr (.inl y) :: .inr (.inl x) :: st => ¬ y = 0 ∧ bb X P M h K J cs ls (.inr (.inl (x / y)) :: st) μ
      | _ => False
    | .lrem => match st with
      | .inr (.inl y) :: .inr (.inl x) :: st => ¬ y = 0 ∧ bb X P M h K J cs ls (.inr (.inl (x - x / y * y)) :: st) μ
      | _ => False
    | .lneg => match st with
      | .inr (.inl x) :: st => bb X P M h K J cs ls (.inr (.inl (-x)) :: st) μ
      | _ => False
    | .lcmp => match st with
      | .inr (.inl y) :: .inr (.inl x) :: st => bb X P M h K J cs ls (.inl (lg_cmp x y) :: st) μ
      | _ => False
    | .i2l => match st with
      | .inl x :: st => bb X P M h K J cs ls (.inr (.inl x.toInt64) :: st) μ
      | _ => False
    | .l2i => match st with
      | .inr (.inl x) :: st => bb X P M h K J cs ls (.inl x.toInt32 :: st) μ
      | _ => False
    | .ifCond cd _ => match st with
      | .inl x :: st => match cd with
        | .eq => (x = 0 → J a ls st μ) ∧ (¬ x = 0 → bb X P M h K J cs ls st μ)
        | .ne => (¬ x = 0 → J a ls st μ) ∧ (x = 0 → bb X P M h K J cs ls st μ)
        | .lt => (x < 0 → J a ls st μ) ∧ (¬ x < 0 → bb X P M h K J cs ls st μ)
        | .ge => (0 ≤ x → J a ls st μ) ∧ (¬ 0 ≤ x → bb X P M h K J cs ls st μ)
        | .gt => (0 < x → J a ls st μ) ∧ (¬ 0 < x → bb X P M h K J cs ls st μ)
        | .le => (x ≤ 0 → J a ls st μ) ∧ (¬ x ≤ 0 → bb X P M h K J cs ls st μ)
      | _ => False
    | .if_icmp cd _ => match st with
      | .inl y :: .inl x :: st => match cd with
        | .eq => (x = y → J a ls st μ) ∧ (¬ x = y → bb X P M h K J cs ls st μ)
        | .ne => (¬ x = y → J a ls st μ) ∧ (x = y → bb X P M h K J cs ls st μ)
        | .lt => (x < y → J a ls st μ) ∧ (¬ x < y → bb X P M h K J cs ls st μ)
        | .ge => (y ≤ x → J a ls st μ) ∧ (¬ y ≤ x → bb X P M h K J cs ls st μ)
        | .gt => (y < x → J a ls st μ) ∧ (¬ y < x → bb X P M h K J cs ls st μ)
        | .le => (x ≤ y → J a ls st μ) ∧ (¬ x ≤ y → bb X P M h K J cs ls st μ)
      | _ => False
    | .goto _ => J a ls st μ
    | .tableswitch _ lo hi _ => match st with
      | .inl x :: st => ((x.toInt < lo ∨ hi < x.toInt) → J a ls st μ) ∧ swt x b ts (fun t => J t ls st μ)
      | _ => False
    | .invokevirtual _ => if mCat (st.drop b) ≤ 8 ∧ b ≤ st.length ∧ mRcv (st.take b).reverse = ts.getD 1 99 then
        mCall X P h a (st.take b).reverse μ (fun r μ' => bb X P M h K J cs ls (if c = 0 then st.drop b else r :: st.drop b) μ')
        else False
    | .invokestatic _ => if mCat (st.drop b) ≤ 8 ∧ b ≤ st.length then
        match c with
        | 9 => match st with
          | .inl n :: .inl dp :: .inr (.inr (c1, n1, i1)) :: .inl sp :: .inr (.inr (c0, n0, i0)) :: st =>
            if c0 = 16 ∧ c1 = 16 then
              ∃ sj dj nj, sp = nI sj ∧ dp = nI dj ∧ n = nI nj ∧ sj + nj ≤ n0 ∧ dj + nj ≤ n1 ∧ bb X P M h K J cs ls st (cpI μ i1 (va_cpy (μ.1 i0) (μ.1 i1) sj dj nj))
            else False
          | _ => False
        | 8 => mAt X M h K q ls st μ
        | 10 => match st with
          | .inl y :: .inl x :: st => bb X P M h K J cs ls (.inl (if y < x then y else x) :: st) μ
          | _ => False
        | 11 => match st with
          | .inl y :: .inl x :: st => bb X P M h K J cs ls (.inl (if x < y then y else x) :: st) μ
          | _ => False
        | 12 => match st with
          | .inr (.inl y) :: .inr (.inl x) :: st => bb X P M h K J cs ls (.inr (.inl (if y < x then x else y)) :: st) μ
          | _ => False
        | 13 => match st with
          | .inr (.inl x) :: st => bb X P M h K J cs ls (.inr (.inl (if 0 < x then x else -x)) :: st) μ
          | _ => False
        | _ => mCall X P h a (st.take b).reverse μ (fun r μ' => bb X P M h K J cs ls (if c = 0 then st.drop b else r :: st.drop b) μ')
        else False
    | .ireturn => match st with
      | [.inl x] => (a = 0 ∨ (x = 0 ∨ x = 1)) ∧ K (.inl x) μ
      | _ => False
    | .lreturn => match st with
      | [.inr (.inl x)] => K (.inr (.inl x)) μ
      | _ => False
    | .return_ => match st with
      | [] => K (.inl 0) μ
      | _ => False
    | .lookupswitch _ _ => match st with
      | .inl x :: st => lkw x ts (fun t => J t ls st μ) (J a ls st μ)
      | _ => False
    | _ => mAt X M h K q ls st μ
def dropTo (t : Nat) : List mE → List mE
  | [] => []
  | e :: cs => if e.1 = t then e :: cs else dropTo t cs
/-- from place t on, through at most n jumps; at the places of S, and where n is used up, the machine itself is left to be asked -/
def vc (X : mC) (P : mP) (M h : Nat) (K : MV → Mem → Prop) (F : List mE) (S : List Nat) : Nat → mJ
  | 0, t, ls, st, μ => mAt X M h K t ls st μ
  | n + 1, t, ls, st, μ => if t ∈ S then mAt X M h K t ls st μ else bb X P M h K (vc X P M h K F S n) (dropTo t F) ls st μ

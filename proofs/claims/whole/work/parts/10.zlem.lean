section MML
variable {X : mC} {P : mP} {M h : Nat} {K : MV → Mem → Prop} {J : mJ} {q len a b c n0 i0 : Nat} {v : MV} {ts : List Nat} {cs : List mE} {ls : List (Nat × MV)} {st : List MV} {μ : Mem}
def ldI (o : Option MV) (k : Int32 → Prop) : Prop := match o with
  | some (.inl x) => k x
  | _ => False
def ldL (o : Option MV) (k : Int64 → Prop) : Prop := match o with
  | some (.inr (.inl x)) => k x
  | _ => False
def ldA (o : Option MV) (k : Nat × Nat × Nat → Prop) : Prop := match o with
  | some (.inr (.inr x)) => k x
  | _ => False
theorem ldI_some {x : Int32} {k : Int32 → Prop} : ldI (some (.inl x)) k = k x := rfl
theorem ldL_some {x : Int64} {k : Int64 → Prop} : ldL (some (.inr (.inl x))) k = k x := rfl
theorem ldA_some {x : Nat × Nat × Nat} {k : Nat × Nat × Nat → Prop} : ldA (some (.inr (.inr x))) k = k x := rfl
theorem lget_hit {k : Nat} {w : MV} {t : List (Nat × MV)} : lget ((k, w) :: t) k = some w := by simp only [lget, if_pos]
theorem lget_skip {j k : Nat} {w : MV} {t : List (Nat × MV)} (h : (j = k) = False) : lget ((j, w) :: t) k = lget t k := by simp only [lget, h, if_false]
theorem ldel_nil {k : Nat} : ldel [] k = [] := rfl
theorem ldel_hit {k : Nat} {w : MV} {t : List (Nat × MV)} : ldel ((k, w) :: t) k = ldel t k := by simp only [ldel, if_pos]
theorem ldel_skipI {j k : Nat} {x : Int32} {t : List (Nat × MV)} (h : (j = k) = False) : ldel ((j, .inl x) :: t) k = (j, .inl x) :: ldel t k := by simp [ldel, h, mIsL]
theorem ldel_skipA {j k : Nat} {x : Nat × Nat × Nat} {t : List (Nat × MV)} (h : (j = k) = False) : ldel ((j, .inr (.inr x)) :: t) k = (j, .inr (.inr x)) :: ldel t k := by simp [ldel, h, mIsL]
theorem ldel_skipL {j k : Nat} {x : Int64} {t : List (Nat × MV)} (h : (j = k) = False) (h2 : (j + 1 = k) = False) : ldel ((j, .inr (.inl x)) :: t) k = (j, .inr (.inl x)) :: ldel t k := by simp [ldel, h, h2, mIsL]
theorem ldel2_nil {k : Nat} : ldel2 [] k = [] := rfl
theorem ldel2_hit {k : Nat} {w : MV} {t : List (Nat × MV)} : ldel2 ((k, w) :: t) k = ldel2 t k := by simp only [ldel2, if_pos]
theorem ldel2_hit2 {j k : Nat} {w : MV} {t : List (Nat × MV)} (h : (j = k + 1) = True) : ldel2 ((j, w) :: t) k = ldel2 t k := by
  have h : j = k + 1 := of_eq_true h
  subst h
  simp [ldel2]
theorem ldel2_skipI {j k : Nat} {x : Int32} {t : List (Nat × MV)} (h : (j = k) = False) (h3 : (j = k + 1) = False) : ldel2 ((j, .inl x) :: t) k = (j, .inl x) :: ldel2 t k := by simp [ldel2, h, h3, mIsL]
theorem ldel2_skipA {j k : Nat} {x : Nat × Nat × Nat} {t : List (Nat × MV)} (h : (j = k) = False) (h3 : (j = k + 1) = False) : ldel2 ((j, .inr (.inr x)) :: t) k = (j, .inr (.inr x)) :: ldel2 t k := by simp [ldel2, h, h3, mIsL]
theorem ldel2_skipL {j k : Nat} {x : Int64} {t : List (Nat × MV)} (h : (j = k) = False) (h2 : (j + 1 = k) = False) (h3 : (j = k + 1) = False) : ldel2 ((j, .inr (.inl x)) :: t) k = (j, .inr (.inl x)) :: ldel2 t k := by simp [ldel2, h, h2, h3, mIsL]
theorem b_iconst {n : Int} : bb X P M h K J ((q, .iconst n, len, a, b, c, v, ts) :: cs) ls st μ = bb X P M h K J cs ls (v :: st) μ := rfl
theorem b_bipush {n : Int} : bb X P M h K J ((q, .bipush n, len, a, b, c, v, ts) :: cs) ls st μ = bb X P M h K J cs ls (v :: st) μ := rfl
theorem b_sipush {n : Int} : bb X P M h K J ((q, .sipush n, len, a, b, c, v, ts) :: cs) ls st μ = bb X P M h K J cs ls (v :: st) μ := rfl
theorem b_lconst {n : Fin 2} : bb X P M h K J ((q, .lconst n, len, a, b, c, v, ts) :: cs) ls st μ = bb X P M h K J cs ls (v :: st) μ := rfl
theorem b_ldc2_w {n : Nat} : bb X P M h K J ((q, .ldc2_w n, len, a, b, c, v, ts) :: cs) ls st μ = bb X P M h K J cs ls (v :: st) μ := rfl
theorem b_getstatic {n : Nat} : bb X P M h K J ((q, .getstatic n, len, a, b, c, v, ts) :: cs) ls st μ = bb X P M h K J cs ls (v :: st) μ := rfl
theorem b_ldc_w {n : Nat} {x : Int32} : bb X P M h K J ((q, .ldc_w n, len, a, b, c, .inl x, ts) :: cs) ls st μ = bb X P M h K J cs ls (.inl x :: st) μ := rfl
theorem b_ldc {n : Nat} {x : Int32} : bb X P M h K J ((q, .ldc n, len, a, b, c, .inl x, ts) :: cs) ls st μ = bb X P M h K J cs ls (.inl x :: st) μ := rfl
theorem b_iload {n : Nat} : bb X P M h K J ((q, .iload n, len, a, b, c, v, ts) :: cs) ls st μ = ldI (lget ls a) (fun x => bb X P M h K J cs ls (.inl x :: st) μ) := rfl
theorem b_iload_n {n : Fin 4} : bb X P M h K J ((q, .iload_n n, len, a, b, c, v, ts) :: cs) ls st μ = ldI (lget ls a) (fun x => bb X P M h K J cs ls (.inl x :: st) μ) := rfl
theorem b_lload {n : Nat} : bb X P M h K J ((q, .lload n, len, a, b, c, v, ts) :: cs) ls st μ = ldL (lget ls a) (fun x => bb X P M h K J cs ls (.inr (.inl x) :: st) μ) := rfl
theorem b_lload_n {n : Fin 4} : bb X P M h K J ((q, .lload_n n, len, a, b, c, v, ts) :: cs) ls st μ = ldL (lget ls a) (fun x => bb X P M h K J cs ls (.inr (.inl x) :: st) μ) := rfl
theorem b_aload {n : Nat} : bb X P M h K J ((q, .aload n, len, a, b, c, v, ts) :: cs) ls st μ = ldA (lget ls a) (fun x => bb X P M h K J cs ls (.inr (.inr x) :: st) μ) := rfl
theorem b_aload_n {n : Fin 4} : bb X P M h K J ((q, .aload_n n, len, a, b, c, v, ts) :: cs) ls st μ = ldA (lget ls a) (fun x => bb X P M h K J cs ls (.inr (.inr x) :: st) μ) := rfl
theorem b_istore {n : Nat} {x : Int32} : bb X P M h K J ((q, .istore n, len, a, b, c, v, ts) :: cs) ls (.inl x :: st) μ = ∀ y, y = x → bb X P M h K J cs ((a, .inl y) :: ldel ls a) st μ := rfl
theorem b_lstore {n : Nat} {x : Int64} : bb X P M h K J ((q, .lstore n, len, a, b, c, v, ts) :: cs) ls (.inr (.inl x) :: st) μ = ∀ y, y = x → bb X P M h K J cs ((a, .inr (.inl y)) :: ldel2 ls a) st μ := rfl
theorem b_astore {n : Nat} {x : Nat × Nat × Nat} : bb X P M h K J ((q, .astore n, len, a, b, c, v, ts) :: cs) ls (.inr (.inr x) :: st) μ = bb X P M h K J cs ((a, .inr (.inr x)) :: ldel ls a) st μ := rfl
theorem b_istore_n {n : Fin 4} {x : Int32} : bb X P M h K J ((q, .istore_n n, len, a, b, c, v, ts) :: cs) ls (.inl x :: st) μ = ∀ y, y = x → bb X P M h K J cs ((a, .inl y) :: ldel ls a) st μ := rfl
theorem b_lstore_n {n : Fin 4} {x : Int64} : bb X P M h K J ((q, .lstore_n n, len, a, b, c, v, ts) :: cs) ls (.inr (.inl x) :: st) μ = ∀ y, y = x → bb X P M h K J cs ((a, .inr (.inl y)) :: ldel2 ls a) st μ := rfl
theorem b_astore_n {n : Fin 4} {x : Nat × Nat × Nat} : bb X P M h K J ((q, .astore_n n, len, a, b, c, v, ts) :: cs) ls (.inr (.inr x) :: st) μ = bb X P M h K J cs ((a, .inr (.inr x)) :: ldel ls a) st μ := rfl
theorem b_iinc {n : Nat} {k : Int} {d : Int32} : bb X P M h K J ((q, .iinc n k, len, a, b, c, .inl d, ts) :: cs) ls st μ = ldI (lget ls a) (fun x => ∀ y, y = x + d → bb X P M h K J cs ((a, .inl y) :: ldel ls a) st μ) := by show (match lget ls a, (.inl d : MV) with | some (.inl x), .inl d => (∀ y, y = x + d → bb X P M h K J cs ((a, .inl y) :: ldel ls a) st μ) | _, _ => False) = _; rcases lget ls a with _ | (x | x) <;> rfl
theorem b_getI {n : Nat} : bb X P M h K J ((q, .getfield n, len, a, b, 0, v, ts) :: cs) ls (.inr (.inr (a, n0, i0)) :: st) μ = bb X P M h K J cs ls (.inl (μ.1 i0 b) :: st) μ := if_pos rfl
theorem b_getZ {n : Nat} : bb X P M h K J ((q, .getfield n, len, a, b, 2, v, ts) :: cs) ls (.inr (.inr (a, n0, i0)) :: st) μ = bb X P M h K J cs ls (.inl (μ.1 i0 b) :: st) μ := if_pos rfl
theorem b_getL {n : Nat} : bb X P M h K J ((q, .getfield n, len, a, b, 1, v, ts) :: cs) ls (.inr (.inr (a, n0, i0)) :: st) μ = bb X P M h K J cs ls (.inr (.inl (μ.2 i0 b)) :: st) μ := if_pos rfl
theorem b_getA {n c1 n1 off : Nat} : bb X P M h K J ((q, .getfield n, len, a, b, 3, .inr (.inr (c1, n1, off)), ts) :: cs) ls (.inr (.inr (a, n0, i0)) :: st) μ = bb X P M h K J cs ls (.inr (.inr (c1, n1, i0 + off)) :: st) μ := if_pos rfl
theorem b_putI {n : Nat} {x : Int32} : bb X P M h K J ((q, .putfield n, len, a, b, 0, v, ts) :: cs) ls (.inl x :: .inr (.inr (a, n0, i0)) :: st) μ = bb X P M h K J cs ls st (upI μ i0 b x) := if_pos rfl
theorem b_putZ {n : Nat} {x : Int32} : bb X P M h K J ((q, .putfield n, len, a, b, 2, v, ts) :: cs) ls (.inl x :: .inr (.inr (a, n0, i0)) :: st) μ = ((x = 0 ∨ x = 1) ∧ bb X P M h K J cs ls st (upI μ i0 b x)) := if_pos rfl
theorem b_putL {n : Nat} {x : Int64} : bb X P M h K J ((q, .putfield n, len, a, b, 1, v, ts) :: cs) ls (.inr (.inl x) :: .inr (.inr (a, n0, i0)) :: st) μ = bb X P M h K J cs ls st (upL μ i0 b x) := if_pos rfl
theorem b_iaload {x : Int32} : bb X P M h K J ((q, .iaload, len, a, b, c, v, ts) :: cs) ls (.inl x :: .inr (.inr (16, n0, i0)) :: st) μ = ∃ j, x = nI j ∧ j < n0 ∧ bb X P M h K J cs ls (.inl (μ.1 i0 j) :: st) μ := rfl
theorem b_ialoadF {x : Int32} : bb X P M h K J ((q, .iaload, len, a, b, c, v, ts) :: cs) ls (.inl x :: .inr (.inr (20, n0, i0)) :: st) μ = ∃ j, x = nI j ∧ j < 9 ∧ bb X P M h K J cs ls (.inl (mFac j) :: st) μ := rfl
theorem b_ialoadX {x : Int32} : bb X P M h K J ((q, .iaload, len, a, b, c, v, ts) :: cs) ls (.inl x :: .inr (.inr (21, n0, i0)) :: st) μ = ∃ j, x = nI j ∧ j < mcN X ∧ j < 2 ^ 31 ∧ bb X P M h K J cs ls (.inl (mcX X j) :: st) μ := rfl
theorem b_baload {x : Int32} : bb X P M h K J ((q, .baload, len, a, b, c, v, ts) :: cs) ls (.inl x :: .inr (.inr (18, n0, i0)) :: st) μ = ∃ j, x = nI j ∧ j < n0 ∧ bb X P M h K J cs ls (.inl (μ.1 i0 j) :: st) μ := rfl
theorem b_laload {x : Int32} : bb X P M h K J ((q, .laload, len, a, b, c, v, ts) :: cs) ls (.inl x :: .inr (.inr (17, n0, i0)) :: st) μ = ∃ j, x = nI j ∧ j < n0 ∧ bb X P M h K J cs ls (.inr (.inl (μ.2 i0 j)) :: st) μ := rfl
theorem b_aaload {x : Int32} : bb X P M h K J ((q, .aaload, len, a, b, c, v, ts) :: cs) ls (.inl x :: .inr (.inr (19, n0, i0)) :: st) μ = ∃ j, x = nI j ∧ j < n0 ∧ bb X P M h K J cs ls (.inr (.inr (1, 0, i0 + 1 + 36 * j)) :: st) μ := rfl
theorem b_iastore {x y : Int32} : bb X P M h K J ((q, .iastore, len, a, b, c, v, ts) :: cs) ls (.inl y :: .inl x :: .inr (.inr (16, n0, i0)) :: st) μ = ∃ j, x = nI j ∧ j < n0 ∧ bb X P M h K J cs ls st (upI μ i0 j y) := rfl
theorem b_bastore {x y : Int32} : bb X P M h K J ((q, .bastore, len, a, b, c, v, ts) :: cs) ls (.inl y :: .inl x :: .inr (.inr (18, n0, i0)) :: st) μ = ∃ j, x = nI j ∧ j < n0 ∧ (y = 0 ∨ y = 1) ∧ bb X P M h K J cs ls st (upI μ i0 j y) := rfl
theorem b_lastore {x : Int32} {y : Int64} : bb X P M h K J ((q, .lastore, len, a, b, c, v, ts) :: cs) ls (.inr (.inl y) :: .inl x :: .inr (.inr (17, n0, i0)) :: st) μ = ∃ j, x = nI j ∧ j < n0 ∧ bb X P M h K J cs ls st (upL μ i0 j y) := rfl
theorem b_alen : bb X P M h K J ((q, .arraylength, len, a, b, c, v, ts) :: cs) ls (.inr (.inr (16, n0, i0)) :: st) μ = bb X P M h K J cs ls (.inl (nI n0) :: st) μ := rfl
theorem b_alenX : bb X P M h K J ((q, .arraylength, len, a, b, c, v, ts) :: cs) ls (.inr (.inr (21, n0, i0)) :: st) μ = bb X P M h K J cs ls (.inl (nI (mcN X)) :: st) μ := rfl
theorem b_dupI {x : Int32} : bb X P M h K J ((q, .dup, len, a, b, c, v, ts) :: cs) ls (.inl x :: st) μ = bb X P M h K J cs ls (.inl x :: .inl x :: st) μ := rfl
theorem b_popI {x : Int32} : bb X P M h K J ((q, .pop, len, a, b, c, v, ts) :: cs) ls (.inl x :: st) μ = bb X P M h K J cs ls st μ := rfl
theorem b_dupA {x : Nat × Nat × Nat} : bb X P M h K J ((q, .dup, len, a, b, c, v, ts) :: cs) ls (.inr (.inr x) :: st) μ = bb X P M h K J cs ls (.inr (.inr x) :: .inr (.inr x) :: st) μ := rfl
theorem b_popA {x : Nat × Nat × Nat} : bb X P M h K J ((q, .pop, len, a, b, c, v, ts) :: cs) ls (.inr (.inr x) :: st) μ = bb X P M h K J cs ls st μ := rfl
theorem b_dup2 {x : Int32} {z : Nat × Nat × Nat} : bb X P M h K J ((q, .dup2, len, a, b, c, v, ts) :: cs) ls (.inl x :: .inr (.inr z) :: st) μ = bb X P M h K J cs ls (.inl x :: .inr (.inr z) :: .inl x :: .inr (.inr z) :: st) μ := rfl
theorem b_iadd {x y : Int32} : bb X P M h K J ((q, .iadd, len, a, b, c, v, ts) :: cs) ls (.inl y :: .inl x :: st) μ = bb X P M h K J cs ls (.inl (x + y) :: st) μ := rfl
theorem b_isub {x y : Int32} : bb X P M h K J ((q, .isub, len, a, b, c, v, ts) :: cs) ls (.inl y :: .inl x :: st) μ = bb X P M h K J cs ls (.inl (x - y) :: st) μ := rfl
theorem b_imul {x y : Int32} : bb X P M h K J ((q, .imul, len, a, b, c, v, ts) :: cs) ls (.inl y :: .inl x :: st) μ = bb X P M h K J cs ls (.inl (x * y) :: st) μ := rfl
theorem b_iand {x y : Int32} : bb X P M h K J ((q, .iand, len, a, b, c, v, ts) :: cs) ls (.inl y :: .inl x :: st) μ = bb X P M h K J cs ls (.inl (x &&& y) :: st) μ := rfl
theorem b_ior {x y : Int32} : bb X P M h K J ((q, .ior, len, a, b, c, v, ts) :: cs) ls (.inl y :: .inl x :: st) μ = bb X P M h K J cs ls (.inl (x ||| y) :: st) μ := rfl
theorem b_ixor {x y : Int32} : bb X P M h K J ((q, .ixor, len, a, b, c, v, ts) :: cs) ls (.inl y :: .inl x :: st) μ = bb X P M h K J cs ls (.inl (x ^^^ y) :: st) μ := rfl
theorem b_ishl {x y : Int32} : bb X P M h K J ((q, .ishl, len, a, b, c, v, ts) :: cs) ls (.inl y :: .inl x :: st) μ = bb X P M h K J cs ls (.inl (x <<< (y &&& 31)) :: st) μ := rfl
theorem b_ishr {x y : Int32} : bb X P M h K J ((q, .ishr, len, a, b, c, v, ts) :: cs) ls (.inl y :: .inl x :: st) μ = bb X P M h K J cs ls (.inl (x >>> (y &&& 31)) :: st) μ := rfl
theorem b_iushr {x y : Int32} : bb X P M h K J ((q, .iushr, len, a, b, c, v, ts) :: cs) ls (.inl y :: .inl x :: st) μ = bb X P M h K J cs ls (.inl ((x.toUInt32 >>> (y.toUInt32 &&& Int32.toUInt32 31)).toInt32) :: st) μ := rfl
theorem b_idiv {x y : Int32} : bb X P M h K J ((q, .idiv, len, a, b, c, v, ts) :: cs) ls (.inl y :: .inl x :: st) μ = (¬ y = 0 ∧ bb X P M h K J cs ls (.inl (x / y) :: st) μ) := rfl
theorem b_irem {x y : Int32} : bb X P M h K J ((q, .irem, len, a, b, c, v, ts) :: cs) ls (.inl y :: .inl x :: st) μ = (¬ y = 0 ∧ bb X P M h K J cs ls (.inl (x - x / y * y) :: st) μ) := rfl
theorem b_ladd {x y : Int64} : bb X P M h K J ((q, .ladd, len, a, b, c, v, ts) :: cs) ls (.inr (.inl y) :: .inr (.inl x) :: st) μ = bb X P M h K J cs ls (.inr (.inl (x + y)) :: st) μ := rfl
theorem b_lsub {x y : Int64} : bb X P M h K J ((q, .lsub, len, a, b, c, v, ts) :: cs) ls (.inr (.inl y) :: .inr (.inl x) :: st) μ = bb X P M h K J cs ls (.inr (.inl (x - y)) :: st) μ := rfl
theorem b_lmul {x y : Int64} : bb X P M h K J ((q, .lmul, len, a, b, c, v, ts) :: cs) ls (.inr (.inl y) :: .inr (.inl x) :: st) μ = bb X P M h K J cs ls (.inr (.inl (x * y)) :: st) μ := rfl
theorem b_ldiv {x y : Int64} : bb X P M h K J ((q, .ldiv, len, a, b, c, v, ts) :: cs) ls (.inr (.inl y) :: .inr (.inl x) :: st) μ = (¬ y = 0 ∧ bb X P M h K J cs ls (.inr (.inl (x / y)) :: st) μ) := rfl
theorem b_lrem {x y : Int64} : bb X P M h K J ((q, .lrem, len, a, b, c, v, ts) :: cs) ls (.inr (.inl y) :: .inr (.inl x) :: st) μ = (¬ y = 0 ∧ bb X P M h K J cs ls (.inr (.inl (x - x / y * y)) :: st) μ) := rfl
theorem b_lneg {x : Int64} : bb X P M h K J ((q, .lneg, len, a, b, c, v, ts) :: cs) ls (.inr (.inl x) :: st) μ = bb X P M h K J cs ls (.inr (.inl (-x)) :: st) μ := rfl
theorem b_lcmp {x y : Int64} : bb X P M h K J ((q, .lcmp, len, a, b, c, v, ts) :: cs) ls (.inr (.inl y) :: .inr (.inl x) :: st) μ = bb X P M h K J cs ls (.inl (lg_cmp x y) :: st) μ := rfl
theorem b_i2l {x : Int32} : bb X P M h K J ((q, .i2l, len, a, b, c, v, ts) :: cs) ls (.inl x :: st) μ = bb X P M h K J cs ls (.inr (.inl x.toInt64) :: st) μ := rfl
theorem b_l2i {x : Int64} : bb X P M h K J ((q, .l2i, len, a, b, c, v, ts) :: cs) ls (.inr (.inl x) :: st) μ = bb X P M h K J cs ls (.inl x.toInt32 :: st) μ := rfl
theorem b_if_eq {x : Int32} {n : Int} : bb X P M h K J ((q, .ifCond .eq n, len, a, b, c, v, ts) :: cs) ls (.inl x :: st) μ = ((x = 0 → J a ls st μ) ∧ (¬ x = 0 → bb X P M h K J cs ls st μ)) := rfl
theorem b_if_ne {x : Int32} {n : Int} : bb X P M h K J ((q, .ifCond .ne n, len, a, b, c, v, ts) :: cs) ls (.inl x :: st) μ = ((¬ x = 0 → J a ls st μ) ∧ (x = 0 → bb X P M h K J cs ls st μ)) := rfl
theorem b_if_lt {x : Int32} {n : Int} : bb X P M h K J ((q, .ifCond .lt n, len, a, b, c, v, ts) :: cs) ls (.inl x :: st) μ = ((x < 0 → J a ls st μ) ∧ (¬ x < 0 → bb X P M h K J cs ls st μ)) := rfl
theorem b_if_ge {x : Int32} {n : Int} : bb X P M h K J ((q, .ifCond .ge n, len, a, b, c, v, ts) :: cs) ls (.inl x :: st) μ = ((0 ≤ x → J a ls st μ) ∧ (¬ 0 ≤ x → bb X P M h K J cs ls st μ)) := rfl
theorem b_if_gt {x : Int32} {n : Int} : bb X P M h K J ((q, .ifCond .gt n, len, a, b, c, v, ts) :: cs) ls (.inl x :: st) μ = ((0 < x → J a ls st μ) ∧ (¬ 0 < x → bb X P M h K J cs ls st μ)) := rfl
theorem b_if_le {x : Int32} {n : Int} : bb X P M h K J ((q, .ifCond .le n, len, a, b, c, v, ts) :: cs) ls (.inl x :: st) μ = ((x ≤ 0 → J a ls st μ) ∧ (¬ x ≤ 0 → bb X P M h K J cs ls st μ)) := rfl
theorem b_ic_eq {x y : Int32} {n : Int} : bb X P M h K J ((q, .if_icmp .eq n, len, a, b, c, v, ts) :: cs) ls (.inl y :: .inl x :: st) μ = ((x = y → J a ls st μ) ∧ (¬ x = y → bb X P M h K J cs ls st μ)) := rfl
theorem b_ic_ne {x y : Int32} {n : Int} : bb X P M h K J ((q, .if_icmp .ne n, len, a, b, c, v, ts) :: cs) ls (.inl y :: .inl x :: st) μ = ((¬ x = y → J a ls st μ) ∧ (x = y → bb X P M h K J cs ls st μ)) := rfl
theorem b_ic_lt {x y : Int32} {n : Int} : bb X P M h K J ((q, .if_icmp .lt n, len, a, b, c, v, ts) :: cs) ls (.inl y :: .inl x :: st) μ = ((x < y → J a ls st μ) ∧ (¬ x < y → bb X P M h K J cs ls st μ)) := rfl
theorem b_ic_ge {x y : Int32} {n : Int} : bb X P M h K J ((q, .if_icmp .ge n, len, a, b, c, v, ts) :: cs) ls (.inl y :: .inl x :: st) μ = ((y ≤ x → J a ls st μ) ∧ (¬ y ≤ x → bb X P M h K J cs ls st μ)) := rfl
theorem b_ic_gt {x y : Int32} {n : Int} : bb X P M h K J ((q, .if_icmp .gt n, len, a, b, c, v, ts) :: cs) ls (.inl y :: .inl x :: st) μ = ((y < x → J a ls st μ) ∧ (¬ y < x → bb X P M h K J cs ls st μ)) := rfl
theorem b_ic_le {x y : Int32} {n : Int} : bb X P M h K J ((q, .if_icmp .le n, len, a, b, c, v, ts) :: cs) ls (.inl y :: .inl x :: st) μ = ((x ≤ y → J a ls st μ) ∧ (¬ x ≤ y → bb X P M h K J cs ls st μ)) := rfl
theorem b_goto {n : Int} : bb X P M h K J ((q, .goto n, len, a, b, c, v, ts) :: cs) ls st μ = J a ls st μ := rfl
theorem b_tsw {x : Int32} {d lo hi : Int} {offs : Array Int} : bb X P M h K J ((q, .tableswitch d lo hi offs, len, a, b, c, v, ts) :: cs) ls (.inl x :: st) μ = (((x.toInt < lo ∨ hi < x.toInt) → J a ls st μ) ∧ swt x b ts (fun t => J t ls st μ)) := rfl
theorem b_lsw {x : Int32} {d : Int} {ps : Array (Int × Int)} : bb X P M h K J ((q, .lookupswitch d ps, len, a, b, c, v, ts) :: cs) ls (.inl x :: st) μ = lkw x ts (fun t => J t ls st μ) (J a ls st μ) := rfl
theorem b_iret {x : Int32} : bb X P M h K J ((q, .ireturn, len, 0, b, c, v, ts) :: cs) ls [.inl x] μ = K (.inl x) μ := by show ((0 = 0 ∨ (x = 0 ∨ x = 1)) ∧ K (.inl x) μ) = _; simp
theorem b_zret {x : Int32} : bb X P M h K J ((q, .ireturn, len, 1, b, c, v, ts) :: cs) ls [.inl x] μ = ((x = 0 ∨ x = 1) ∧ K (.inl x) μ) := by show ((1 = 0 ∨ (x = 0 ∨ x = 1)) ∧ K (.inl x) μ) = _; simp
theorem b_lret {x : Int64} : bb X P M h K J ((q, .lreturn, len, a, b, c, v, ts) :: cs) ls [.inr (.inl x)] μ = K (.inr (.inl x)) μ := rfl
theorem b_vret : bb X P M h K J ((q, .return_, len, a, b, c, v, ts) :: cs) ls [] μ = K (.inl 0) μ := rfl
theorem b_min {n : Nat} {x y : Int32} : bb X P M h K J ((q, .invokestatic n, len, a, 2, 10, v, ts) :: cs) ls (.inl y :: .inl x :: st) μ = (if mCat st ≤ 8 then bb X P M h K J cs ls (.inl (if y < x then y else x) :: st) μ else False) := by simp [bb]
theorem b_max {n : Nat} {x y : Int32} : bb X P M h K J ((q, .invokestatic n, len, a, 2, 11, v, ts) :: cs) ls (.inl y :: .inl x :: st) μ = (if mCat st ≤ 8 then bb X P M h K J cs ls (.inl (if x < y then y else x) :: st) μ else False) := by simp [bb]
theorem b_maxl {n : Nat} {x y : Int64} : bb X P M h K J ((q, .invokestatic n, len, a, 2, 12, v, ts) :: cs) ls (.inr (.inl y) :: .inr (.inl x) :: st) μ = (if mCat st ≤ 8 then bb X P M h K J cs ls (.inr (.inl (if y < x then x else y)) :: st) μ else False) := by simp [bb]
theorem b_absl {n : Nat} {x : Int64} : bb X P M h K J ((q, .invokestatic n, len, a, 1, 13, v, ts) :: cs) ls (.inr (.inl x) :: st) μ = (if mCat st ≤ 8 then bb X P M h K J cs ls (.inr (.inl (if 0 < x then x else -x)) :: st) μ else False) := by simp [bb]
theorem b_copy {n n1 i1 : Nat} {k dp sp : Int32} : bb X P M h K J ((q, .invokestatic n, len, a, 5, 9, v, ts) :: cs) ls (.inl k :: .inl dp :: .inr (.inr (16, n1, i1)) :: .inl sp :: .inr (.inr (16, n0, i0)) :: st) μ = (if mCat st ≤ 8 then ∃ sj dj nj, sp = nI sj ∧ dp = nI dj ∧ k = nI nj ∧ sj + nj ≤ n0 ∧ dj + nj ≤ n1 ∧ bb X P M h K J cs ls st (cpI μ i1 (va_cpy (μ.1 i0) (μ.1 i1) sj dj nj)) else False) := by simp [bb]
theorem b_callS0_0 {n : Nat} : bb X P M h K J ((q, .invokestatic n, len, a, 0, 0, v, ts) :: cs) ls (st) μ = (if mCat st ≤ 8 then mCall X P h a [] μ (fun r μ' => bb X P M h K J cs ls (st) μ') else False) := by simp [bb]
theorem b_callS0_1 {n : Nat} : bb X P M h K J ((q, .invokestatic n, len, a, 0, 1, v, ts) :: cs) ls (st) μ = (if mCat st ≤ 8 then mCall X P h a [] μ (fun r μ' => bb X P M h K J cs ls (r :: st) μ') else False) := by simp [bb]
theorem b_callS0_2 {n : Nat} : bb X P M h K J ((q, .invokestatic n, len, a, 0, 2, v, ts) :: cs) ls (st) μ = (if mCat st ≤ 8 then mCall X P h a [] μ (fun r μ' => bb X P M h K J cs ls (r :: st) μ') else False) := by simp [bb]
theorem b_callV1_0 {n : Nat} {w0 : MV} : bb X P M h K J ((q, .invokevirtual n, len, a, 1, 0, v, ts) :: cs) ls (w0 :: st) μ = (if mCat st ≤ 8 ∧ mRcv [w0] = ts.getD 1 99 then mCall X P h a [w0] μ (fun r μ' => bb X P M h K J cs ls (st) μ') else False) := by simp [bb]
theorem b_callV1_1 {n : Nat} {w0 : MV} : bb X P M h K J ((q, .invokevirtual n, len, a, 1, 1, v, ts) :: cs) ls (w0 :: st) μ = (if mCat st ≤ 8 ∧ mRcv [w0] = ts.getD 1 99 then mCall X P h a [w0] μ (fun r μ' => bb X P M h K J cs ls (r :: st) μ') else False) := by simp [bb]
theorem b_callV1_2 {n : Nat} {w0 : MV} : bb X P M h K J ((q, .invokevirtual n, len, a, 1, 2, v, ts) :: cs) ls (w0 :: st) μ = (if mCat st ≤ 8 ∧ mRcv [w0] = ts.getD 1 99 then mCall X P h a [w0] μ (fun r μ' => bb X P M h K J cs ls (r :: st) μ') else False) := by simp [bb]
theorem b_callS1_0 {n : Nat} {w0 : MV} : bb X P M h K J ((q, .invokestatic n, len, a, 1, 0, v, ts) :: cs) ls (w0 :: st) μ = (if mCat st ≤ 8 then mCall X P h a [w0] μ (fun r μ' => bb X P M h K J cs ls (st) μ') else False) := by simp [bb]
theorem b_callS1_1 {n : Nat} {w0 : MV} : bb X P M h K J ((q, .invokestatic n, len, a, 1, 1, v, ts) :: cs) ls (w0 :: st) μ = (if mCat st ≤ 8 then mCall X P h a [w0] μ (fun r μ' => bb X P M h K J cs ls (r :: st) μ') else False) := by simp [bb]
theorem b_callS1_2 {n : Nat} {w0 : MV} : bb X P M h K J ((q, .invokestatic n, len, a, 1, 2, v, ts) :: cs) ls (w0 :: st) μ = (if mCat st ≤ 8 then mCall X P h a [w0] μ (fun r μ' => bb X P M h K J cs ls (r :: st) μ') else False) := by simp [bb]
theorem b_callV2_0 {n : Nat} {w0 w1 : MV} : bb X P M h K J ((q, .invokevirtual n, len, a, 2, 0, v, ts) :: cs) ls (w0 :: w1 :: st) μ = (if mCat st ≤ 8 ∧ mRcv [w1, w0] = ts.getD 1 99 then mCall X P h a [w1, w0] μ (fun r μ' => bb X P M h K J cs ls (st) μ') else False) := by simp [bb]
theorem b_callV2_1 {n : Nat} {w0 w1 : MV} : bb X P M h K J ((q, .invokevirtual n, len, a, 2, 1, v, ts) :: cs) ls (w0 :: w1 :: st) μ = (if mCat st ≤ 8 ∧ mRcv [w1, w0] = ts.getD 1 99 then mCall X P h a [w1, w0] μ (fun r μ' => bb X P M h K J cs ls (r :: st) μ') else False) := by simp [bb]
theorem b_callV2_2 {n : Nat} {w0 w1 : MV} : bb X P M h K J ((q, .invokevirtual n, len, a, 2, 2, v, ts) :: cs) ls (w0 :: w1 :: st) μ = (if mCat st ≤ 8 ∧ mRcv [w1, w0] = ts.getD 1 99 then mCall X P h a [w1, w0] μ (fun r μ' => bb X P M h K J cs ls (r :: st) μ') else False) := by simp [bb]
theorem b_callS2_0 {n : Nat} {w0 w1 : MV} : bb X P M h K J ((q, .invokestatic n, len, a, 2, 0, v, ts) :: cs) ls (w0 :: w1 :: st) μ = (if mCat st ≤ 8 then mCall X P h a [w1, w0] μ (fun r μ' => bb X P M h K J cs ls (st) μ') else False) := by simp [bb]
theorem b_callS2_1 {n : Nat} {w0 w1 : MV} : bb X P M h K J ((q, .invokestatic n, len, a, 2, 1, v, ts) :: cs) ls (w0 :: w1 :: st) μ = (if mCat st ≤ 8 then mCall X P h a [w1, w0] μ (fun r μ' => bb X P M h K J cs ls (r :: st) μ') else False) := by simp [bb]
theorem b_callS2_2 {n : Nat} {w0 w1 : MV} : bb X P M h K J ((q, .invokestatic n, len, a, 2, 2, v, ts) :: cs) ls (w0 :: w1 :: st) μ = (if mCat st ≤ 8 then mCall X P h a [w1, w0] μ (fun r μ' => bb X P M h K J cs ls (r :: st) μ') else False) := by simp [bb]
theorem b_callV3_0 {n : Nat} {w0 w1 w2 : MV} : bb X P M h K J ((q, .invokevirtual n, len, a, 3, 0, v, ts) :: cs) ls (w0 :: w1 :: w2 :: st) μ = (if mCat st ≤ 8 ∧ mRcv [w2, w1, w0] = ts.getD 1 99 then mCall X P h a [w2, w1, w0] μ (fun r μ' => bb X P M h K J cs ls (st) μ') else False) := by simp [bb]
theorem b_callV3_1 {n : Nat} {w0 w1 w2 : MV} : bb X P M h K J ((q, .invokevirtual n, len, a, 3, 1, v, ts) :: cs) ls (w0 :: w1 :: w2 :: st) μ = (if mCat st ≤ 8 ∧ mRcv [w2, w1, w0] = ts.getD 1 99 then mCall X P h a [w2, w1, w0] μ (fun r μ' => bb X P M h K J cs ls (r :: st) μ') else False) := by simp [bb]
theorem b_callV3_2 {n : Nat} {w0 w1 w2 : MV} : bb X P M h K J ((q, .invokevirtual n, len, a, 3, 2, v, ts) :: cs) ls (w0 :: w1 :: w2 :: st) μ = (if mCat st ≤ 8 ∧ mRcv [w2, w1, w0] = ts.getD 1 99 then mCall X P h a [w2, w1, w0] μ (fun r μ' => bb X P M h K J cs ls (r :: st) μ') else False) := by simp [bb]
theorem b_callS3_0 {n : Nat} {w0 w1 w2 : MV} : bb X P M h K J ((q, .invokestatic n, len, a, 3, 0, v, ts) :: cs) ls (w0 :: w1 :: w2 :: st) μ = (if mCat st ≤ 8 then mCall X P h a [w2, w1, w0] μ (fun r μ' => bb X P M h K J cs ls (st) μ') else False) := by simp [bb]
theorem b_callS3_1 {n : Nat} {w0 w1 w2 : MV} : bb X P M h K J ((q, .invokestatic n, len, a, 3, 1, v, ts) :: cs) ls (w0 :: w1 :: w2 :: st) μ = (if mCat st ≤ 8 then mCall X P h a [w2, w1, w0] μ (fun r μ' => bb X P M h K J cs ls (r :: st) μ') else False) := by simp [bb]
theorem b_callS3_2 {n : Nat} {w0 w1 w2 : MV} : bb X P M h K J ((q, .invokestatic n, len, a, 3, 2, v, ts) :: cs) ls (w0 :: w1 :: w2 :: st) μ = (if mCat st ≤ 8 then mCall X P h a [w2, w1, w0] μ (fun r μ' => bb X P M h K J cs ls (r :: st) μ') else False) := by simp [bb]
theorem b_callV4_0 {n : Nat} {w0 w1 w2 w3 : MV} : bb X P M h K J ((q, .invokevirtual n, len, a, 4, 0, v, ts) :: cs) ls (w0 :: w1 :: w2 :: w3 :: st) μ = (if mCat st ≤ 8 ∧ mRcv [w3, w2, w1, w0] = ts.getD 1 99 then mCall X P h a [w3, w2, w1, w0] μ (fun r μ' => bb X P M h K J cs ls (st) μ') else False) := by simp [bb]
theorem b_callV4_1 {n : Nat} {w0 w1 w2 w3 : MV} : bb X P M h K J ((q, .invokevirtual n, len, a, 4, 1, v, ts) :: cs) ls (w0 :: w1 :: w2 :: w3 :: st) μ = (if mCat st ≤ 8 ∧ mRcv [w3, w2, w1, w0] = ts.getD 1 99 then mCall X P h a [w3, w2, w1, w0] μ (fun r μ' => bb X P M h K J cs ls (r :: st) μ') else False) := by simp [bb]
theorem b_callV4_2 {n : Nat} {w0 w1 w2 w3 : MV} : bb X P M h K J ((q, .invokevirtual n, len, a, 4, 2, v, ts) :: cs) ls (w0 :: w1 :: w2 :: w3 :: st) μ = (if mCat st ≤ 8 ∧ mRcv [w3, w2, w1, w0] = ts.getD 1 99 then mCall X P h a [w3, w2, w1, w0] μ (fun r μ' => bb X P M h K J cs ls (r :: st) μ') else False) := by simp [bb]
theorem b_callS4_0 {n : Nat} {w0 w1 w2 w3 : MV} : bb X P M h K J ((q, .invokestatic n, len, a, 4, 0, v, ts) :: cs) ls (w0 :: w1 :: w2 :: w3 :: st) μ = (if mCat st ≤ 8 then mCall X P h a [w3, w2, w1, w0] μ (fun r μ' => bb X P M h K J cs ls (st) μ') else False) := by simp [bb]
theorem b_callS4_1 {n : Nat} {w0 w1 w2 w3 : MV} : bb X P M h K J ((q, .invokestatic n, len, a, 4, 1, v, ts) :: cs) ls (w0 :: w1 :: w2 :: w3 :: st) μ = (if mCat st ≤ 8 then mCall X P h a [w3, w2, w1, w0] μ (fun r μ' => bb X P M h K J cs ls (r :: st) μ') else False) := by simp [bb]
theorem b_callS4_2 {n : Nat} {w0 w1 w2 w3 : MV} : bb X P M h K J ((q, .invokestatic n, len, a, 4, 2, v, ts) :: cs) ls (w0 :: w1 :: w2 :: w3 :: st) μ = (if mCat st ≤ 8 then mCall X P h a [w3, w2, w1, w0] μ (fun r μ' => bb X P M h K J cs ls (r :: st) μ') else False) := by simp [bb]
theorem b_callV5_0 {n : Nat} {w0 w1 w2 w3 w4 : MV} : bb X P M h K J ((q, .invokevirtual n, len, a, 5, 0, v, ts) :: cs) ls (w0 :: w1 :: w2 :: w3 :: w4 :: st) μ = (if mCat st ≤ 8 ∧ mRcv [w4, w3, w2, w1, w0] = ts.getD 1 99 then mCall X P h a [w4, w3, w2, w1, w0] μ (fun r μ' => bb X P M h K J cs ls (st) μ') else False) := by simp [bb]
theorem b_callV5_1 {n : Nat} {w0 w1 w2 w3 w4 : MV} : bb X P M h K J ((q, .invokevirtual n, len, a, 5, 1, v, ts) :: cs) ls (w0 :: w1 :: w2 :: w3 :: w4 :: st) μ = (if mCat st ≤ 8 ∧ mRcv [w4, w3, w2, w1, w0] = ts.getD 1 99 then mCall X P h a [w4, w3, w2, w1, w0] μ (fun r μ' => bb X P M h K J cs ls (r :: st) μ') else False) := by simp [bb]
theorem b_callV5_2 {n : Nat} {w0 w1 w2 w3 w4 : MV} : bb X P M h K J ((q, .invokevirtual n, len, a, 5, 2, v, ts) :: cs) ls (w0 :: w1 :: w2 :: w3 :: w4 :: st) μ = (if mCat st ≤ 8 ∧ mRcv [w4, w3, w2, w1, w0] = ts.getD 1 99 then mCall X P h a [w4, w3, w2, w1, w0] μ (fun r μ' => bb X P M h K J cs ls (r :: st) μ') else False) := by simp [bb]
theorem b_callS5_0 {n : Nat} {w0 w1 w2 w3 w4 : MV} : bb X P M h K J ((q, .invokestatic n, len, a, 5, 0, v, ts) :: cs) ls (w0 :: w1 :: w2 :: w3 :: w4 :: st) μ = (if mCat st ≤ 8 then mCall X P h a [w4, w3, w2, w1, w0] μ (fun r μ' => bb X P M h K J cs ls (st) μ') else False) := by simp [bb]
theorem b_callS5_1 {n : Nat} {w0 w1 w2 w3 w4 : MV} : bb X P M h K J ((q, .invokestatic n, len, a, 5, 1, v, ts) :: cs) ls (w0 :: w1 :: w2 :: w3 :: w4 :: st) μ = (if mCat st ≤ 8 then mCall X P h a [w4, w3, w2, w1, w0] μ (fun r μ' => bb X P M h K J cs ls (r :: st) μ') else False) := by simp [bb]
theorem b_callS5_2 {n : Nat} {w0 w1 w2 w3 w4 : MV} : bb X P M h K J ((q, .invokestatic n, len, a, 5, 2, v, ts) :: cs) ls (w0 :: w1 :: w2 :: w3 :: w4 :: st) μ = (if mCat st ≤ 8 then mCall X P h a [w4, w3, w2, w1, w0] μ (fun r μ' => bb X P M h K J cs ls (r :: st) μ') else False) := by simp [bb]
theorem b_callV6_0 {n : Nat} {w0 w1 w2 w3 w4 w5 : MV} : bb X P M h K J ((q, .invokevirtual n, len, a, 6, 0, v, ts) :: cs) ls (w0 :: w1 :: w2 :: w3 :: w4 :: w5 :: st) μ = (if mCat st ≤ 8 ∧ mRcv [w5, w4, w3, w2, w1, w0] = ts.getD 1 99 then mCall X P h a [w5, w4, w3, w2, w1, w0] μ (fun r μ' => bb X P M h K J cs ls (st) μ') else False) := by simp [bb]
theorem b_callV6_1 {n : Nat} {w0 w1 w2 w3 w4 w5 : MV} : bb X P M h K J ((q, .invokevirtual n, len, a, 6, 1, v, ts) :: cs) ls (w0 :: w1 :: w2 :: w3 :: w4 :: w5 :: st) μ = (if mCat st ≤ 8 ∧ mRcv [w5, w4, w3, w2, w1, w0] = ts.getD 1 99 then mCall X P h a [w5, w4, w3, w2, w1, w0] μ (fun r μ' => bb X P M h K J cs ls (r :: st) μ') else False) := by simp [bb]
theorem b_callV6_2 {n : Nat} {w0 w1 w2 w3 w4 w5 : MV} : bb X P M h K J ((q, .invokevirtual n, len, a, 6, 2, v, ts) :: cs) ls (w0 :: w1 :: w2 :: w3 :: w4 :: w5 :: st) μ = (if mCat st ≤ 8 ∧ mRcv [w5, w4, w3, w2, w1, w0] = ts.getD 1 99 then mCall X P h a [w5, w4, w3, w2, w1, w0] μ (fun r μ' => bb X P M h K J cs ls (r :: st) μ') else False) := by simp [bb]
theorem b_callS6_0 {n : Nat} {w0 w1 w2 w3 w4 w5 : MV} : bb X P M h K J ((q, .invokestatic n, len, a, 6, 0, v, ts) :: cs) ls (w0 :: w1 :: w2 :: w3 :: w4 :: w5 :: st) μ = (if mCat st ≤ 8 then mCall X P h a [w5, w4, w3, w2, w1, w0] μ (fun r μ' => bb X P M h K J cs ls (st) μ') else False) := by simp [bb]
theorem b_callS6_1 {n : Nat} {w0 w1 w2 w3 w4 w5 : MV} : bb X P M h K J ((q, .invokestatic n, len, a, 6, 1, v, ts) :: cs) ls (w0 :: w1 :: w2 :: w3 :: w4 :: w5 :: st) μ = (if mCat st ≤ 8 then mCall X P h a [w5, w4, w3, w2, w1, w0] μ (fun r μ' => bb X P M h K J cs ls (r :: st) μ') else False) := by simp [bb]
theorem b_callS6_2 {n : Nat} {w0 w1 w2 w3 w4 w5 : MV} : bb X P M h K J ((q, .invokestatic n, len, a, 6, 2, v, ts) :: cs) ls (w0 :: w1 :: w2 :: w3 :: w4 :: w5 :: st) μ = (if mCat st ≤ 8 then mCall X P h a [w5, w4, w3, w2, w1, w0] μ (fun r μ' => bb X P M h K J cs ls (r :: st) μ') else False) := by simp [bb]
theorem b_callV7_0 {n : Nat} {w0 w1 w2 w3 w4 w5 w6 : MV} : bb X P M h K J ((q, .invokevirtual n, len, a, 7, 0, v, ts) :: cs) ls (w0 :: w1 :: w2 :: w3 :: w4 :: w5 :: w6 :: st) μ = (if mCat st ≤ 8 ∧ mRcv [w6, w5, w4, w3, w2, w1, w0] = ts.getD 1 99 then mCall X P h a [w6, w5, w4, w3, w2, w1, w0] μ (fun r μ' => bb X P M h K J cs ls (st) μ') else False) := by simp [bb]
theorem b_callV7_1 {n : Nat} {w0 w1 w2 w3 w4 w5 w6 : MV} : bb X P M h K J ((q, .invokevirtual n, len, a, 7, 1, v, ts) :: cs) ls (w0 :: w1 :: w2 :: w3 :: w4 :: w5 :: w6 :: st) μ = (if mCat st ≤ 8 ∧ mRcv [w6, w5, w4, w3, w2, w1, w0] = ts.getD 1 99 then mCall X P h a [w6, w5, w4, w3, w2, w1, w0] μ (fun r μ' => bb X P M h K J cs ls (r :: st) μ') else False) := by simp [bb]
theorem b_callV7_2 {n : Nat} {w0 w1 w2 w3 w4 w5 w6 : MV} : bb X P M h K J ((q, .invokevirtual n, len, a, 7, 2, v, ts) :: cs) ls (w0 :: w1 :: w2 :: w3 :: w4 :: w5 :: w6 :: st) μ = (if mCat st ≤ 8 ∧ mRcv [w6, w5, w4, w3, w2, w1, w0] = ts.getD 1 99 then mCall X P h a [w6, w5, w4, w3, w2, w1, w0] μ (fun r μ' => bb X P M h K J cs ls (r :: st) μ') else False) := by simp [bb]
theorem b_callS7_0 {n : Nat} {w0 w1 w2 w3 w4 w5 w6 : MV} : bb X P M h K J ((q, .invokestatic n, len, a, 7, 0, v, ts) :: cs) ls (w0 :: w1 :: w2 :: w3 :: w4 :: w5 :: w6 :: st) μ = (if mCat st ≤ 8 then mCall X P h a [w6, w5, w4, w3, w2, w1, w0] μ (fun r μ' => bb X P M h K J cs ls (st) μ') else False) := by simp [bb]
theorem b_callS7_1 {n : Nat} {w0 w1 w2 w3 w4 w5 w6 : MV} : bb X P M h K J ((q, .invokestatic n, len, a, 7, 1, v, ts) :: cs) ls (w0 :: w1 :: w2 :: w3 :: w4 :: w5 :: w6 :: st) μ = (if mCat st ≤ 8 then mCall X P h a [w6, w5, w4, w3, w2, w1, w0] μ (fun r μ' => bb X P M h K J cs ls (r :: st) μ') else False) := by simp [bb]
theorem b_callS7_2 {n : Nat} {w0 w1 w2 w3 w4 w5 w6 : MV} : bb X P M h K J ((q, .invokestatic n, len, a, 7, 2, v, ts) :: cs) ls (w0 :: w1 :: w2 :: w3 :: w4 :: w5 :: w6 :: st) μ = (if mCat st ≤ 8 then mCall X P h a [w6, w5, w4, w3, w2, w1, w0] μ (fun r μ' => bb X P M h K J cs ls (r :: st) μ') else False) := by simp [bb]
theorem b_callV8_0 {n : Nat} {w0 w1 w2 w3 w4 w5 w6 w7 : MV} : bb X P M h K J ((q, .invokevirtual n, len, a, 8, 0, v, ts) :: cs) ls (w0 :: w1 :: w2 :: w3 :: w4 :: w5 :: w6 :: w7 :: st) μ = (if mCat st ≤ 8 ∧ mRcv [w7, w6, w5, w4, w3, w2, w1, w0] = ts.getD 1 99 then mCall X P h a [w7, w6, w5, w4, w3, w2, w1, w0] μ (fun r μ' => bb X P M h K J cs ls (st) μ') else False) := by simp [bb]
theorem b_callV8_1 {n : Nat} {w0 w1 w2 w3 w4 w5 w6 w7 : MV} : bb X P M h K J ((q, .invokevirtual n, len, a, 8, 1, v, ts) :: cs) ls (w0 :: w1 :: w2 :: w3 :: w4 :: w5 :: w6 :: w7 :: st) μ = (if mCat st ≤ 8 ∧ mRcv [w7, w6, w5, w4, w3, w2, w1, w0] = ts.getD 1 99 then mCall X P h a [w7, w6, w5, w4, w3, w2, w1, w0] μ (fun r μ' => bb X P M h K J cs ls (r :: st) μ') else False) := by simp [bb]
theorem b_callV8_2 {n : Nat} {w0 w1 w2 w3 w4 w5 w6 w7 : MV} : bb X P M h K J ((q, .invokevirtual n, len, a, 8, 2, v, ts) :: cs) ls (w0 :: w1 :: w2 :: w3 :: w4 :: w5 :: w6 :: w7 :: st) μ = (if mCat st ≤ 8 ∧ mRcv [w7, w6, w5, w4, w3, w2, w1, w0] = ts.getD 1 99 then mCall X P h a [w7, w6, w5, w4, w3, w2, w1, w0] μ (fun r μ' => bb X P M h K J cs ls (r :: st) μ') else False) := by simp [bb]
theorem b_callS8_0 {n : Nat} {w0 w1 w2 w3 w4 w5 w6 w7 : MV} : bb X P M h K J ((q, .invokestatic n, len, a, 8, 0, v, ts) :: cs) ls (w0 :: w1 :: w2 :: w3 :: w4 :: w5 :: w6 :: w7 :: st) μ = (if mCat st ≤ 8 then mCall X P h a [w7, w6, w5, w4, w3, w2, w1, w0] μ (fun r μ' => bb X P M h K J cs ls (st) μ') else False) := by simp [bb]
theorem b_callS8_1 {n : Nat} {w0 w1 w2 w3 w4 w5 w6 w7 : MV} : bb X P M h K J ((q, .invokestatic n, len, a, 8, 1, v, ts) :: cs) ls (w0 :: w1 :: w2 :: w3 :: w4 :: w5 :: w6 :: w7 :: st) μ = (if mCat st ≤ 8 then mCall X P h a [w7, w6, w5, w4, w3, w2, w1, w0] μ (fun r μ' => bb X P M h K J cs ls (r :: st) μ') else False) := by simp [bb]
theorem b_callS8_2 {n : Nat} {w0 w1 w2 w3 w4 w5 w6 w7 : MV} : bb X P M h K J ((q, .invokestatic n, len, a, 8, 2, v, ts) :: cs) ls (w0 :: w1 :: w2 :: w3 :: w4 :: w5 :: w6 :: w7 :: st) μ = (if mCat st ≤ 8 then mCall X P h a [w7, w6, w5, w4, w3, w2, w1, w0] μ (fun r μ' => bb X P M h K J cs ls (r :: st) μ') else False) := by simp [bb]
theorem vc_0 {F : List mE} {S : List Nat} {t : Nat} : vc X P M h K F S 0 t ls st μ = mAt X M h K t ls st μ := rfl
theorem vc_s {F : List mE} {S : List Nat} {t n : Nat} : vc X P M h K F S (n + 1) t ls st μ = if t ∈ S then mAt X M h K t ls st μ else bb X P M h K (vc X P M h K F S n) (dropTo t F) ls st μ := rfl
theorem mCall_none {M2 : Nat} {a : List MV} {K2 : MV → Mem → Prop} (hp : P M2 a μ = none) : mCall X P h M2 a μ K2 = mMet X h M2 a μ K2 := by unfold mCall; rw [hp]
theorem mCall_some {M2 : Nat} {a : List MV} {r : MV} {K2 : MV → Mem → Prop} (hp : P M2 a μ = some r) : mCall X P h M2 a μ K2 = K2 r μ := by unfold mCall; rw [hp]
theorem mCall_P0 {M2 : Nat} {a : List MV} {K2 : MV → Mem → Prop} : mCall X P0 h M2 a μ K2 = mMet X h M2 a μ K2 := rfl
theorem mCat_nil : mCat [] = 0 := rfl
theorem mCat_I {x : Int32} : mCat (.inl x :: st) = 1 + mCat st := rfl
theorem mCat_L {x : Int64} : mCat (.inr (.inl x) :: st) = 2 + mCat st := rfl
theorem mCat_A {x : Nat × Nat × Nat} : mCat (.inr (.inr x) :: st) = 1 + mCat st := rfl
theorem mRcv_A {c n i : Nat} : mRcv (.inr (.inr (c, n, i)) :: st) = c := rfl
theorem mArg_nil {i : Nat} : mArg i [] = [] := rfl
theorem mArg_I {i : Nat} {x : Int32} : mArg i (.inl x :: st) = (i, .inl x) :: mArg (i + 1) st := rfl
theorem mArg_L {i : Nat} {x : Int64} : mArg i (.inr (.inl x) :: st) = (i, .inr (.inl x)) :: mArg (i + 2) st := rfl
theorem mArg_A {i : Nat} {x : Nat × Nat × Nat} : mArg i (.inr (.inr x) :: st) = (i, .inr (.inr x)) :: mArg (i + 1) st := rfl
theorem tsg {a b : Nat} {ts : List Nat} : (a :: b :: ts).getD 1 99 = b := rfl
theorem swt_nil {x : Int32} {lo : Nat} {J : Nat → Prop} : swt x lo [] J = True := rfl
theorem swt_cons {x : Int32} {lo t : Nat} {J : Nat → Prop} : swt x lo (t :: ts) J = ((x = nI lo → J t) ∧ swt x (lo + 1) ts J) := rfl
theorem lkw_nil {x : Int32} {J : Nat → Prop} {D : Prop} : lkw x [] J D = D := by unfold lkw; rfl
theorem lkw_cons {x : Int32} {k t : Nat} {J : Nat → Prop} {D : Prop} : lkw x (k :: t :: ts) J D = ((x = nI k → J t) ∧ (¬ x = nI k → lkw x ts J D)) := rfl
end MML

section MT1
variable {X : mC} {M h : Nat} {K : MV → Mem → Prop} {pc : Nat} {st : List MV} {μ : Mem}
/-- fewer locals, in any order -/
theorem mAt_sub {ls ls' : List (Nat × MV)} (hs : ∀ q ∈ ls', q ∈ ls) (k : mAt X M h K pc ls' st μ) : mAt X M h K pc ls st μ := by
  intro p e R s m args below meth c cells slots Q A H locs lsA hF hR hW hD hS h1 h2 hl
  refine k p e R s m args below meth c cells slots Q A H locs lsA hF hR hW hD hS (fun q hq => h1 q (hs q hq)) h2 ⟨hl.1, hl.2.1, fun q hq => ?_⟩
  obtain ⟨r, hr, rfl⟩ := List.mem_map.mp hq
  exact hl.2.2 _ (List.mem_map.mpr ⟨r, hs r hr, rfl⟩)
theorem vc_met2 {P : mP} (hP : mPok X P h) {F cs : List mE} (hF : mOkF M F = true) (hm : mChkM M = true) (S : List Nat) (n : Nat) (ht : dropTo 0 F = cs) {a : List MV} (ha : mCat a ≤ mMx M) (hv : bb X P M h K (vc X P M h K F S n) cs (mArg 0 a) [] μ) : mMet X (h + 1) M a μ K := vc_met hP hF hm S n ha (by rw [ht]; exact hv)
/-- back at a loop's head: the locals that are wanted are there, the memory is the next round's -/
theorem vc_back {P : mP} (hP : mPok X P h) {F cs : List mE} (hF : mOkF M F = true) (S : List Nat) (n : Nat) {t : Nat} {ls ls' : List (Nat × MV)} {μ' : Mem} (ht : dropTo t F = cs) (hv : bb X P M h K (vc X P M h K F S n) cs ls' st μ') (hs : ∀ q ∈ ls', q ∈ ls) (hm : μ = μ') : mAt X M h K t ls st μ := by
  subst hm
  exact mAt_sub hs (vc_from hP hF S n (by rw [ht]; exact hv))
theorem mQ_mono {K2 : MV → Mem → Prop} (hk : ∀ r μ', K r μ' → K2 r μ') {a : Array Value} {s t : State} {o : Outcome} (g : mQ X M K a s o t) : mQ X M K2 a s o t := by
  unfold mQ at g ⊢
  rcases hz : mRt M with _ | ty
  · rw [hz] at g
    obtain ⟨⟨u, z1, z2, z3⟩, z4⟩ := g
    exact ⟨⟨u, z1, hk _ _ z2, z3⟩, z4⟩
  · rw [hz] at g
    cases ty <;> (obtain ⟨⟨r, u, z1, z2, z3⟩, z4⟩ := g; exact ⟨⟨r, u, z1, hk _ _ z2, z3⟩, z4⟩)
theorem mMet_mono {a : List MV} {K2 : MV → Mem → Prop} (hk : ∀ r μ', K r μ' → K2 r μ') (k : mMet X h M a μ K) : mMet X h M a μ K2 := by
  intro hok p e ha hc hk' s m args below hf hap hP hK
  obtain ⟨k1, o, g1, g2, g3, g4⟩ := k hok p e ha hc hk' s m args below hf hap hP hK
  exact ⟨k1, o, g1, g2, g3, mQ_mono hk g4.1, g4.2⟩
end MT1
theorem ldI_hit {x : Int32} {a : Nat} {t : List (Nat × MV)} {k : Int32 → Prop} : ldI (lget ((a, .inl x) :: t) a) k = k x := by rw [lget_hit]; rfl
theorem ldI_skip {j a : Nat} {w : MV} {t : List (Nat × MV)} {k : Int32 → Prop} (h : (j = a) = False) : ldI (lget ((j, w) :: t) a) k = ldI (lget t a) k := by rw [lget_skip h]
theorem ldL_hit {x : Int64} {a : Nat} {t : List (Nat × MV)} {k : Int64 → Prop} : ldL (lget ((a, .inr (.inl x)) :: t) a) k = k x := by rw [lget_hit]; rfl
theorem ldL_skip {j a : Nat} {w : MV} {t : List (Nat × MV)} {k : Int64 → Prop} (h : (j = a) = False) : ldL (lget ((j, w) :: t) a) k = ldL (lget t a) k := by rw [lget_skip h]
theorem ldA_hit {x : Nat × Nat × Nat} {a : Nat} {t : List (Nat × MV)} {k : Nat × Nat × Nat → Prop} : ldA (lget ((a, .inr (.inr x)) :: t) a) k = k x := by rw [lget_hit]; rfl
theorem ldA_skip {j a : Nat} {w : MV} {t : List (Nat × MV)} {k : Nat × Nat × Nat → Prop} (h : (j = a) = False) : ldA (lget ((j, w) :: t) a) k = ldA (lget t a) k := by rw [lget_skip h]
def ldelK (ls : List (Nat × MV)) (k : Nat) (f : List (Nat × MV) → Prop) : Prop := f (ldel ls k)
def ldel2K (ls : List (Nat × MV)) (k : Nat) (f : List (Nat × MV) → Prop) : Prop := f (ldel2 ls k)
theorem ldelK_nil {k : Nat} {f : List (Nat × MV) → Prop} : ldelK [] k f = f [] := by unfold ldelK; rw [ldel_nil]
theorem ldelK_hit {k : Nat} {w : MV} {t : List (Nat × MV)} {f : List (Nat × MV) → Prop} : ldelK ((k, w) :: t) k f = ldelK t k f := by unfold ldelK; rw [ldel_hit]
theorem ldelK_skipI {j k : Nat} {x : Int32} {t : List (Nat × MV)} {f : List (Nat × MV) → Prop} (h : (j = k) = False) : ldelK ((j, .inl x) :: t) k f = ldelK t k (fun l => f ((j, .inl x) :: l)) := by unfold ldelK; rw [ldel_skipI h]
theorem ldelK_skipA {j k : Nat} {x : Nat × Nat × Nat} {t : List (Nat × MV)} {f : List (Nat × MV) → Prop} (h : (j = k) = False) : ldelK ((j, .inr (.inr x)) :: t) k f = ldelK t k (fun l => f ((j, .inr (.inr x)) :: l)) := by unfold ldelK; rw [ldel_skipA h]
theorem ldelK_skipL {j k : Nat} {x : Int64} {t : List (Nat × MV)} {f : List (Nat × MV) → Prop} (h : (j = k) = False) (h2 : (j + 1 = k) = False) : ldelK ((j, .inr (.inl x)) :: t) k f = ldelK t k (fun l => f ((j, .inr (.inl x)) :: l)) := by unfold ldelK; rw [ldel_skipL h h2]
theorem ldel2K_nil {k : Nat} {f : List (Nat × MV) → Prop} : ldel2K [] k f = f [] := by unfold ldel2K; rw [ldel2_nil]
theorem ldel2K_hit {k : Nat} {w : MV} {t : List (Nat × MV)} {f : List (Nat × MV) → Prop} : ldel2K ((k, w) :: t) k f = ldel2K t k f := by unfold ldel2K; rw [ldel2_hit]
theorem ldel2K_hit2 {j k : Nat} {w : MV} {t : List (Nat × MV)} {f : List (Nat × MV) → Prop} (h : (j = k + 1) = True) : ldel2K ((j, w) :: t) k f = ldel2K t k f := by unfold ldel2K; rw [ldel2_hit2 h]
theorem ldel2K_skipI {j k : Nat} {x : Int32} {t : List (Nat × MV)} {f : List (Nat × MV) → Prop} (h : (j = k) = False) (h3 : (j = k + 1) = False) : ldel2K ((j, .inl x) :: t) k f = ldel2K t k (fun l => f ((j, .inl x) :: l)) := by unfold ldel2K; rw [ldel2_skipI h h3]
theorem ldel2K_skipA {j k : Nat} {x : Nat × Nat × Nat} {t : List (Nat × MV)} {f : List (Nat × MV) → Prop} (h : (j = k) = False) (h3 : (j = k + 1) = False) : ldel2K ((j, .inr (.inr x)) :: t) k f = ldel2K t k (fun l => f ((j, .inr (.inr x)) :: l)) := by unfold ldel2K; rw [ldel2_skipA h h3]
theorem ldel2K_skipL {j k : Nat} {x : Int64} {t : List (Nat × MV)} {f : List (Nat × MV) → Prop} (h : (j = k) = False) (h2 : (j + 1 = k) = False) (h3 : (j = k + 1) = False) : ldel2K ((j, .inr (.inl x)) :: t) k f = ldel2K t k (fun l => f ((j, .inr (.inl x)) :: l)) := by unfold ldel2K; rw [ldel2_skipL h h2 h3]
section MT0
variable {X : mC} {P : mP} {M h : Nat} {K : MV → Mem → Prop} {J : mJ} {q len a b c n0 i0 : Nat} {v : MV} {ts : List Nat} {cs : List mE} {ls : List (Nat × MV)} {st : List MV} {μ : Mem}
theorem nm_all {α : Type} {e : α} {Q : α → Prop} : Q e = ∀ m, m = e → Q m := propext ⟨fun h m hm => hm ▸ h, fun h => h e rfl⟩
theorem n_iastore {x y : Int32} : bb X P M h K J ((q, .iastore, len, a, b, c, v, ts) :: cs) ls (.inl y :: .inl x :: .inr (.inr (16, n0, i0)) :: st) μ = ∃ j, x = nI j ∧ j < n0 ∧ ∀ m, m = upI μ i0 j y → bb X P M h K J cs ls st m := by
  rw [b_iastore]
  exact congrArg _ (funext fun j => congrArg _ (congrArg _ nm_all))
theorem n_bastore {x y : Int32} : bb X P M h K J ((q, .bastore, len, a, b, c, v, ts) :: cs) ls (.inl y :: .inl x :: .inr (.inr (18, n0, i0)) :: st) μ = ∃ j, x = nI j ∧ j < n0 ∧ (y = 0 ∨ y = 1) ∧ ∀ m, m = upI μ i0 j y → bb X P M h K J cs ls st m := by
  rw [b_bastore]
  exact congrArg _ (funext fun j => congrArg _ (congrArg _ (congrArg _ nm_all)))
theorem n_lastore {x : Int32} {y : Int64} : bb X P M h K J ((q, .lastore, len, a, b, c, v, ts) :: cs) ls (.inr (.inl y) :: .inl x :: .inr (.inr (17, n0, i0)) :: st) μ = ∃ j, x = nI j ∧ j < n0 ∧ ∀ m, m = upL μ i0 j y → bb X P M h K J cs ls st m := by
  rw [b_lastore]
  exact congrArg _ (funext fun j => congrArg _ (congrArg _ nm_all))
theorem n_putI {n : Nat} {x : Int32} : bb X P M h K J ((q, .putfield n, len, a, b, 0, v, ts) :: cs) ls (.inl x :: .inr (.inr (a, n0, i0)) :: st) μ = ∀ m, m = upI μ i0 b x → bb X P M h K J cs ls st m := by
  rw [b_putI]
  exact nm_all
theorem n_putZ {n : Nat} {x : Int32} : bb X P M h K J ((q, .putfield n, len, a, b, 2, v, ts) :: cs) ls (.inl x :: .inr (.inr (a, n0, i0)) :: st) μ = ((x = 0 ∨ x = 1) ∧ ∀ m, m = upI μ i0 b x → bb X P M h K J cs ls st m) := by
  rw [b_putZ]
  exact congrArg _ nm_all
theorem n_putL {n : Nat} {x : Int64} : bb X P M h K J ((q, .putfield n, len, a, b, 1, v, ts) :: cs) ls (.inr (.inl x) :: .inr (.inr (a, n0, i0)) :: st) μ = ∀ m, m = upL μ i0 b x → bb X P M h K J cs ls st m := by
  rw [b_putL]
  exact nm_all
theorem n_copy {n n1 i1 : Nat} {k dp sp : Int32} : bb X P M h K J ((q, .invokestatic n, len, a, 5, 9, v, ts) :: cs) ls (.inl k :: .inl dp :: .inr (.inr (16, n1, i1)) :: .inl sp :: .inr (.inr (16, n0, i0)) :: st) μ = (if mCat st ≤ 8 then ∃ sj dj nj, sp = nI sj ∧ dp = nI dj ∧ k = nI nj ∧ sj + nj ≤ n0 ∧ dj + nj ≤ n1 ∧ ∀ m, m = cpI μ i1 (va_cpy (μ.1 i0) (μ.1 i1) sj dj nj) → bb X P M h K J cs ls st m else False) := by
  rw [b_copy]
  refine congrArg (fun z => if mCat st ≤ 8 then z else False) ?_
  refine congrArg _ (funext fun sj => congrArg _ (funext fun dj => congrArg _ (funext fun nj => ?_)))
  exact congrArg _ (congrArg _ (congrArg _ (congrArg _ (congrArg _ nm_all))))
theorem n_istore {n : Nat} {x : Int32} : bb X P M h K J ((q, .istore n, len, a, b, c, v, ts) :: cs) ls (.inl x :: st) μ = ldelK ls a (fun l => ∀ y, y = x → bb X P M h K J cs ((a, .inl y) :: l) st μ) := by
  rw [b_istore, ldelK]
theorem n_lstore {n : Nat} {x : Int64} : bb X P M h K J ((q, .lstore n, len, a, b, c, v, ts) :: cs) ls (.inr (.inl x) :: st) μ = ldel2K ls a (fun l => ∀ y, y = x → bb X P M h K J cs ((a, .inr (.inl y)) :: l) st μ) := by
  rw [b_lstore, ldel2K]
theorem n_astore {n : Nat} {x : Nat × Nat × Nat} : bb X P M h K J ((q, .astore n, len, a, b, c, v, ts) :: cs) ls (.inr (.inr x) :: st) μ = ldelK ls a (fun l => bb X P M h K J cs ((a, .inr (.inr x)) :: l) st μ) := by
  rw [b_astore, ldelK]
theorem n_istore_n {n : Fin 4} {x : Int32} : bb X P M h K J ((q, .istore_n n, len, a, b, c, v, ts) :: cs) ls (.inl x :: st) μ = ldelK ls a (fun l => ∀ y, y = x → bb X P M h K J cs ((a, .inl y) :: l) st μ) := by
  rw [b_istore_n, ldelK]
theorem n_lstore_n {n : Fin 4} {x : Int64} : bb X P M h K J ((q, .lstore_n n, len, a, b, c, v, ts) :: cs) ls (.inr (.inl x) :: st) μ = ldel2K ls a (fun l => ∀ y, y = x → bb X P M h K J cs ((a, .inr (.inl y)) :: l) st μ) := by
  rw [b_lstore_n, ldel2K]
theorem n_astore_n {n : Fin 4} {x : Nat × Nat × Nat} : bb X P M h K J ((q, .astore_n n, len, a, b, c, v, ts) :: cs) ls (.inr (.inr x) :: st) μ = ldelK ls a (fun l => bb X P M h K J cs ((a, .inr (.inr x)) :: l) st μ) := by
  rw [b_astore_n, ldelK]
theorem n_iinc {n : Nat} {k : Int} {d : Int32} : bb X P M h K J ((q, .iinc n k, len, a, b, c, .inl d, ts) :: cs) ls st μ = ldI (lget ls a) (fun x => ldelK ls a (fun l => ∀ y, y = x + d → bb X P M h K J cs ((a, .inl y) :: l) st μ)) := by
  rw [b_iinc]
  rfl
end MT0
/-- a loop that counts up: from what each round asks, to its first -/
theorem loop_up (Q : Nat → Prop) (n : Nat) (he : Q n) (hs : ∀ i, i < n → Q (i + 1) → Q i) : Q 0 := by
  have key : ∀ k, k ≤ n → Q (n - k) := by
    intro k
    induction k with
    | zero => intro _; exact he
    | succ k ih =>
      intro hk
      have h1 := ih (by omega)
      have h2 := hs (n - (k + 1)) (by omega)
      rw [show n - (k + 1) + 1 = n - k by omega] at h2
      exact h2 h1
  have := key n (Nat.le_refl n)
  rwa [Nat.sub_self] at this
theorem loop_fr (Q : Nat → Prop) (i0 n : Nat) (hi : i0 ≤ n) (he : Q n) (hs : ∀ i, i0 ≤ i → i < n → Q (i + 1) → Q i) : Q i0 := by
  have := loop_up (fun k => Q (i0 + k)) (n - i0) (by show Q (i0 + (n - i0)); rw [show i0 + (n - i0) = n by omega]; exact he) (fun i hi2 hq => hs (i0 + i) (by omega) (by omega) hq)
  exact this
/-- f 0, then f 1, .. then f (n - 1) -/
def fo {α : Type} (n : Nat) (f : Nat → α → α) (a : α) : α := match n with
  | 0 => a
  | n + 1 => f n (fo n f a)
theorem fo_0 {α : Type} {f : Nat → α → α} {a : α} : fo 0 f a = a := rfl
theorem fo_s {α : Type} {n : Nat} {f : Nat → α → α} {a : α} : fo (n + 1) f a = f n (fo n f a) := rfl
abbrev Bk : Type := Nat → Nat → Int32
def bk (μ : Mem) (i : Nat) : Bk := fun k => μ.1 (i + k)
def sb (μ : Mem) (i n : Nat) (R : Bk) : Mem := (fun j => if i ≤ j ∧ j < i + n then R (j - i) else μ.1 j, μ.2)
def u2 (R : Bk) (k j : Nat) (x : Int32) : Bk := va_up R k (upd (R k) j x)
section MT2
variable {μ : Mem} {i n k j l : Nat} {x : Int32} {R R' : Bk}
theorem sb_in (hk : k < n) : (sb μ i n R).1 (i + k) = R k := by
  show (if i ≤ i + k ∧ i + k < i + n then R (i + k - i) else μ.1 (i + k)) = R k
  rw [if_pos ⟨by omega, by omega⟩, show i + k - i = k by omega]
theorem sb_in0 (hk : 0 < n) : (sb μ i n R).1 i = R 0 := sb_in (i := i) (k := 0) hk
theorem sb_out (hj : j < i ∨ i + n ≤ j) : (sb μ i n R).1 j = μ.1 j := by
  show (if i ≤ j ∧ j < i + n then R (j - i) else μ.1 j) = μ.1 j
  rw [if_neg (by omega)]
theorem sb_2 : (sb μ i n R).2 = μ.2 := rfl
theorem sb_self : sb μ i n (bk μ i) = μ := by
  refine Prod.ext (funext fun j => ?_) rfl
  show (if i ≤ j ∧ j < i + n then μ.1 (i + (j - i)) else μ.1 j) = μ.1 j
  split
  · rw [show i + (j - i) = j by omega]
  · rfl
theorem upI_sb (hk : k < n) : upI (sb μ i n R) (i + k) j x = sb μ i n (u2 R k j x) := by
  refine Prod.ext (funext fun l => ?_) rfl
  show va_up (sb μ i n R).1 (i + k) (upd ((sb μ i n R).1 (i + k)) j x) l = (if i ≤ l ∧ l < i + n then va_up R k (upd (R k) j x) (l - i) else μ.1 l)
  rw [sb_in hk]
  by_cases hl : l = i + k
  · subst hl
    rw [up_at, if_pos ⟨by omega, by omega⟩, show i + k - i = k by omega, up_at]
  · rw [up_off l hl]
    show (if i ≤ l ∧ l < i + n then R (l - i) else μ.1 l) = _
    split
    · rw [up_off (l - i) (by omega)]
    · rfl
theorem upI_sb0 (hk : 0 < n) : upI (sb μ i n R) i j x = sb μ i n (u2 R 0 j x) := upI_sb (i := i) (k := 0) hk
theorem upI_sbo {l : Nat} (hl : l < i ∨ i + n ≤ l) : upI (sb μ i n R) l j x = sb (upI μ l j x) i n R := by
  refine Prod.ext (funext fun m => ?_) rfl
  show va_up (sb μ i n R).1 l (upd ((sb μ i n R).1 l) j x) m = (if i ≤ m ∧ m < i + n then R (m - i) else va_up μ.1 l (upd (μ.1 l) j x) m)
  rw [sb_out hl]
  by_cases hm : m = l
  · subst hm
    rw [up_at, if_neg (by omega), up_at]
  · rw [up_off m hm, up_off m hm]
    rfl
theorem sb_sb : sb (sb μ i n R) i n R' = sb μ i n R' := by
  refine Prod.ext (funext fun j => ?_) rfl
  show (if i ≤ j ∧ j < i + n then R' (j - i) else (if i ≤ j ∧ j < i + n then R (j - i) else μ.1 j)) = (if i ≤ j ∧ j < i + n then R' (j - i) else μ.1 j)
  split <;> rfl
theorem u2_row (hk : l ≠ k) : u2 R k j x l = R l := up_off l hk
theorem u2_at : u2 R k j x k = upd (R k) j x := up_at
theorem upd_at {f : Nat → Int32} : upd f j x j = x := by unfold upd; rw [if_pos rfl]
theorem upd_ne {f : Nat → Int32} (h : l ≠ j) : upd f j x l = f l := upd_off l h
theorem cp_sb (hk : k < n) {f : Nat → Int32} : cpI (sb μ i n R) (i + k) f = sb μ i n (va_up R k f) := by
  refine Prod.ext (funext fun l => ?_) rfl
  show va_up (sb μ i n R).1 (i + k) f l = (if i ≤ l ∧ l < i + n then va_up R k f (l - i) else μ.1 l)
  by_cases hl : l = i + k
  · subst hl
    rw [up_at, if_pos ⟨by omega, by omega⟩, show i + k - i = k by omega, up_at]
  · rw [up_off l hl]
    show (if i ≤ l ∧ l < i + n then R (l - i) else μ.1 l) = _
    split
    · rw [up_off (l - i) (by omega)]
    · rfl
theorem bk_sb (h : l + n ≤ i ∨ i + k ≤ l) {m : Nat} (hm : m < n) : bk (sb μ i k R) l m = bk μ l m := sb_out (by omega)
end MT2
/-- an index that is a known number -/
theorem ixq {c n : Nat} {P : Nat → Prop} (hc : c < n) (hn : n < 2 ^ 31) : (∃ j, nI c = nI j ∧ j < n ∧ P j) = P c := by
  apply propext
  constructor
  · rintro ⟨j, h1, h2, h3⟩
    rwa [(nI_eq (by omega) (by omega)).mp h1]
  · exact fun h => ⟨c, rfl, hc, h⟩
theorem ixz {c n : Nat} {y : Int32} {P : Nat → Prop} (hc : c < n) (hn : n < 2 ^ 31) : (∃ j, nI c = nI j ∧ j < n ∧ (y = 0 ∨ y = 1) ∧ P j) = ((y = 0 ∨ y = 1) ∧ P c) := ixq (P := fun j => (y = 0 ∨ y = 1) ∧ P j) hc hn
theorem nI_mul (a b : Nat) : nI a * nI b = nI (a * b) := pk_mul a b
theorem nI_subq {a b : Nat} (h : b ≤ a) : nI a - nI b = nI (a - b) := pk_sub h
theorem nI_lq {a b : Nat} (ha : a < 2 ^ 31) (hb : b < 2 ^ 31) : (nI a ≤ nI b) = (a ≤ b) := propext (nI_leI ha hb)
theorem nI_ltq {a b : Nat} (ha : a < 2 ^ 31) (hb : b < 2 ^ 31) : (nI a < nI b) = (a < b) := propext (nI_ltI ha hb)
theorem nI_eqq {a b : Nat} (ha : a < 2 ^ 31) (hb : b < 2 ^ 31) : (nI a = nI b) = (a = b) := propext (nI_eq ha hb)
theorem nI_lz {a : Nat} (ha : a < 2 ^ 31) : (nI a < 0) = False := propext ⟨fun h => absurd h (nI_pos ha), False.elim⟩
theorem nI_ez {a : Nat} (ha : a < 2 ^ 31) : (nI a = 0) = (a = 0) := by
  rw [← nI_0]
  exact nI_eqq ha (by decide)
theorem nI_zl {a : Nat} (ha : a < 2 ^ 31) : (0 ≤ nI a) = True := propext ⟨fun _ => trivial, fun _ => nI_pos' ha⟩
theorem nI00 : (nI 0 = 0) = True := propext ⟨fun _ => trivial, fun _ => rfl⟩
theorem nI10 : (nI 1 = 0) = False := propext ⟨fun h => absurd h (by decide), False.elim⟩
theorem nI01 : (nI 0 = 1) = False := propext ⟨fun h => absurd h (by decide), False.elim⟩
theorem nI11 : (nI 1 = 1) = True := propext ⟨fun _ => trivial, fun _ => rfl⟩
theorem nI0b : (nI 0 = 0 ∨ nI 0 = 1) = True := propext ⟨fun _ => trivial, fun _ => Or.inl rfl⟩
theorem nI1b : (nI 1 = 0 ∨ nI 1 = 1) = True := propext ⟨fun _ => trivial, fun _ => Or.inr rfl⟩
theorem i_nlt {x y : Int32} : (¬ x < y) = (y ≤ x) := propext Int32.not_lt
theorem i_nle {x y : Int32} : (¬ x ≤ y) = (y < x) := propext Int32.not_le

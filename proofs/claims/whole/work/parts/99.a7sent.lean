section MSk
variable {T B S : Bk} {G W : Nat} {one : Bk → Bk → PR}
def KB (T : Bk) (p : PR) : Prop := K10 T p ∧ KW2 T p
theorem KB_0 {T' S' : Bk} (h : T' 2 = T 2) : KB T (nI 0, T', S') := ⟨K10_0, h⟩
theorem KB_1 {T' S' : Bk} (h1 : T' 0 10 = T 0 10) (h : T' 2 = T 2) : KB T (nI 1, T', S') := ⟨K10_1 h1, h⟩
theorem ite_b {c : Prop} [Decidable c] {a b : PR} (h1 : c → KB T a) (h2 : ¬ c → KB T b) : KB T (if c then a else b) := by
  by_cases h : c
  · rw [if_pos h]; exact h1 h
  · rw [if_neg h]; exact h2 h
theorem KB_s {p : PR} (h : KB T p) (hp : ¬ p.1 = 0) : p.2.1 0 10 = T 0 10 ∧ p.2.1 2 = T 2 := ⟨h.1.2 (h.1.1.elim (fun z => absurd z hp) id), h.2⟩
theorem KB_t {T1 : Bk} {p : PR} (h : KB T1 p) (h1 : T1 0 10 = T 0 10) (h2 : T1 2 = T 2) : KB T p := ⟨⟨h.1.1, fun z => (h.1.2 z).trans h1⟩, h.2.trans h2⟩
theorem chain_b {kw : Int32} (ho : ∀ T S, KB T (one T S)) : ∀ m (T S : Bk), KB T (chainF kw one m T S) := by
  intro m
  induction m with
  | zero => intro T S; exact KB_1 rfl rfl
  | succ m ih =>
    intro T S
    unfold chainF
    refine ite_b (fun _ => ?_) (fun _ => KB_1 rfl rfl)
    have h := ho (advF T) S
    generalize one (advF T) S = p at h ⊢
    refine ite_b (fun _ => KB_0 (h.2.trans adv_r)) (fun hp => ?_)
    have hs := KB_s h hp
    exact KB_t (ih _ _) (hs.1.trans adv_10) (hs.2.trans adv_r)
theorem all_b (ho : ∀ T S, KB T (one T S)) : ∀ (T S : Bk), KB T (allF one T S) := by
  intro T S
  unfold allF
  have h := ho T S
  generalize one T S = p at h ⊢
  refine ite_b (fun _ => KB_0 h.2) (fun hp => ?_)
  have hs := KB_s h hp
  exact KB_t (chain_b ho _ _ _) hs.1 hs.2
theorem cond_b (ho : ∀ T S, KB T (one T S)) : ∀ (T S : Bk), KB T (condF one T S) := by
  intro T S
  unfold condF
  have h := all_b ho T S
  generalize allF one T S = p at h ⊢
  refine ite_b (fun _ => KB_0 h.2) (fun hp => ?_)
  have hs := KB_s h hp
  exact KB_t (chain_b (all_b ho) _ _ _) hs.1 hs.2
theorem named_b {kw : Int32} (g6 : G ≤ 6) (w8 : W ≤ 8) : KB T (sNamedF G W B kw T S) := by
  unfold sNamedF
  have a1 := find_r (T := T) (f := B 2) (n := W)
  have a2 := findF_or (f := B 2) (n := W) (T := T) (by omega)
  have b1 := find_r (T := T) (f := B 1) (n := G)
  have b2 := findF_or (f := B 1) (n := G) (T := T) (by omega)
  generalize findF (B 2) W T = p at a1 a2 ⊢
  generalize findF (B 1) G T = q at b1 b2 ⊢
  refine ite_b (fun _ => ?_) (fun _ => ?_)
  · refine ite_b (fun _ => KB_0 a1) (fun hp => ?_)
    have e : p.2 = T := a2.elim (fun z => absurd z hp) (fun ⟨_, _, _, z⟩ => z)
    rw [e]
    exact KB_1 adv_10 adv_r
  · refine ite_b (fun _ => KB_0 b1) (fun hp => ?_)
    have e : q.2 = T := b2.elim (fun z => absurd z hp) (fun ⟨_, _, _, z⟩ => z)
    rw [e]
    exact KB_1 adv_10 adv_r
theorem cmp_b {kw : Int32} : KB T (sCmpF kw T S) := by
  unfold sCmpF
  refine ite_b (fun _ => ?_) (fun _ => KB_0 fail_r)
  refine ite_b (fun _ => KB_1 ?_ ?_) (fun _ => KB_0 ?_)
  · rw [adv_10, adv_10]
  · rw [adv_r, adv_r]
  · rw [fail_r, adv_r]
theorem brk_b {cond : Bk → Bk → PR} (ho : ∀ T S, KB T (cond T S)) : KB T (brkF cond T S) := by
  unfold brkF
  have h := ho T S
  generalize cond T S = p at h ⊢
  refine ite_b (fun _ => KB_0 h.2) (fun hp => ?_)
  have hs := KB_s h hp
  refine ite_b (fun _ => KB_1 (adv_10.trans hs.1) (adv_r.trans hs.2)) (fun _ => KB_0 (fail_r.trans hs.2))
theorem not_b (ho : ∀ T S, KB T (one T S)) : KB T (notF one T S) := by
  unfold notF
  have h := ho T S
  generalize one T S = p at h ⊢
  refine ite_b (fun _ => KB_0 h.2) (fun hp => ?_)
  have hs := KB_s h hp
  exact KB_1 hs.1 hs.2
theorem one_b (g6 : G ≤ 6) (w8 : W ≤ 8) : ∀ n (T S : Bk), KB T (sOneF G W B n T S) := by
  intro n
  induction n with
  | zero =>
    intro T S
    unfold sOneF
    exact ite_b (fun _ => KB_0 fail_r) (fun _ => KB_0 fail_r)
  | succ n ih =>
    intro T S
    unfold sOneF
    refine ite_b (fun _ => ?_) (fun _ => KB_0 fail_r)
    refine ite_b (fun _ => KB_0 fail_r) (fun _ => ?_)
    refine ite_b (fun _ => KB_t (brk_b (cond_b ih)) adv_10 adv_r) (fun _ => ?_)
    refine ite_b (fun _ => KB_t (not_b ih) adv_10 adv_r) (fun _ => ?_)
    exact ite_b (fun _ => KB_t cmp_b adv_10 adv_r) (fun _ => KB_t (named_b g6 w8) adv_10 adv_r)
theorem sFrom_b (g6 : G ≤ 6) (w8 : W ≤ 8) : ((sFromF G W B T S).1 = nI 0 ∨ (sFromF G W B T S).1 = nI 1) ∧ ((sFromF G W B T S).1 = nI 1 → (sFromF G W B T S).2.1 0 10 = nI 0) ∧ (sFromF G W B T S).2.1 2 = T 2 := by
  have h := cond_b (one_b (B := B) g6 w8 8) (openF (nI 200) T) (u2 (u2 S 0 0 (nI 0)) 0 1 (nI 0))
  have key : KB (openF (nI 200) T) (sFromF G W B T S) := by
    unfold sFromF
    simp only
    generalize condF (sOneF G W B 8) (openF (nI 200) T) (u2 (u2 S 0 0 (nI 0)) 0 1 (nI 0)) = p at h ⊢
    refine ite_b (fun _ => KB_0 h.2) (fun hp => ?_)
    have hs := KB_s h hp
    exact ite_b (fun _ => KB_1 hs.1 hs.2) (fun _ => KB_0 (fail_r.trans hs.2))
  generalize sFromF G W B T S = F at key ⊢
  refine ⟨key.1.1, fun z => (key.1.2 z).trans open_10, ?_⟩
  have e : openF (nI 200) T 2 = T 2 := by
    unfold openF
    rw [adv_r]
    simp (disch := omega) only [u2_row]
  exact key.2.trans e
end MSk

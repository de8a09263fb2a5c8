/-! the world of a shape, any addresses, any memory -/
def obG (ad : Nat → Nat) (f : Nat → Int32) (g : Nat → Int64) (i : Nat) : Nat → List (Nat × Nat × Nat × Nat) → List Value
  | _, [] => []
  | k, t :: ts => (if t.1 = 3 then .ref (ad (i + t.2.2.2)) else if t.1 = 1 then .long (g k) else .int (f k)) :: obG ad f g i (k + 1) ts
def ceG (cA : Nat → ClassId) (ad : Nat → Nat) (v : Nat → Nat → Int32) (u : Nat → Nat → Int64) (i : Nat) (q : Nat × Nat) : va_E :=
  if q.1 = 16 then .inl (cA 0, q.2, .inl (v i))
  else if q.1 = 17 then .inl (cA 1, q.2, .inr (.inl (u i)))
  else if q.1 = 18 then .inl (cA 2, q.2, .inl (v i))
  else if q.1 = 19 then .inl (cA 3, q.2, .inr (.inr (.inr (.inr (fun j => some (ad (i + 1 + 36 * j)))))))
  else .inr (q.1, obG ad (v i) (u i) i 0 (mF q.1))
def wG (cA : Nat → ClassId) (ad : Nat → Nat) (v : Nat → Nat → Int32) (u : Nat → Nat → Int64) : Nat → List (Nat × Nat) → va_W
  | _, [] => []
  | i, q :: t => (ad i, ceG cA ad v u i q) :: wG cA ad v u (i + 1) t
theorem mapIdx_go {α β : Type} (g : Nat → α → β) (F : Nat → List α → List β) (h0 : ∀ i, F i [] = []) (h1 : ∀ i a t, F i (a :: t) = g i a :: F (i + 1) t) : ∀ (l : List α) (i : Nat), l.mapIdx (fun k a => g (i + k) a) = F i l := by
  intro l
  induction l with
  | nil => intro i; rw [h0]; rfl
  | cons a t ih =>
    intro i
    rw [h1, List.mapIdx_cons, ← ih (i + 1)]
    congr 1
    congr 1
    funext k b
    rw [show i + (k + 1) = i + 1 + k by omega]
theorem mObj_G (X : mC) (μ : Mem) (i c : Nat) : mObj X μ i c = obG (mAd X) (μ.1 i) (μ.2 i) i 0 (mF c) := by
  have h := mapIdx_go (fun k t => mFv X μ i k t) (obG (mAd X) (μ.1 i) (μ.2 i) i) (fun _ => rfl) (fun k t ts => rfl) (mF c) 0
  rw [← h]
  unfold mObj
  congr 1
  funext k t
  rw [Nat.zero_add]
theorem mCell_G (X : mC) (μ : Mem) (i : Nat) (q : Nat × Nat) : mCell X μ i q = ceG (mcA X) (mAd X) μ.1 μ.2 i q := by
  unfold mCell ceG
  rw [mObj_G]
theorem mW_G (X : mC) (μ : Mem) : mW X μ = wG (mcA X) (mAd X) μ.1 μ.2 0 mSh := by
  have h := mapIdx_go (fun i q => (mAd X i, mCell X μ i q)) (wG (mcA X) (mAd X) μ.1 μ.2) (fun _ => rfl) (fun i q t => by rw [mCell_G]; rfl) mSh 0
  have e : (fun (i : Nat) (q : Nat × Nat) => ((mAd X i, mCell X μ i q) : Nat × va_E)) = fun k a => (fun (i : Nat) (q : Nat × Nat) => ((mAd X i, mCell X μ i q) : Nat × va_E)) (0 + k) a := by
    funext k t
    rw [Nat.zero_add]
  exact (congrArg (fun F => List.mapIdx F mSh) e).trans h
section MWG
variable {cA : Nat → ClassId} {ad ad' : Nat → Nat} {v v' : Nat → Nat → Int32} {u u' : Nat → Nat → Int64}
theorem wG_app : ∀ (s1 s2 : List (Nat × Nat)) (i : Nat), wG cA ad v u i (s1 ++ s2) = wG cA ad v u i s1 ++ wG cA ad v u (i + s1.length) s2 := by
  intro s1
  induction s1 with
  | nil => intro s2 i; rfl
  | cons q t ih =>
    intro s2 i
    show (ad i, ceG cA ad v u i q) :: wG cA ad v u (i + 1) (t ++ s2) = (ad i, ceG cA ad v u i q) :: (wG cA ad v u (i + 1) t ++ wG cA ad v u (i + (t.length + 1)) s2)
    rw [ih s2 (i + 1), show i + 1 + t.length = i + (t.length + 1) by omega]
/-- where a shape's references end -/
def clF (n i : Nat) : List (Nat × Nat × Nat × Nat) → Bool
  | [] => true
  | t :: ts => (if t.1 = 3 then decide (i + t.2.2.2 < n) else true) && clF n i ts
def clS (n : Nat) : Nat → List (Nat × Nat) → Bool
  | _, [] => true
  | i, q :: t => decide (i < n) && (decide (q.1 ≠ 19) && (clF n i (mF q.1) && clS n (i + 1) t))
theorem obG_c {n i o : Nat} {f f' : Nat → Int32} {g g' : Nat → Int64} (ha : ∀ k, k < n → ad (o + k) = ad' k) (hf : f = f') (hg : g = g') : ∀ (ts : List (Nat × Nat × Nat × Nat)) (k : Nat), clF n i ts = true → obG ad f g (o + i) k ts = obG ad' f' g' i k ts := by
  intro ts
  induction ts with
  | nil => intro k _; rfl
  | cons t ts ih =>
    intro k hc
    unfold clF at hc
    rw [Bool.and_eq_true] at hc
    unfold obG
    rw [ih (k + 1) hc.2, hf, hg]
    by_cases h3 : t.1 = 3
    · have h1 := hc.1
      rw [if_pos h3, decide_eq_true_eq] at h1
      rw [if_pos h3, if_pos h3, Nat.add_assoc, ha _ h1]
    · rw [if_neg h3, if_neg h3]
/-- a shape's world, elsewhere -/
theorem wG_c {n o : Nat} (ha : ∀ k, k < n → ad (o + k) = ad' k) (hv : ∀ k, k < n → v (o + k) = v' k) (hu : ∀ k, k < n → u (o + k) = u' k) : ∀ (sh : List (Nat × Nat)) (i : Nat), clS n i sh = true → wG cA ad v u (o + i) sh = wG cA ad' v' u' i sh := by
  intro sh
  induction sh with
  | nil => intro i _; rfl
  | cons q t ih =>
    intro i hc
    unfold clS at hc
    simp only [Bool.and_eq_true, decide_eq_true_eq] at hc
    obtain ⟨h1, h2, h3, h4⟩ := hc
    unfold wG
    rw [Nat.add_assoc, ih (i + 1) h4, ha i h1]
    have e : ceG cA ad v u (o + i) q = ceG cA ad' v' u' i q := by
      unfold ceG
      rw [hv i h1, hu i h1, obG_c ha rfl rfl (mF q.1) 0 h3, if_neg h2, if_neg h2]
    rw [e]
end MWG
/-- functions one behind the other -/
def glue {α : Type} (d : α) : List (Nat × (Nat → α)) → Nat → α
  | [], _ => d
  | (n, f) :: t, i => if i < n then f i else glue d t (i - n)
theorem glue_h {α : Type} {d : α} {n : Nat} {f : Nat → α} {t : List (Nat × (Nat → α))} {i : Nat} (h : i < n) : glue d ((n, f) :: t) i = f i := by
  unfold glue
  exact if_pos h
theorem glue_s {α : Type} {d : α} {n : Nat} {f : Nat → α} {t : List (Nat × (Nat → α))} {i j : Nat} (h : i = n + j) : glue d ((n, f) :: t) i = glue d t j := by
  subst h
  show (if n + j < n then f (n + j) else glue d t (n + j - n)) = glue d t j
  rw [if_neg (by omega), Nat.add_sub_cancel_left]
/-- the same contents as far as the row goes -/
theorem va_P_eq {D : va_G} {cl : List vw_C} {w1 w2 : va_W} {a : Nat} {cA : ClassId} {x y : vp_A} {H : Heap} (he : vp_cell cA x = vp_cell cA y) (h : va_P D cl (w1 ++ (a, .inl (cA, x)) :: w2) H) : va_P D cl (w1 ++ (a, .inl (cA, y)) :: w2) H := by
  intro k q hk
  by_cases h1 : k < w1.length
  · rw [List.getElem?_append_left h1] at hk
    exact h k q (by rw [List.getElem?_append_left h1]; exact hk)
  · rw [List.getElem?_append_right (by omega)] at hk
    by_cases h2 : k - w1.length = 0
    · rw [h2] at hk
      cases hk
      have h3 := h k (a, .inl (cA, x)) (by rw [List.getElem?_append_right (by omega), h2]; rfl)
      show H[a]? = some (vp_cell cA y)
      rw [← he]
      exact h3
    · refine h k q ?_
      rw [List.getElem?_append_right (by omega)]
      obtain ⟨j, hj⟩ : ∃ j, k - w1.length = j + 1 := ⟨k - w1.length - 1, by omega⟩
      rw [hj] at hk ⊢
      exact hk
theorem va_D_eq {A : Nat → Prop} {w1 w2 : va_W} {a : Nat} {e1 e2 : va_E} (h : va_D A (w1 ++ (a, e1) :: w2)) : va_D A (w1 ++ (a, e2) :: w2) := by
  have key : ∀ (k : Nat) (q : Nat × va_E), (w1 ++ (a, e2) :: w2)[k]? = some q → ∃ q' : Nat × va_E, (w1 ++ (a, e1) :: w2)[k]? = some q' ∧ q'.1 = q.1 := by
    intro k q hk
    by_cases h1 : k < w1.length
    · rw [List.getElem?_append_left h1] at hk
      exact ⟨q, by rw [List.getElem?_append_left h1]; exact hk, rfl⟩
    · rw [List.getElem?_append_right (by omega)] at hk ⊢
      by_cases h2 : k - w1.length = 0
      · rw [h2] at hk ⊢
        cases hk
        exact ⟨(a, e1), rfl, rfl⟩
      · obtain ⟨j, hj⟩ : ∃ j, k - w1.length = j + 1 := ⟨k - w1.length - 1, by omega⟩
        rw [hj] at hk ⊢
        exact ⟨q, hk, rfl⟩
  refine ⟨fun i j p q hi hj hpq => ?_, fun k q hk => ?_⟩
  · obtain ⟨p', g1, g2⟩ := key i p hi
    obtain ⟨q', g3, g4⟩ := key j q hj
    exact h.1 i j p' q' g1 g3 (by rw [g2, g4]; exact hpq)
  · obtain ⟨q', g1, g2⟩ := key k q hk
    rw [← g2]
    exact h.2 k q' g1
theorem arrV_eq {cA : ClassId} {n : Nat} {f g : Nat → Value} (h : ∀ j, j < n → f j = g j) : arrV cA n f = arrV cA n g := by
  unfold arrV
  have e : (fun j : Fin n => f j.val) = (fun j : Fin n => g j.val) := funext fun j => h j.val j.isLt
  rw [e]
theorem va_join1 {A0 : Nat → Prop} {D : va_G} {cl : List vw_C} {ws w1 : va_W} {q : Nat} {e : va_E} {H H1 : Heap} (hP : va_P D cl (ws ++ [(q, e)]) H) (hD : va_D A0 (ws ++ [(q, e)])) (hk : ∀ z : Nat, z < H.size → ¬ va_A [(q, e)] H.size z → H1[z]? = H[z]?) (hF : ∀ z, va_A [(q, e)] H.size z → A0 z) (hP1 : va_P D cl w1 H1) (hD1 : va_D (va_A [(q, e)] H.size) w1) : va_P D cl (ws ++ w1) H1 ∧ va_D A0 (ws ++ w1) := by
  have hl : ∀ (k : Nat) (x : Nat × va_E), ws[k]? = some x → (ws ++ [(q, e)])[k]? = some x := fun k x hx => by
    rw [List.getElem?_append_left (List.getElem?_eq_some_iff.mp hx).1]
    exact hx
  have hlast : (ws ++ [(q, e)])[ws.length]? = some (q, e) := by
    rw [List.getElem?_append_right (Nat.le_refl _), Nat.sub_self]
    rfl
  have hne : ∀ (k : Nat) (x : Nat × va_E), ws[k]? = some x → x.1 ≠ q := fun k x hx h => by
    have h1 := hD.1 k ws.length x (q, e) (hl k x hx) hlast h
    have h2 := (List.getElem?_eq_some_iff.mp hx).1
    omega
  have hlt : ∀ (k : Nat) (x : Nat × va_E), ws[k]? = some x → x.1 < H.size := fun k x hx => (hP k x (hl k x hx)).lt
  have hnA : ∀ (k : Nat) (x : Nat × va_E), ws[k]? = some x → ¬ va_A [(q, e)] H.size x.1 := fun k x hx h => by
    rcases h with ⟨j, e', hj⟩ | h
    · have hj0 : j < 1 := (List.getElem?_eq_some_iff.mp hj).1
      rw [show j = 0 by omega] at hj
      have hj2 : (q, e) = (x.1, e') := Option.some.inj hj
      exact hne k x hx (congrArg Prod.fst hj2).symm
    · have := hlt k x hx
      omega
  exact ⟨va_P.app (va_P.kept (fun k x hx => hP k x (hl k x hx)) (fun k x hx => hk x.1 (hlt k x hx) (hnA k x hx))) hP1, va_D.app ⟨fun i j p r hi hj => hD.1 i j p r (hl i p hi) (hl j r hj), fun k x hx => hD.2 k x (hl k x hx)⟩ (va_D.weaken hD1 (fun k x _ h => hF x.1 h)) (fun i j p r hi hj h => hnA i p hi (by rw [h]; exact hD1.2 j r hj))⟩

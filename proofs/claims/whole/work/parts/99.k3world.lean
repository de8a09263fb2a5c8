/-! the world behind the law's constructors -/
def clT (n : Nat) : Nat → List (Nat × Nat) → Bool
  | _, [] => true
  | i, q :: t => decide (i < n) && (decide (q.1 = 19 → i = 86) && (clF n i (mF q.1) && clT n (i + 1) t))
theorem wG_c0 {cA : Nat → ClassId} {ad ad' : Nat → Nat} {v v' : Nat → Nat → Int32} {u u' : Nat → Nat → Int64} {n : Nat} (ha : ∀ k, k < n → ad k = ad' k) (h9 : ∀ j, ad (86 + 1 + 36 * j) = ad' (86 + 1 + 36 * j)) (hv : ∀ k, k < n → v k = v' k) (hu : ∀ k, k < n → u k = u' k) : ∀ (sh : List (Nat × Nat)) (i : Nat), clT n i sh = true → wG cA ad v u i sh = wG cA ad' v' u' i sh := by
  intro sh
  induction sh with
  | nil => intro i _; rfl
  | cons q t ih =>
    intro i hc
    unfold clT at hc
    simp only [Bool.and_eq_true, decide_eq_true_eq] at hc
    obtain ⟨h1, h2, h3, h4⟩ := hc
    unfold wG
    rw [ih (i + 1) h4, ha i h1]
    have e : ceG cA ad v u i q = ceG cA ad' v' u' i q := by
      have ho := obG_c (o := 0) (ad := ad) (ad' := ad') (n := n) (i := i) (f := v i) (f' := v' i) (g := u i) (g' := u' i) (fun k hk => by rw [Nat.zero_add]; exact ha k hk) (hv i h1) (hu i h1) (mF q.1) 0 h3
      rw [Nat.zero_add] at ho
      unfold ceG
      rw [ho, hv i h1, hu i h1]
      by_cases h19 : q.1 = 19
      · have hi := h2 h19
        subst hi
        rw [show (fun j => some (ad (86 + 1 + 36 * j))) = fun j => some (ad' (86 + 1 + 36 * j)) from funext fun j => congrArg some (h9 j)]
      · rw [if_neg h19, if_neg h19]
    rw [e]
def adL (aX aM : Nat → Nat) (qo i : Nat) : Nat := if i < 164 then aX i else if i < 185 then aM (i - 164) else if i < 186 then qo else aX i
theorem mSh_app : mSh = shX8 ++ (shX9 ++ [(17, 1)]) := by decide +kernel
theorem clT_X8 : clT 164 0 shX8 = true := by decide +kernel
theorem clS_X9 : clS 21 0 shX9 = true := by decide +kernel
theorem mW_0 {X : mC} {aX aM : Nat → Nat} {qo : Nat} (h : mAd X = adL aX aM qo) : mW X mu0 = (([] ++ wG (mcA X) aX vB uZ 0 shX8) ++ wG (mcA X) aM vM uZ 0 shX9) ++ [((qo, .inl (mcA X 1, 1, .inr (.inl (fun _ => 0)))) : Nat × va_E)] := by
  have e1 : wG (mcA X) (adL aX aM qo) mu0.1 mu0.2 0 shX8 = wG (mcA X) aX vB uZ 0 shX8 :=
    wG_c0 (n := 164) (fun k hk => by unfold adL; rw [if_pos hk]) (fun j => by
      unfold adL
      by_cases h1 : 86 + 1 + 36 * j < 164
      · rw [if_pos h1]
      · rw [if_neg h1, if_neg (by omega), if_neg (by omega)]) (fun k hk => by unfold mu0; exact glue_h hk) (fun k _ => rfl) shX8 0 clT_X8
  have e2 : wG (mcA X) (adL aX aM qo) mu0.1 mu0.2 (164 + 0) shX9 = wG (mcA X) aM vM uZ 0 shX9 :=
    wG_c (n := 21) (o := 164) (fun k hk => by unfold adL; rw [if_neg (by omega), if_pos (by omega), Nat.add_sub_cancel_left]) (fun k hk => by
      unfold mu0
      show glue (fun _ => 0) [(164, vB), (21, vM), (1, fun _ => fun _ => 0)] (164 + k) = vM k
      rw [glue_s (j := k) rfl, glue_h hk]) (fun k _ => rfl) shX9 0 clS_X9
  have e3 : wG (mcA X) (adL aX aM qo) mu0.1 mu0.2 185 [(17, 1)] = [((qo, .inl (mcA X 1, 1, .inr (.inl (fun _ => 0)))) : Nat × va_E)] := rfl
  rw [mW_G, mSh_app, wG_app, wG_app, show 0 + shX8.length = 164 + 0 from by decide +kernel, show 164 + 0 + shX9.length = 185 from by decide +kernel, h, e1, e2, e3, List.nil_append, List.append_assoc]
theorem mA_0 {X : mC} {A : Nat → Prop} {μ : Mem} (h : va_D A (mW X μ)) : ∀ q, mA X q → A q := by
  intro q hq
  obtain ⟨i, hi, rfl⟩ := hq
  exact h.2 i (mAd X i, mCell X μ i (mSh[i])) (mW_get X μ (List.getElem?_eq_getElem hi))
theorem dL_law_0 : decode cL_law 0 = .ok (.new 8, 3) := by decide +kernel
theorem dL_law_3 : decode cL_law 3 = .ok (.dup, 1) := by decide +kernel
theorem dL_law_4 : decode cL_law 4 = .ok (.invokespecial 19, 3) := by decide +kernel
theorem dL_law_7 : decode cL_law 7 = .ok (.astore_n 1, 1) := by decide +kernel
theorem dL_law_8 : decode cL_law 8 = .ok (.new 20, 3) := by decide +kernel
theorem dL_law_11 : decode cL_law 11 = .ok (.dup, 1) := by decide +kernel
theorem dL_law_12 : decode cL_law 12 = .ok (.invokespecial 22, 3) := by decide +kernel
theorem dL_law_15 : decode cL_law 15 = .ok (.astore_n 2, 1) := by decide +kernel
theorem dL_law_16 : decode cL_law 16 = .ok (.iconst 1, 1) := by decide +kernel
theorem dL_law_17 : decode cL_law 17 = .ok (.newarray .long, 2) := by decide +kernel
theorem dL_law_19 : decode cL_law 19 = .ok (.astore_n 3, 1) := by decide +kernel
theorem dL_law_20 : decode cL_law 20 = .ok (.iconst 0, 1) := by decide +kernel
theorem dL_law_21 : decode cL_law 21 = .ok (.istore 4, 2) := by decide +kernel
theorem cn_L_X8 : ckN R_law 7 8 19 yX8_init cX8_init 1 = true := by decide +kernel
theorem cn_L_X9 : ckN R_law 8 20 22 yX9_init cX9_init 1 = true := by decide +kernel
theorem mL_cd : mCd m_L_law = code ∧ mMx m_L_law = 8 ∧ (mY m_L_law).cls = R_law := ⟨rfl, rfl, rfl⟩
theorem lsL_ok : ∀ q ∈ lsL 0, mOk q.2 := by
  intro q hq
  have hc : q = (4, .inl (nI 0)) ∨ q = (0, .inr (.inr (21, 0, 0))) ∨ q = (1, .inr (.inr (7, 0, 0))) ∨ q = (2, .inr (.inr (8, 0, 164))) ∨ q = (3, .inr (.inr (17, 1, 185))) := by
    simpa [lsL] using hq
  rcases hc with rfl | rfl | rfl | rfl | rfl
  · trivial
  · exact trivial
  · show mSh[0]? = some (7, 0)
    decide +kernel
  · show mSh[164]? = some (8, 0)
    decide +kernel
  · show mSh[185]? = some (17, 1)
    decide +kernel

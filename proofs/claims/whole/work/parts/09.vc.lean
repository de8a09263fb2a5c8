section MMV
variable {X : mC} {P : mP} {M h : Nat} {K : MV → Mem → Prop}
def mPok (X : mC) (P : mP) (h : Nat) : Prop := ∀ (M : Nat) (a : List MV) (μ : Mem) (r : MV), P M a μ = some r → ∀ K : MV → Mem → Prop, K r μ → mMet X h M a μ K
theorem mCall_met (hP : mPok X P h) {M2 : Nat} {a : List MV} {μ : Mem} {K2 : MV → Mem → Prop} (k : mCall X P h M2 a μ K2) : mMet X h M2 a μ K2 := by
  unfold mCall at k
  split at k
  · rename_i r hr
    exact hP M2 a μ r hr K2 k
  · exact k
theorem swt_spec {x : Int32} {J : Nat → Prop} : ∀ {ts : List Nat} {lo : Nat}, swt x lo ts J → ∀ {k t : Nat}, ts[k]? = some t → x = nI (lo + k) → J t := by
  intro ts
  induction ts with
  | nil => intro lo _ k t hk; simp at hk
  | cons t0 ts ih =>
    intro lo hs k t hk hx
    obtain ⟨s1, s2⟩ := hs
    cases k with
    | zero =>
      rw [List.getElem?_cons_zero] at hk
      cases hk
      exact s1 hx
    | succ k =>
      rw [List.getElem?_cons_succ] at hk
      exact ih s2 hk (by rw [hx]; congr 1; omega)
theorem nI_ofInt {x : Int32} {k : Nat} (hk : k < 2 ^ 31) (h : x.toInt = (k : Int)) : x = nI k := by
  apply Int32.toInt_inj.mp
  rw [h, nI_toInt hk]
theorem at_tsw {q a b : Nat} {ls : List (Nat × MV)} {st : List MV} {μ : Mem} {d lo hi : Int} {offs : Array Int} {len : Nat} {ts : List Nat} {x : Int32} (hdg : decode (mCd M) q = .ok (.tableswitch d lo hi offs, len)) (hd : (q : Int) + d = (a : Int)) (hlo : (b : Int) = lo) (hhi : hi = lo + (ts.length : Int) - 1) (ho : offs.toList.map (fun o => (q : Int) + o) = ts.map (fun (t : Nat) => (t : Int))) (hb : b + ts.length < 1000)
    (kd : (x.toInt < lo ∨ hi < x.toInt) → mAt X M h K a ls st μ) (ks : swt x b ts (fun t => mAt X M h K t ls st μ)) : mAt X M h K q ls (.inl x :: st) μ := by
  intro p e R s m args below meth c cells slots Q A H locs lsA hF hR hW hD hS h1 h2 hl
  by_cases hx : x.toInt < lo ∨ hi < x.toInt
  · exact lv_tableOut hF.1 hF.2.1 hdg hx hd (kd hx p e R s m args below meth c cells slots Q A H locs lsA hF hR hW hD hS h1 (ok_tail h2) hl)
  · have x1 : ¬ x.toInt < lo := fun z => hx (Or.inl z)
    have x2 : ¬ hi < x.toInt := fun z => hx (Or.inr z)
    obtain ⟨n, hn⟩ : ∃ n : Nat, x.toInt - lo = (n : Int) := ⟨(x.toInt - lo).toNat, by omega⟩
    have hlt : n < ts.length := by omega
    have e1 : ts[n]? = some ts[n] := List.getElem?_eq_getElem hlt
    have e2 : (ts.map (fun (t : Nat) => (t : Int)))[n]? = some ((ts[n] : Nat) : Int) := by rw [List.getElem?_map, e1]; rfl
    rw [← ho, List.getElem?_map] at e2
    obtain ⟨off, hof, hoff⟩ : ∃ off, offs.toList[n]? = some off ∧ (q : Int) + off = ((ts[n] : Nat) : Int) := by
      cases hz : offs.toList[n]? with
      | none => rw [hz] at e2; cases e2
      | some off => rw [hz] at e2; exact ⟨off, rfl, Option.some.inj e2⟩
    have hxn : x = nI (b + n) := nI_ofInt (by omega) (by omega)
    refine lv_tableIn hF.1 hF.2.1 hdg x1 x2 (off := off) ?_ hoff (swt_spec ks e1 hxn p e R s m args below meth c cells slots Q A H locs lsA hF hR hW hD hS h1 (ok_tail h2) hl)
    rw [show (x.toInt - lo).toNat = n by omega, ← Array.getElem?_toList]
    exact hof
theorem lkw_spec {x : Int32} {J : Nat → Prop} {D : Prop} {q a : Nat} {d : Int} (hd : (q : Int) + d = (a : Int)) : ∀ (n : Nat) {ts : List Nat} {ps : List (Int × Int)}, ts.length ≤ n → ps.map (fun r => (r.1, (q : Int) + r.2)) = lkp ts → (∀ k ∈ ts, k < 10000) → lkw x ts J D → ∃ t : Nat, (q : Int) + Op.lookupswitch.offset ps d x.toInt = (t : Int) ∧ (J t ∨ (t = a ∧ D)) := by
  intro n
  induction n with
  | zero =>
    intro ts ps hn hp _ hk
    have : ts = [] := List.length_eq_zero_iff.mp (by omega)
    subst this
    have : ps = [] := List.map_eq_nil_iff.mp hp
    subst this
    exact ⟨a, hd, Or.inr ⟨rfl, hk⟩⟩
  | succ n ih =>
    intro ts ps hn hp hsm hk
    match ts, hn, hp, hsm, hk with
    | [], _, hp, _, hk =>
      have : ps = [] := List.map_eq_nil_iff.mp hp
      subst this
      exact ⟨a, hd, Or.inr ⟨rfl, hk⟩⟩
    | [_], _, hp, _, hk =>
      have : ps = [] := List.map_eq_nil_iff.mp hp
      subst this
      exact ⟨a, hd, Or.inr ⟨rfl, hk⟩⟩
    | k :: t :: ts, hn, hp, hsm, hk =>
      match ps, hp with
      | [], hp => cases hp
      | (u, o) :: ps, hp =>
        simp only [List.map_cons, lkp, List.cons.injEq, Prod.mk.injEq] at hp
        obtain ⟨⟨hu, ho⟩, hps⟩ := hp
        have hks : k < 10000 := hsm k List.mem_cons_self
        by_cases hx : x = nI k
        · refine ⟨t, ?_, Or.inl (hk.1 hx)⟩
          rw [Op.lookupswitch.offset_cons, if_pos (by rw [hu, hx, nI_toInt (by omega)])]
          exact ho
        · obtain ⟨t2, g1, g2⟩ := ih (ps := ps) (by simp at hn; omega) hps (fun z hz => hsm z (List.mem_cons_of_mem _ (List.mem_cons_of_mem _ hz))) (hk.2 hx)
          refine ⟨t2, ?_, g2⟩
          rw [Op.lookupswitch.offset_cons, if_neg (fun z => hx (nI_ofInt (by omega) (by rw [← z, hu])))]
          exact g1
theorem at_lsw {q a : Nat} {ls : List (Nat × MV)} {st : List MV} {μ : Mem} {d : Int} {ps : Array (Int × Int)} {len : Nat} {ts : List Nat} {x : Int32} (hdg : decode (mCd M) q = .ok (.lookupswitch d ps, len)) (hd : (q : Int) + d = (a : Int)) (hp : ps.toList.map (fun r => (r.1, (q : Int) + r.2)) = lkp ts) (hsort : (ps.toList.zip (ps.toList.drop 1)).all (fun (a, next) => a.1 < next.1) = true) (hsm : ∀ k ∈ ts, k < 10000)
    (ks : lkw x ts (fun t => mAt X M h K t ls st μ) (mAt X M h K a ls st μ)) : mAt X M h K q ls (.inl x :: st) μ := by
  intro p e R s m args below meth c cells slots Q A H locs lsA hF hR hW hD hS h1 h2 hl
  obtain ⟨t, g1, g2⟩ := lkw_spec hd ts.length (Nat.le_refl _) hp hsm ks
  have g3 : mAt X M h K t ls st μ := by
    rcases g2 with g2 | ⟨rfl, g2⟩
    · exact g2
    · exact g2
  exact lv_lookup hF.1 hF.2.1 hdg hsort rfl g1 (g3 p e R s m args below meth c cells slots Q A H locs lsA hF hR hW hD hS h1 (ok_tail h2) hl)
theorem at_iret {q : Nat} {ls : List (Nat × MV)} {μ : Mem} {x : Int32} {ty : FieldType} (hdg : decode (mCd M) q = .ok (.ireturn, 1)) (hr : mRt M = some ty) (h1 : ty ≠ .long) (hn : narrow ty (.int x) = .int x) (k : K (.inl x) μ) : mAt X M h K q ls [.inl x] μ := by
  intro p e R s m args below meth c cells slots Q A H locs lsA hF hR hW hD hS h1' h2 hl
  exact hR H locs μ (.inl x) q lsA _ hW hS k (Or.inl ⟨x, ty, rfl, rfl, hdg, hr, h1, hn⟩)
theorem at_lret {q : Nat} {ls : List (Nat × MV)} {μ : Mem} {x : Int64} (hdg : decode (mCd M) q = .ok (.lreturn, 1)) (hr : mRt M = some .long) (k : K (.inr (.inl x)) μ) : mAt X M h K q ls [.inr (.inl x)] μ := by
  intro p e R s m args below meth c cells slots Q A H locs lsA hF hR hW hD hS h1' h2 hl
  exact hR H locs μ (.inr (.inl x)) q lsA _ hW hS k (Or.inr (Or.inl ⟨x, rfl, rfl, hdg, hr⟩))
theorem at_vret {q : Nat} {ls : List (Nat × MV)} {μ : Mem} (hdg : decode (mCd M) q = .ok (.return_, 1)) (hr : mRt M = none) (k : K (.inl 0) μ) : mAt X M h K q ls [] μ := by
  intro p e R s m args below meth c cells slots Q A H locs lsA hF hR hW hD hS h1' h2 hl
  exact hR H locs μ (.inl 0) q lsA _ hW hS k (Or.inr (Or.inr ⟨rfl, rfl, hdg, hr⟩))
theorem mQ_int {ty : FieldType} (hr : mRt M = some ty) (hne : ty ≠ .long) : mQ X M K = va_Qi (fun r u => K (.inl r) u) (mB X) (mA X) := by
  unfold mQ
  rw [hr]
  cases ty <;> first | rfl | exact absurd rfl hne
/-- a method out of the walk of its body -/
theorem at_met (hm : mChkM M = true) {a : List MV} {μ : Mem} (ha : mCat a ≤ mMx M) (k : mAt X M h K 0 (mArg 0 a) [] μ) : mMet X (h + 1) M a μ K := by
  intro hok
  obtain ⟨m1, m2, m3, m4, m5, m6, m7, m8⟩ := mChkM_spec hm
  refine Met.ofW (cc := mCd M) (maxL := mMx M) (ret := mRt M) m6 rfl ?_
  intro p e s m args below meth c s₁ B hml hv
  obtain ⟨rfl, hW, hK, hD, hSt⟩ := hv
  have hr := B.returns
  have hts := atoms_spec (ws := mWs M) B.pre
  have hown : s.vm.findClass (mY M).cls = some m.cls := findClass_of_methodNamed B.named
  have hlocks := B.notSynchronized
  have hlen : (lg_sl (a.map (mTr X))).length = mCat a := by
    clear hml ha hW hD hok k hr hts hown hlocks B hK hSt
    induction a with
    | nil => rfl
    | cons v t ih =>
      show (lg_sl (mTr X v :: t.map (mTr X))).length = _
      unfold lg_sl at ih ⊢
      rw [List.flatMap_cons, List.length_append, ih, mTr_cat]
      show _ = (if mIsL v = true then 2 else 1) + mCat t
      by_cases hv : mIsL v = true
      · simp [hv]
      · simp [hv]
  have hl := lv_entry (a.map (mTr X)) (n := mMx M) (by rw [hlen]; exact ha)
  rw [lg_entry_eq]
  rw [mArg_map] at hl
  refine k p e _ s m _ below meth c 0 0 _ (mA X) s.heap [] _ ⟨B.exec, B.bytes, hml, hown, fun w hw => hts w (List.mem_cons_of_mem _ hw), ⟨Nat.le_refl _, Nat.le_refl _, Nat.le_refl _, Nat.le_refl _⟩, hSt, hK, fun _ z => z⟩ ?_ hW hD va_S.rf (fun q hq => hok _ (mArg_mem hq)) (fun v hv => by cases hv) hl
  intro H locs μ' v pc lsA stv hW' hS' hKv hri
  rcases hri with ⟨x, ty, rfl, rfl, hdg, hrt, hne, hnar⟩ | ⟨x, rfl, rfl, hdg, hrt⟩ | ⟨rfl, rfl, hdg, hrt⟩
  · refine W.zret B.exec B.bytes (hr.trans hrt) hnar (fun t ht hWm => ?_) hS'.2.2 hdg hlocks
    rw [mQ_int hrt hne]
    exact ⟨⟨x, μ', rfl, hKv, by rw [mB, ht]; exact ⟨hW', va_K.moved hWm.alike hK⟩⟩, hS'.F ht⟩
  · refine W.lret B.exec B.bytes (hr.trans hrt) (fun t ht hWm => ?_) hS'.2.2 hdg hlocks
    unfold mQ
    rw [hrt]
    exact ⟨⟨x, μ', rfl, hKv, by rw [mB, ht]; exact ⟨hW', va_K.moved hWm.alike hK⟩⟩, hS'.F ht⟩
  · refine W.vret B.exec B.bytes (hr.trans hrt) (fun t ht hWm => ?_) hS'.2.2 hdg hlocks
    unfold mQ
    rw [hrt]
    exact ⟨⟨μ', rfl, hKv, by rw [mB, ht]; exact ⟨hW', va_K.moved hWm.alike hK⟩⟩, hS'.F ht⟩
end MMV

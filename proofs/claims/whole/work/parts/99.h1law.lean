/-! the law's calls, one shape for all but two -/
def dL (q : Nat) (i : Instr) (l : Nat) : Bool := decide (decode (mCd m_L_law) q = .ok (i, l))
theorem dL_ok {q l : Nat} {i : Instr} (h : dL q i l = true) : decode (mCd m_L_law) q = .ok (i, l) := decide_eq_true_eq.mp h
def ckA : Nat → Nat → Nat → Bool
  | _, _, 0 => true
  | q, j, n + 1 => dL q (.aload_n 0) 1 && (dL (q + 1) (.iload 4) 2 && (dL (q + 1 + 2) (.iconst (j : Int)) 1 && (dL (q + 1 + 2 + 1) .iadd 1 && (dL (q + 1 + 2 + 1 + 1) .iaload 1 && ckA (q + 6) (j + 1) n))))
def ckP (q n idx8 idx9 : Nat) (off : Int) : Bool :=
  dL q (.aload_n 1) 1 && (ckA (q + 1) 1 n && (dL (q + 1 + 6 * n) (.invokevirtual idx8) 3 && (dL (q + 1 + 6 * n + 3) (.aload_n 2) 1 && (ckA (q + 1 + 6 * n + 3 + 1) 1 n && (dL (q + 1 + 6 * n + 3 + 1 + 6 * n) (.invokevirtual idx9) 3 && (dL (q + 1 + 6 * n + 3 + 1 + 6 * n + 3) (.if_icmp .eq off) 3 && decide (((q + 1 + 6 * n + 3 + 1 + 6 * n + 3 : Nat) : Int) + off = ((1525 : Nat) : Int))))))))
def ckM (idx a ci n w : Nat) : Bool :=
  mChkM a && (!mSc a && (wAt w (Cond.methodLink RL idx (mY a)) && (decide ((parseMethodDescriptor (mY a).desc).map (fun d => d.parameters.length) = some n) && (decide ((vwCl[ci]?).map (fun r => r.1) = some (mY a).cls) && (decide (ci < 16) && (decide (mRt a ≠ none) && decide (mRt a ≠ some .long)))))))
/-- the ints of the script from i + j on -/
def avs (X : mC) (i : Nat) : Nat → Nat → List MV
  | _, 0 => []
  | j, n + 1 => .inl (mcX X (i + j)) :: avs X i (j + 1) n
theorem avs_len (X : mC) (i : Nat) : ∀ n j, (avs X i j n).length = n := by
  intro n
  induction n with
  | zero => intro j; rfl
  | succ n ih => intro j; show (avs X i (j + 1) n).length + 1 = n + 1; rw [ih]
def lsL (i : Nat) : List (Nat × MV) := [(4, .inl (nI i)), (0, .inr (.inr (21, 0, 0))), (1, .inr (.inr (7, 0, 0))), (2, .inr (.inr (8, 0, 164))), (3, .inr (.inr (17, 1, 185)))]
theorem mMet_int {X : mC} {h M : Nat} {a : List MV} {μ : Mem} {K : MV → Mem → Prop} (h0 : mRt M ≠ none) (h1 : mRt M ≠ some .long) (k : mMet X h M a μ K) : mMet X h M a μ (fun r u => (∃ x : Int32, r = .inl x) ∧ K r u) := by
  intro hok p e ha hc hk' s m args below hf hap hP hK
  obtain ⟨k1, o, g1, g2, g3, g4⟩ := k hok p e ha hc hk' s m args below hf hap hP hK
  refine ⟨k1, o, g1, g2, g3, ?_, g4.2⟩
  obtain ⟨ty, hty⟩ : ∃ ty, mRt M = some ty := by
    cases hz : mRt M with
    | none => exact absurd hz h0
    | some ty => exact ⟨ty, rfl⟩
  have hne : ty ≠ .long := fun z => h1 (by rw [hty, z])
  have g5 := g4.1
  rw [mQ_int hty hne] at g5 ⊢
  obtain ⟨⟨r, u, z1, z2, z3⟩, z4⟩ := g5
  exact ⟨⟨r, u, z1, ⟨⟨r, rfl⟩, z2⟩, z3⟩, z4⟩
section MLa
variable {X : mC} {M h i sa sc : Nat} {q a b : Nat} {ls : List (Nat × MV)} {st : List MV} {μ : Mem} {p : Program} {e : Env} {R : Room} {s : State} {m : MethodId} {args : Array Value} {below : List Frame} {meth : Method} {c : Code} {cells slots : Nat} {Q : State → Prop} {A : Nat → Prop}
/-- fewer locals, in any order -/
theorem lAt_sub {ls ls' : List (Nat × MV)} (hs : ∀ q ∈ ls', q ∈ ls) (k : lAt X M p e R s m args below meth c cells slots Q A q ls' st μ) : lAt X M p e R s m args below meth c cells slots Q A q ls st μ := by
  intro H locs lsA hW hD hS h1 h2 hl
  refine k H locs lsA hW hD hS (fun q hq => h1 q (hs q hq)) h2 ⟨hl.1, hl.2.1, fun q hq => ?_⟩
  obtain ⟨r, hr, rfl⟩ := List.mem_map.mp hq
  exact hl.2.2 _ (List.mem_map.mpr ⟨r, hs r hr, rfl⟩)
theorem lAt_widen {k n : Nat} (h1 : cells ≤ k) (h2 : slots ≤ n) (kk : lAt X M p e R s m args below meth c k n Q A q ls st μ) : lAt X M p e R s m args below meth c cells slots Q A q ls st μ :=
  fun H locs lsA hW hD hS g1 g2 hl => W.widen h1 h2 (kk H locs lsA hW hD hS g1 g2 hl)
theorem mFx_room {k n : Nat} (hF : mFx X M h A p R s m args c cells slots) (h1 : k ≤ R.cells) (h2 : n ≤ R.slots) : mFx X M h A p R s m args c k n :=
  ⟨hF.1, hF.2.1, hF.2.2.1, hF.2.2.2.1, hF.2.2.2.2.1, ⟨hF.2.2.2.2.2.1.1, hF.2.2.2.2.2.1.2.1, h1, h2⟩, hF.2.2.2.2.2.2⟩
theorem lc_args (hF : mFx X m_L_law h A p R s m args c cells slots) (hi : i + 6 ≤ mcN X) (hN : mcN X ≤ 3072) (g0 : lget ls 0 = some (.inr (.inr (21, 0, 0)))) (g4 : lget ls 4 = some (.inl (nI i))) : ∀ n j q st, ckA q j n = true → j + n ≤ 6 → lAt X m_L_law p e R s m args below meth c cells slots Q A (q + 6 * n) ls ((avs X i j n).reverse ++ st) μ → lAt X m_L_law p e R s m args below meth c cells slots Q A q ls st μ := by
  intro n
  induction n with
  | zero => intro j q st _ _ k; exact k
  | succ n ih =>
    intro j q st hck hj k
    unfold ckA at hck
    simp only [Bool.and_eq_true] at hck
    obtain ⟨d0, d1, d2, d3, d4, d5⟩ := hck
    have e1 : nI i + Int32.ofInt (j : Int) = nI (i + j) := nI_add i j
    refine lc_aload_n hF (a := 0) (n := 0) (dL_ok d0) rfl g0 ?_
    refine lc_iload hF (a := 4) (dL_ok d1) g4 ?_
    refine lc_iconst hF (dL_ok d2) ?_
    refine lc_iadd hF (dL_ok d3) ?_
    rw [e1]
    refine lc_xald hF (dL_ok d4) (by omega) (by omega) ?_
    refine ih (j + 1) (q + 6) (.inl (mcX X (i + j)) :: st) d5 (by omega) ?_
    rw [show q + 6 + 6 * n = q + 6 * (n + 1) by omega]
    have e2 : (avs X i j (n + 1)).reverse ++ st = (avs X i (j + 1) n).reverse ++ .inl (mcX X (i + j)) :: st := by
      show (.inl (mcX X (i + j)) :: avs X i (j + 1) n).reverse ++ st = _
      rw [List.reverse_cons, List.append_assoc]
      rfl
    rw [← e2]
    exact k
theorem lc_pair {n q idx8 idx9 w8 w9 M8 M9 : Nat} {off : Int} (hF : mFx X m_L_law h A p R s m args c cells slots) (hck : ckP q n idx8 idx9 off = true) (h8 : ckM idx8 M8 7 n w8 = true) (h9 : ckM idx9 M9 8 n w9 = true) (hn : n ≤ 5) (hi : i + 6 ≤ mcN X) (hN : mcN X ≤ 3072) (hp : PAIR X h M8 M9 0 164 (avs X i 1 n) μ)
    (hk : ∀ μ', Rel 0 164 μ' → lAt X m_L_law p e R s m args below meth c cells slots Q A 1525 (lsL i) [] μ') : lAt X m_L_law p e R s m args below meth c cells slots Q A q (lsL i) [] μ := by
  unfold ckP at hck
  unfold ckM at h8 h9
  simp only [Bool.and_eq_true, Bool.not_eq_true', decide_eq_true_eq] at hck h8 h9
  obtain ⟨d0, d1, d2, d3, d4, d5, d6, d7⟩ := hck
  obtain ⟨a1, a2, a3, a4, a5, a6, a7, a8⟩ := h8
  obtain ⟨b1, b2, b3, b4, b5, b6, b7, b8⟩ := h9
  refine lc_aload_n hF (a := 1) (n := 1) (dL_ok d0) rfl rfl ?_
  refine lc_args hF hi hN rfl rfl n 1 (q + 1) _ d1 (by omega) ?_
  refine lc_invV hF (a := M8) (as := avs X i 1 n) (rest := []) (c0 := 1) (ci := 7) (n0 := 0) (i0 := 0) (dL_ok d2) a1 a2 (wAt_mem a3) (by rw [avs_len]; exact a4) a5 a6 ⟨fun z => absurd z (by decide), fun z => absurd z a7⟩ (Nat.zero_le _) (mMet_int a7 a8 hp) (fun r μ1 hk1 => ?_)
  obtain ⟨⟨x, rfl⟩, hp9⟩ := hk1
  show lAt X m_L_law p e R s m args below meth c cells slots Q A (q + 1 + 6 * n + 3) (lsL i) [.inl x] μ1
  refine lc_aload_n hF (a := 2) (n := 2) (dL_ok d3) rfl rfl ?_
  refine lc_args hF hi hN rfl rfl n 1 (q + 1 + 6 * n + 3 + 1) _ d4 (by omega) ?_
  refine lc_invV hF (a := M9) (as := avs X i 1 n) (rest := [.inl x]) (c0 := 1) (ci := 8) (n0 := 0) (i0 := 164) (dL_ok d5) b1 b2 (wAt_mem b3) (by rw [avs_len]; exact b4) b5 b6 ⟨fun z => absurd z (by decide), fun z => absurd z b7⟩ (Nat.le_of_ble_eq_true rfl) (mMet_int b7 b8 hp9) (fun r μ2 hk2 => ?_)
  obtain ⟨⟨y, rfl⟩, e1, hr2⟩ := hk2
  have e1 : x = y := Sum.inl.inj e1
  show lAt X m_L_law p e R s m args below meth c cells slots Q A (q + 1 + 6 * n + 3 + 1 + 6 * n + 3) (lsL i) [.inl y, .inl x] μ2
  exact lc_icmp_eq hF (a := 1525) (dL_ok d6) d7 (fun _ => hk μ2 hr2) (fun z => absurd e1 z)
/-- a call of one of the law's own methods -/
theorem lc_invL {y : MethodName} {cc : ByteArray} {hh : List (Nat × Nat × Nat × Nat)} {idx g : Nat} {as rest : List MV} {K2 : MV → Mem → Prop} (hF : mFx X M h A p R s m args c cells slots) (hTh : mTh sa sc A s s.heap) (hdg : decode (mCd M) q = .ok (.invokestatic idx, 3)) (w1 : Cond.codeWith y cc 5 (some .int) hh ∈ mTb) (w2 : Cond.methodLink (mY M).cls idx y ∈ mTb) (w3 : Cond.static y ∈ mTb) (w4 : Cond.initialized y.cls ∈ mTb)
    (hy : y.cls ≠ "java/lang/invoke/MethodHandle" ∧ y.cls ≠ "java/lang/invoke/VarHandle" ∧ (parseMethodDescriptor y.desc).map (fun d => d.parameters.length) = some as.length) (hR : g + 2 ≤ R.frames ∧ 24 + 64 * (g + 1) ≤ R.locals ∧ cells + 1 ≤ R.cells ∧ slots + 6 ≤ R.slots) (hcat : mCat rest ≤ 8)
    (hmet : Met (mcL X) y (Cond.codeWith y cc 5 (some .int) hh :: mTb) (rmX g) (va_Pc (as.map (mTr X)) (mPt X sa sc μ)) (va_Qi (fun r u => K2 (.inl r) u) (mB X) (mA X)) 1 6 (mA X))
    (kk : ∀ r μ', K2 (.inl r) μ' → lAt X M p e R s m args below meth c (cells + 1) (slots + 6) Q A (q + 3) ls (.inl r :: rest) μ') : lAt X M p e R s m args below meth c cells slots Q A q ls (as.reverse ++ rest) μ := by
  intro H locs lsA hW hD hS h1 h2 hl
  have hA := hF.2.2.2.2.2.2.2.2
  have g2 : ∀ v ∈ rest, mOk v := fun v hv => h2 v (List.mem_append_right _ hv)
  refine va_calli (vx_runSW (Ts := mTb) (own := (mY M).cls) (y := y) (As := as.map (mTr X)) (rest := rest.map (mTr X)) ⟨hF.1, hF.2.1, hF.2.2.1, hF.2.2.2.1, hF.2.2.2.2.1⟩ hmet (vx_cwSW as.length hF.2.2.2.2.1 ?_ rfl rfl rfl hy ⟨?_, ?_⟩) ⟨mPt_blind, fun U hU hWm => ⟨rfl, mPre_at hF hW hD hS U hU hWm, mTh_move hTh hWm (by rw [hU]; exact hS.2.1) hA⟩⟩ rfl (by rw [List.length_map]) hl.1 ?_ ?_ hdg ⟨hR.2.2.1, hR.2.2.2⟩) hS (fun q _ z => hA q z) hA (fun r u t H1 locs1 ht hvm hw hB hz1 hk1 hS1 => ?_)
  · intro w hw
    unfold va_wsS at hw
    rcases List.mem_append.mp hw with z | z
    · simp only [List.mem_cons, List.not_mem_nil, or_false] at z
      rcases z with rfl | rfl | rfl
      · exact ⟨w2, mTb_good w2⟩
      · exact ⟨w3, mTb_good w3⟩
      · exact ⟨w4, mTb_good w4⟩
    · rcases List.mem_cons.mp z with rfl | z
      · exact ⟨w1, mTb_good w1⟩
      · exact ⟨z, mTb_good z⟩
  · have := hR.1
    show g + 1 + 1 ≤ R.frames
    omega
  · have := hR.2.1
    show 8 + (5 + 11) + 64 * (g + 1) ≤ R.locals
    omega
  · show List.map (mTr X) (as.reverse ++ rest) = (as.map (mTr X)).reverse ++ rest.map (mTr X)
    rw [List.map_append, List.map_reverse]
  · exact lv_room (by rw [mCat_sum]; exact hcat)
  · obtain ⟨b1, b2⟩ := hB
    rw [ht] at b1
    exact kk r u hw H1 locs1 lsA b1 (mD_any X hD u) hS1 h1 (ok_ci g2) hl
end MLa

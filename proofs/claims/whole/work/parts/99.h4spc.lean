theorem mMet_long {X : mC} {h M : Nat} {a : List MV} {μ : Mem} {K : MV → Mem → Prop} (h1 : mRt M = some .long) (k : mMet X h M a μ K) : mMet X h M a μ (fun r u => (∃ x : Int64, r = .inr (.inl x)) ∧ K r u) := by
  intro hok p e ha hc hk' s m args below hf hap hP hK
  obtain ⟨k1, o, g1, g2, g3, g4⟩ := k hok p e ha hc hk' s m args below hf hap hP hK
  refine ⟨k1, o, g1, g2, g3, ?_, g4.2⟩
  have g5 := g4.1
  unfold mQ at g5 ⊢
  rw [h1] at g5 ⊢
  obtain ⟨⟨r, u, z1, z2, z3⟩, z4⟩ := g5
  exact ⟨⟨r, u, z1, ⟨⟨r, rfl⟩, z2⟩, z3⟩, z4⟩
theorem lk_t48 : wAt 1333 (Cond.methodLink RL 48 (mY m_X9_thrown)) = true := by decide +kernel
theorem lk_t47 : wAt 1464 (Cond.methodLink RL 47 (mY m_X9_work)) = true := by decide +kernel
theorem lk_t128 : wAt 1647 (Cond.methodLink RL 128 (mY m_X9_worthOf)) = true := by decide +kernel
theorem wd_work : Cond.codeWith yL_work cL_work 5 (some .int) hhL_work ∈ mTb ∧ Cond.methodLink RL 42 yL_work ∈ mTb ∧ Cond.static yL_work ∈ mTb ∧ Cond.initialized yL_work.cls ∈ mTb := by decide +kernel
theorem wd_worthOf : Cond.codeWith yL_worthOf cL_worthOf 5 (some .int) hhL_worthOf ∈ mTb ∧ Cond.methodLink RL 126 yL_worthOf ∈ mTb ∧ Cond.static yL_worthOf ∈ mTb ∧ Cond.initialized yL_worthOf.cls ∈ mTb := by decide +kernel
theorem yd_work : yL_work.cls ≠ "java/lang/invoke/MethodHandle" ∧ yL_work.cls ≠ "java/lang/invoke/VarHandle" ∧ (parseMethodDescriptor yL_work.desc).map (fun d => d.parameters.length) = some 4 := by decide +kernel
theorem yd_worthOf : yL_worthOf.cls ≠ "java/lang/invoke/MethodHandle" ∧ yL_worthOf.cls ≠ "java/lang/invoke/VarHandle" ∧ (parseMethodDescriptor yL_worthOf.desc).map (fun d => d.parameters.length) = some 4 := by decide +kernel
theorem pr_t : (parseMethodDescriptor (mY m_X9_thrown).desc).map (fun d => d.parameters.length) = some 0 := by decide +kernel
theorem pr_w : (parseMethodDescriptor (mY m_X9_work).desc).map (fun d => d.parameters.length) = some 2 := by decide +kernel
theorem pr_o : (parseMethodDescriptor (mY m_X9_worthOf).desc).map (fun d => d.parameters.length) = some 2 := by decide +kernel
theorem dq_356 : dL 356 (.aload_n 1) 1 = true := by decide +kernel
theorem da_357 : ckA 357 1 2 = true := by decide +kernel
theorem dq_369 : dL 369 (.aload_n 3) 1 = true := by decide +kernel
theorem dq_370 : dL 370 (.invokestatic 42) 3 = true := by decide +kernel
theorem dq_373 : dL 373 (.istore 5) 2 = true := by decide +kernel
theorem dq_375 : dL 375 (.aload_n 2) 1 = true := by decide +kernel
theorem da_376 : ckA 376 1 2 = true := by decide +kernel
theorem dq_388 : dL 388 (.invokevirtual 47) 3 = true := by decide +kernel
theorem dq_391 : dL 391 (.istore 6) 2 = true := by decide +kernel
theorem dq_393 : dL 393 (.aload_n 2) 1 = true := by decide +kernel
theorem dq_394 : dL 394 (.invokevirtual 48) 3 = true := by decide +kernel
theorem dq_397 : dL 397 (.iload 5) 2 = true := by decide +kernel
theorem dq_399 : dL 399 (.if_icmp .eq 5) 3 = true := by decide +kernel
theorem dq_421 : dL 421 (.goto 1104) 3 = true := by decide +kernel
theorem dq_404 : dL 404 (.iload 5) 2 = true := by decide +kernel
theorem dq_406 : dL 406 (.ifCond .ne 15) 3 = true := by decide +kernel
theorem dq_409 : dL 409 (.aload_n 3) 1 = true := by decide +kernel
theorem dq_410 : dL 410 (.iconst 0) 1 = true := by decide +kernel
theorem dq_411 : dL 411 (.laload) 1 = true := by decide +kernel
theorem dq_412 : dL 412 (.iload 6) 2 = true := by decide +kernel
theorem dq_414 : dL 414 (.i2l) 1 = true := by decide +kernel
theorem dq_415 : dL 415 (.lcmp) 1 = true := by decide +kernel
theorem dq_416 : dL 416 (.ifCond .eq 5) 3 = true := by decide +kernel
theorem dq_946 : dL 946 (.aload_n 1) 1 = true := by decide +kernel
theorem da_947 : ckA 947 1 2 = true := by decide +kernel
theorem dq_959 : dL 959 (.aload_n 3) 1 = true := by decide +kernel
theorem dq_960 : dL 960 (.invokestatic 126) 3 = true := by decide +kernel
theorem dq_963 : dL 963 (.istore 5) 2 = true := by decide +kernel
theorem dq_965 : dL 965 (.aload_n 2) 1 = true := by decide +kernel
theorem da_966 : ckA 966 1 2 = true := by decide +kernel
theorem dq_978 : dL 978 (.invokevirtual 128) 3 = true := by decide +kernel
theorem dq_981 : dL 981 (.lstore 6) 2 = true := by decide +kernel
theorem dq_983 : dL 983 (.aload_n 2) 1 = true := by decide +kernel
theorem dq_984 : dL 984 (.invokevirtual 48) 3 = true := by decide +kernel
theorem dq_987 : dL 987 (.iload 5) 2 = true := by decide +kernel
theorem dq_989 : dL 989 (.if_icmp .eq 5) 3 = true := by decide +kernel
theorem dq_1010 : dL 1010 (.goto 515) 3 = true := by decide +kernel
theorem dq_994 : dL 994 (.iload 5) 2 = true := by decide +kernel
theorem dq_996 : dL 996 (.ifCond .ne 14) 3 = true := by decide +kernel
theorem dq_999 : dL 999 (.aload_n 3) 1 = true := by decide +kernel
theorem dq_1000 : dL 1000 (.iconst 0) 1 = true := by decide +kernel
theorem dq_1001 : dL 1001 (.laload) 1 = true := by decide +kernel
theorem dq_1002 : dL 1002 (.lload 6) 2 = true := by decide +kernel
theorem dq_1004 : dL 1004 (.lcmp) 1 = true := by decide +kernel
theorem dq_1005 : dL 1005 (.ifCond .eq 5) 3 = true := by decide +kernel
section MLd
variable {X : mC} {i sa sc : Nat} {μ : Mem} {p : Program} {e : Env} {R : Room} {s : State} {m : MethodId} {args : Array Value} {below : List Frame} {meth : Method} {c : Code} {cells slots : Nat} {Q : State → Prop} {A : Nat → Prop}
theorem ar_4 (hF : mFx X m_L_law 60 A p R s m args c cells slots) (hTh : mTh sa sc A s s.heap) (hl : (mcL X).stackTraces = false) (hRm : 65 ≤ R.frames ∧ 4120 ≤ R.locals ∧ cells + 1 ≤ R.cells ∧ slots + 6 ≤ R.slots) (hi : i + 6 ≤ mcN X) (hN : mcN X ≤ 3072) (hr : Rel 0 164 μ) (hk : ∀ μ', Rel 0 164 μ' → lAt X m_L_law p e R s m args below meth c (cells + 1) (slots + 6) Q A 1525 (lsL i) [] μ') : lAt X m_L_law p e R s m args below meth c cells slots Q A 356 (lsL i) [] μ := by
  have hF2 := mFx_room hF hRm.2.2.1 hRm.2.2.2
  refine lc_aload_n hF (q := 356) (a := 1) (n := 1) (dL_ok dq_356) rfl rfl ?_
  refine lc_args hF hi hN rfl rfl 2 1 357 _ da_357 (by decide) ?_
  refine lc_aload_n hF (q := 369) (a := 3) (n := 3) (dL_ok dq_369) rfl rfl ?_
  show lAt X m_L_law p e R s m args below meth c cells slots Q A 370 (lsL i) ([.inr (.inr (7, 0, 0)), .inl (mcX X (i + 1)), .inl (mcX X (i + 2)), .inr (.inr (17, 1, 185))].reverse ++ []) μ
  refine lc_invL (g := 63) (K2 := LW X 55 164 0 (mcX X (i + 1)) (mcX X (i + 2))) hF hTh (dL_ok dq_370) wd_work.1 wd_work.2.1 wd_work.2.2.1 wd_work.2.2.2 yd_work hRm (Nat.zero_le _) (l_work (h := 55) rfl hl rfl rfl hr) (fun r μ1 hlw => ?_)
  refine lc_istore hF2 (q := 373) (a := 5) (dL_ok dq_373) (by decide) ?_
  show lAt X m_L_law p e R s m args below meth c (cells + 1) (slots + 6) Q A 375 [(5, .inl r), (4, .inl (nI i)), (0, .inr (.inr (21, 0, 0))), (1, .inr (.inr (7, 0, 0))), (2, .inr (.inr (8, 0, 164))), (3, .inr (.inr (17, 1, 185)))] [] μ1
  refine lc_aload_n hF2 (q := 375) (a := 2) (n := 2) (dL_ok dq_375) rfl rfl ?_
  refine lc_args hF2 hi hN rfl rfl 2 1 376 _ da_376 (by decide) ?_
  show lAt X m_L_law p e R s m args below meth c (cells + 1) (slots + 6) Q A 388 [(5, .inl r), (4, .inl (nI i)), (0, .inr (.inr (21, 0, 0))), (1, .inr (.inr (7, 0, 0))), (2, .inr (.inr (8, 0, 164))), (3, .inr (.inr (17, 1, 185)))] ([.inl (mcX X (i + 1)), .inl (mcX X (i + 2))].reverse ++ .inr (.inr (8, 0, 164)) :: []) μ1
  refine lc_invV hF2 (a := m_X9_work) (c0 := 1) (ci := 8) (n0 := 0) (i0 := 164) (dL_ok dq_388) cm_X9_work rfl (wAt_mem lk_t47) pr_w rfl (by decide) (by decide +kernel) (Nat.zero_le _) (mMet_int (by decide +kernel) (by decide +kernel) hlw) (fun b μ2 hk2 => ?_)
  obtain ⟨⟨yb, rfl⟩, hth⟩ := hk2
  refine lc_istore hF2 (q := 391) (a := 6) (dL_ok dq_391) (by decide) ?_
  show lAt X m_L_law p e R s m args below meth c (cells + 1) (slots + 6) Q A 393 [(6, .inl yb), (5, .inl r), (4, .inl (nI i)), (0, .inr (.inr (21, 0, 0))), (1, .inr (.inr (7, 0, 0))), (2, .inr (.inr (8, 0, 164))), (3, .inr (.inr (17, 1, 185)))] [] μ2
  refine lc_aload_n hF2 (q := 393) (a := 2) (n := 2) (dL_ok dq_393) rfl rfl ?_
  show lAt X m_L_law p e R s m args below meth c (cells + 1) (slots + 6) Q A 394 [(6, .inl yb), (5, .inl r), (4, .inl (nI i)), (0, .inr (.inr (21, 0, 0))), (1, .inr (.inr (7, 0, 0))), (2, .inr (.inr (8, 0, 164))), (3, .inr (.inr (17, 1, 185)))] (([] : List MV).reverse ++ .inr (.inr (8, 0, 164)) :: []) μ2
  refine lc_invV hF2 (a := m_X9_thrown) (c0 := 1) (ci := 8) (n0 := 0) (i0 := 164) (dL_ok dq_394) cm_X9_thrown rfl (wAt_mem lk_t48) pr_t rfl (by decide) (by decide +kernel) (Nat.zero_le _) (mMet_int (by decide +kernel) (by decide +kernel) hth) (fun z μ3 hk3 => ?_)
  obtain ⟨⟨kz, rfl⟩, e1, hr3, hv⟩ := hk3
  have e1 : kz = r := Sum.inl.inj e1
  show lAt X m_L_law p e R s m args below meth c (cells + 1) (slots + 6) Q A 397 [(6, .inl yb), (5, .inl r), (4, .inl (nI i)), (0, .inr (.inr (21, 0, 0))), (1, .inr (.inr (7, 0, 0))), (2, .inr (.inr (8, 0, 164))), (3, .inr (.inr (17, 1, 185)))] [.inl kz] μ3
  refine lc_iload hF2 (q := 397) (a := 5) (dL_ok dq_397) rfl ?_
  refine lc_icmp_eq hF2 (q := 399) (a := 404) (dL_ok dq_399) (by decide) (fun _ => ?_) (fun z => absurd e1 z)
  have kg : lAt X m_L_law p e R s m args below meth c (cells + 1) (slots + 6) Q A 421 [(6, .inl yb), (5, .inl r), (4, .inl (nI i)), (0, .inr (.inr (21, 0, 0))), (1, .inr (.inr (7, 0, 0))), (2, .inr (.inr (8, 0, 164))), (3, .inr (.inr (17, 1, 185)))] [] μ3 := by
    refine lc_goto hF2 (q := 421) (a := 1525) (dL_ok dq_421) (by decide) ?_
    exact lAt_sub (ls' := lsL i) (by simp [lsL]) (hk μ3 hr3)
  refine lc_iload hF2 (q := 404) (a := 5) (dL_ok dq_404) rfl ?_
  refine lc_if_ne hF2 (q := 406) (a := 421) (dL_ok dq_406) (by decide) (fun _ => kg) (fun z => ?_)
  obtain ⟨y, e2, e3⟩ := hv (by rw [z]; rfl)
  refine lc_aload_n hF2 (q := 409) (a := 3) (n := 3) (dL_ok dq_409) rfl rfl ?_
  refine lc_iconst hF2 (q := 410) (dL_ok dq_410) ?_
  show lAt X m_L_law p e R s m args below meth c (cells + 1) (slots + 6) Q A 411 [(6, .inl yb), (5, .inl r), (4, .inl (nI i)), (0, .inr (.inr (21, 0, 0))), (1, .inr (.inr (7, 0, 0))), (2, .inr (.inr (8, 0, 164))), (3, .inr (.inr (17, 1, 185)))] [.inl (nI 0), .inr (.inr (17, 1, 185))] μ3
  refine lc_lald hF2 (q := 411) (j := 0) (dL_ok dq_411) (by decide) ?_
  have e2 : yb = y := Sum.inl.inj e2
  refine lc_iload hF2 (q := 412) (a := 6) (dL_ok dq_412) rfl ?_
  refine lc_i2l hF2 (q := 414) (dL_ok dq_414) ?_
  refine lc_lcmp hF2 (q := 415) (dL_ok dq_415) ?_
  refine lc_if_eq hF2 (q := 416) (a := 421) (dL_ok dq_416) (by decide) (fun _ => kg) (fun z2 => ?_)
  exfalso
  exact z2 ((lg_cmp_eq _ _).mpr (e3.trans (by rw [e2])))
theorem ar_23 (hF : mFx X m_L_law 60 A p R s m args c cells slots) (hTh : mTh sa sc A s s.heap) (hl : (mcL X).stackTraces = false) (hRm : 65 ≤ R.frames ∧ 4120 ≤ R.locals ∧ cells + 1 ≤ R.cells ∧ slots + 6 ≤ R.slots) (hi : i + 6 ≤ mcN X) (hN : mcN X ≤ 3072) (hr : Rel 0 164 μ) (hk : ∀ μ', Rel 0 164 μ' → lAt X m_L_law p e R s m args below meth c (cells + 1) (slots + 6) Q A 1525 (lsL i) [] μ') : lAt X m_L_law p e R s m args below meth c cells slots Q A 946 (lsL i) [] μ := by
  have hF2 := mFx_room hF hRm.2.2.1 hRm.2.2.2
  refine lc_aload_n hF (q := 946) (a := 1) (n := 1) (dL_ok dq_946) rfl rfl ?_
  refine lc_args hF hi hN rfl rfl 2 1 947 _ da_947 (by decide) ?_
  refine lc_aload_n hF (q := 959) (a := 3) (n := 3) (dL_ok dq_959) rfl rfl ?_
  show lAt X m_L_law p e R s m args below meth c cells slots Q A 960 (lsL i) ([.inr (.inr (7, 0, 0)), .inl (mcX X (i + 1)), .inl (mcX X (i + 2)), .inr (.inr (17, 1, 185))].reverse ++ []) μ
  refine lc_invL (g := 63) (K2 := LO X 55 164 0 (mcX X (i + 1)) (mcX X (i + 2))) hF hTh (dL_ok dq_960) wd_worthOf.1 wd_worthOf.2.1 wd_worthOf.2.2.1 wd_worthOf.2.2.2 yd_worthOf hRm (Nat.zero_le _) (l_worthOf (h := 55) rfl hl rfl rfl hr) (fun r μ1 hlw => ?_)
  refine lc_istore hF2 (q := 963) (a := 5) (dL_ok dq_963) (by decide) ?_
  show lAt X m_L_law p e R s m args below meth c (cells + 1) (slots + 6) Q A 965 [(5, .inl r), (4, .inl (nI i)), (0, .inr (.inr (21, 0, 0))), (1, .inr (.inr (7, 0, 0))), (2, .inr (.inr (8, 0, 164))), (3, .inr (.inr (17, 1, 185)))] [] μ1
  refine lc_aload_n hF2 (q := 965) (a := 2) (n := 2) (dL_ok dq_965) rfl rfl ?_
  refine lc_args hF2 hi hN rfl rfl 2 1 966 _ da_966 (by decide) ?_
  show lAt X m_L_law p e R s m args below meth c (cells + 1) (slots + 6) Q A 978 [(5, .inl r), (4, .inl (nI i)), (0, .inr (.inr (21, 0, 0))), (1, .inr (.inr (7, 0, 0))), (2, .inr (.inr (8, 0, 164))), (3, .inr (.inr (17, 1, 185)))] ([.inl (mcX X (i + 1)), .inl (mcX X (i + 2))].reverse ++ .inr (.inr (8, 0, 164)) :: []) μ1
  refine lc_invV hF2 (a := m_X9_worthOf) (c0 := 1) (ci := 8) (n0 := 0) (i0 := 164) (dL_ok dq_978) cm_X9_worthOf rfl (wAt_mem lk_t128) pr_o rfl (by decide) (by decide +kernel) (Nat.zero_le _) (mMet_long rfl hlw) (fun b μ2 hk2 => ?_)
  obtain ⟨⟨yb, rfl⟩, hth⟩ := hk2
  refine lc_lstore hF2 (q := 981) (a := 6) (dL_ok dq_981) (by decide) ?_
  show lAt X m_L_law p e R s m args below meth c (cells + 1) (slots + 6) Q A 983 [(6, .inr (.inl yb)), (5, .inl r), (4, .inl (nI i)), (0, .inr (.inr (21, 0, 0))), (1, .inr (.inr (7, 0, 0))), (2, .inr (.inr (8, 0, 164))), (3, .inr (.inr (17, 1, 185)))] [] μ2
  refine lc_aload_n hF2 (q := 983) (a := 2) (n := 2) (dL_ok dq_983) rfl rfl ?_
  show lAt X m_L_law p e R s m args below meth c (cells + 1) (slots + 6) Q A 984 [(6, .inr (.inl yb)), (5, .inl r), (4, .inl (nI i)), (0, .inr (.inr (21, 0, 0))), (1, .inr (.inr (7, 0, 0))), (2, .inr (.inr (8, 0, 164))), (3, .inr (.inr (17, 1, 185)))] (([] : List MV).reverse ++ .inr (.inr (8, 0, 164)) :: []) μ2
  refine lc_invV hF2 (a := m_X9_thrown) (c0 := 1) (ci := 8) (n0 := 0) (i0 := 164) (dL_ok dq_984) cm_X9_thrown rfl (wAt_mem lk_t48) pr_t rfl (by decide) (by decide +kernel) (Nat.zero_le _) (mMet_int (by decide +kernel) (by decide +kernel) hth) (fun z μ3 hk3 => ?_)
  obtain ⟨⟨kz, rfl⟩, e1, hr3, hv⟩ := hk3
  have e1 : kz = r := Sum.inl.inj e1
  show lAt X m_L_law p e R s m args below meth c (cells + 1) (slots + 6) Q A 987 [(6, .inr (.inl yb)), (5, .inl r), (4, .inl (nI i)), (0, .inr (.inr (21, 0, 0))), (1, .inr (.inr (7, 0, 0))), (2, .inr (.inr (8, 0, 164))), (3, .inr (.inr (17, 1, 185)))] [.inl kz] μ3
  refine lc_iload hF2 (q := 987) (a := 5) (dL_ok dq_987) rfl ?_
  refine lc_icmp_eq hF2 (q := 989) (a := 994) (dL_ok dq_989) (by decide) (fun _ => ?_) (fun z => absurd e1 z)
  have kg : lAt X m_L_law p e R s m args below meth c (cells + 1) (slots + 6) Q A 1010 [(6, .inr (.inl yb)), (5, .inl r), (4, .inl (nI i)), (0, .inr (.inr (21, 0, 0))), (1, .inr (.inr (7, 0, 0))), (2, .inr (.inr (8, 0, 164))), (3, .inr (.inr (17, 1, 185)))] [] μ3 := by
    refine lc_goto hF2 (q := 1010) (a := 1525) (dL_ok dq_1010) (by decide) ?_
    exact lAt_sub (ls' := lsL i) (by simp [lsL]) (hk μ3 hr3)
  refine lc_iload hF2 (q := 994) (a := 5) (dL_ok dq_994) rfl ?_
  refine lc_if_ne hF2 (q := 996) (a := 1010) (dL_ok dq_996) (by decide) (fun _ => kg) (fun z => ?_)
  obtain ⟨y, e2, e3⟩ := hv (by rw [z]; rfl)
  refine lc_aload_n hF2 (q := 999) (a := 3) (n := 3) (dL_ok dq_999) rfl rfl ?_
  refine lc_iconst hF2 (q := 1000) (dL_ok dq_1000) ?_
  show lAt X m_L_law p e R s m args below meth c (cells + 1) (slots + 6) Q A 1001 [(6, .inr (.inl yb)), (5, .inl r), (4, .inl (nI i)), (0, .inr (.inr (21, 0, 0))), (1, .inr (.inr (7, 0, 0))), (2, .inr (.inr (8, 0, 164))), (3, .inr (.inr (17, 1, 185)))] [.inl (nI 0), .inr (.inr (17, 1, 185))] μ3
  refine lc_lald hF2 (q := 1001) (j := 0) (dL_ok dq_1001) (by decide) ?_
  have e2 : yb = y := Sum.inl.inj (Sum.inr.inj e2)
  refine lc_lload hF2 (q := 1002) (a := 6) (dL_ok dq_1002) rfl ?_
  refine lc_lcmp hF2 (q := 1004) (dL_ok dq_1004) ?_
  refine lc_if_eq hF2 (q := 1005) (a := 1010) (dL_ok dq_1005) (by decide) (fun _ => kg) (fun z2 => ?_)
  exfalso
  exact z2 ((lg_cmp_eq _ _).mpr (e3.trans e2.symm))
end MLd

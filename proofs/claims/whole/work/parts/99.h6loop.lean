theorem dL_law_23 : decode cL_law 23 = .ok (.iload 4, 2) := by decide +kernel
theorem dL_law_25 : decode cL_law 25 = .ok (.aload_n 0, 1) := by decide +kernel
theorem dL_law_26 : decode cL_law 26 = .ok (.arraylength, 1) := by decide +kernel
theorem dL_law_27 : decode cL_law 27 = .ok (.bipush 6, 2) := by decide +kernel
theorem dL_law_29 : decode cL_law 29 = .ok (.isub, 1) := by decide +kernel
theorem dL_law_30 : decode cL_law 30 = .ok (.if_icmp .gt 1501, 3) := by decide +kernel
theorem dL_law_33 : decode cL_law 33 = .ok (.aload_n 0, 1) := by decide +kernel
theorem dL_law_34 : decode cL_law 34 = .ok (.iload 4, 2) := by decide +kernel
theorem dL_law_36 : decode cL_law 36 = .ok (.iaload, 1) := by decide +kernel
theorem dL_law_37 : decode cL_law 37 = .ok (.bipush 63, 2) := by decide +kernel
theorem dL_law_39 : decode cL_law 39 = .ok (.iand, 1) := by decide +kernel
theorem dL_law_40 : decode cL_law 40 = .ok (.tableswitch 1485 0 43 #[192, 265, 290, 303, 316, 384, 433, 458, 471, 496, 509, 546, 583, 620, 657, 694, 731, 756, 769, 782, 807, 844, 881, 906, 973, 998, 1023, 1048, 1073, 1098, 1123, 1160, 1173, 1210, 1247, 1272, 1321, 1334, 1347, 1372, 1385, 1410, 1435, 1460], 192) := by decide +kernel
theorem dL_law_1525 : decode cL_law 1525 = .ok (.iinc 4 6, 3) := by decide +kernel
theorem dL_law_1528 : decode cL_law 1528 = .ok (.goto (-1505), 3) := by decide +kernel
theorem dL_law_1531 : decode cL_law 1531 = .ok (.iconst 1, 1) := by decide +kernel
theorem dL_law_1532 : decode cL_law 1532 = .ok (.ireturn, 1) := by decide +kernel
section MLe
variable {X : mC} {sa sc b : Nat} {p : Program} {e : Env} {s : State} {m : MethodId} {below : List Frame} {meth : Method} {c : Code}
abbrev lAA (s : State) : Nat → Prop := fun q => s.heap.size ≤ q
theorem law_exit {cells slots : Nat} {ls : List (Nat × MV)} {μ : Mem} (hx : p.tables.exec = Jvm.exec) (hb : c.code = code) (hr : meth.sig.returnType = ret) (hlocks : meth.locks = false) (h1 : cells ≤ 601024) (h2 : slots ≤ 7293034) : lAt X m_L_law p e room_1 s m #[Value.ref b] below meth c cells slots (lw_Z below #[Value.ref b] s) (lAA s) 1531 ls [] μ := by
  intro H locs lsA hW hD hS g1 g2 hl
  refine lv_iconst (v := 1) hx hb dL_law_1531 (by decide) ?_
  refine va_forget (fun q hq => hS.2.2 q hq) ?_
  refine W.widen (k := 601024) (n := 7293034) h1 h2 ?_
  exact lw_ret hx hb hr hlocks dL_law_1532
set_option maxHeartbeats 4000000 in
theorem law_step {i : Nat} {μ : Mem} (hx : p.tables.exec = Jvm.exec) (hb : c.code = code) (hr : meth.sig.returnType = ret) (hlocks : meth.locks = false) (hF0 : mFx X m_L_law 60 (lAA s) p room_1 s m #[Value.ref b] c 0 0) (hTh : mTh sa sc (lAA s) s s.heap) (hl : (mcL X).stackTraces = false) (hN : mcN X ≤ 3072) (hi : i ≤ 3078) (hrel : Rel 0 164 μ)
    (hnext : i + 6 ≤ mcN X → ∀ μ', Rel 0 164 μ' → lAt X m_L_law p e room_1 s m #[Value.ref b] below meth c (1000 + (i + 6)) (40000 + (i + 6)) (lw_Z below #[Value.ref b] s) (lAA s) 23 (lsL (i + 6)) [] μ') :
    lAt X m_L_law p e room_1 s m #[Value.ref b] below meth c (1000 + i) (40000 + i) (lw_Z below #[Value.ref b] s) (lAA s) 23 (lsL i) [] μ := by
  have hF := mFx_room hF0 (k := 1000 + i) (n := 40000 + i) (by show 1000 + i ≤ 601024; omega) (by show 40000 + i ≤ 7293034; omega)
  have hRm : 65 ≤ room_1.frames ∧ 4120 ≤ room_1.locals ∧ 1000 + i + 1 ≤ room_1.cells ∧ 40000 + i + 6 ≤ room_1.slots := ⟨by decide, by decide, by show 1000 + i + 1 ≤ 601024; omega, by show 40000 + i + 6 ≤ 7293034; omega⟩
  have k15 : i + 6 ≤ mcN X → ∀ cl sl, cl ≤ 1000 + (i + 6) → sl ≤ 40000 + (i + 6) → ∀ μ', Rel 0 164 μ' → lAt X m_L_law p e room_1 s m #[Value.ref b] below meth c cl sl (lw_Z below #[Value.ref b] s) (lAA s) 1525 (lsL i) [] μ' := by
    intro hi6 cl sl hcl hsl μ' hr'
    have hFc := mFx_room hF0 (k := cl) (n := sl) (by show cl ≤ 601024; omega) (by show sl ≤ 7293034; omega)
    refine lc_iinc hFc (q := 1525) (a := 4) (d := Int32.ofInt 6) dL_law_1525 rfl rfl (by decide) ?_
    rw [show nI i + Int32.ofInt 6 = nI (i + 6) from nI_add i 6]
    show lAt X m_L_law p e room_1 s m #[Value.ref b] below meth c cl sl (lw_Z below #[Value.ref b] s) (lAA s) 1528 (lsL (i + 6)) [] μ'
    refine lc_goto hFc (q := 1528) (a := 23) dL_law_1528 (by decide) ?_
    exact lAt_widen hcl hsl (hnext hi6 μ' hr')
  refine lc_iload hF (q := 23) (a := 4) dL_law_23 rfl ?_
  refine lc_aload_n hF (q := 25) (a := 0) (n := 0) dL_law_25 rfl rfl ?_
  refine lc_xlen hF (q := 26) dL_law_26 ?_
  refine lc_bipush hF (q := 27) dL_law_27 ?_
  refine lc_isub hF (q := 29) dL_law_29 ?_
  refine lc_icmp_gt hF (q := 30) (a := 1531) dL_law_30 (by decide) (fun _ => law_exit hx hb hr hlocks (by omega) (by omega)) (fun z => ?_)
  have hi6 : i + 6 ≤ mcN X := by
    rw [show ((Int8.ofInt 6).toInt32 : Int32) = nI 6 from by decide, Int32.lt_iff_toInt_lt, Int32.toInt_sub, nI_int (by omega), nI_int (by omega), nI_int (by omega), Int.bmod_eq_of_le (by omega) (by omega)] at z
    omega
  refine lc_aload_n hF (q := 33) (a := 0) (n := 0) dL_law_33 rfl rfl ?_
  refine lc_iload hF (q := 34) (a := 4) dL_law_34 rfl ?_
  refine lc_xald hF (q := 36) (j := i) dL_law_36 (by omega) (by omega) ?_
  refine lc_bipush hF (q := 37) dL_law_37 ?_
  refine lc_iand hF (q := 39) dL_law_39 ?_
  refine lc_tsw hF (q := 40) (a := 1525) (b := 0) (ts := [232, 305, 330, 343, 356, 424, 473, 498, 511, 536, 549, 586, 623, 660, 697, 734, 771, 796, 809, 822, 847, 884, 921, 946, 1013, 1038, 1063, 1088, 1113, 1138, 1163, 1200, 1213, 1250, 1287, 1312, 1361, 1374, 1387, 1412, 1425, 1450, 1475, 1500]) dL_law_40 (by decide) (by decide) (by decide) (by decide) (by decide) (fun _ => k15 hi6 _ _ (by omega) (by omega) μ hrel) ?_
  exact (And.intro (fun _ => ar_0 hF hi6 hN hrel (k15 hi6 _ _ (by omega) (by omega))) (And.intro (fun _ => ar_1 hF hi6 hN hrel (k15 hi6 _ _ (by omega) (by omega))) (And.intro (fun _ => ar_2 hF hi6 hN hrel (k15 hi6 _ _ (by omega) (by omega))) (And.intro (fun _ => ar_3 hF hi6 hN hrel (k15 hi6 _ _ (by omega) (by omega))) (And.intro (fun _ => ar_4 hF hTh hl hRm hi6 hN hrel (k15 hi6 _ _ (by omega) (by omega))) (And.intro (fun _ => ar_5 hF hi6 hN hrel (k15 hi6 _ _ (by omega) (by omega))) (And.intro (fun _ => ar_6 hF hi6 hN hrel (k15 hi6 _ _ (by omega) (by omega))) (And.intro (fun _ => ar_7 hF hi6 hN hrel (k15 hi6 _ _ (by omega) (by omega))) (And.intro (fun _ => ar_8 hF hi6 hN hrel (k15 hi6 _ _ (by omega) (by omega))) (And.intro (fun _ => ar_9 hF hi6 hN hrel (k15 hi6 _ _ (by omega) (by omega))) (And.intro (fun _ => ar_10 hF hi6 hN hrel (k15 hi6 _ _ (by omega) (by omega))) (And.intro (fun _ => ar_11 hF hi6 hN hrel (k15 hi6 _ _ (by omega) (by omega))) (And.intro (fun _ => ar_12 hF hi6 hN hrel (k15 hi6 _ _ (by omega) (by omega))) (And.intro (fun _ => ar_13 hF hi6 hN hrel (k15 hi6 _ _ (by omega) (by omega))) (And.intro (fun _ => ar_14 hF hi6 hN hrel (k15 hi6 _ _ (by omega) (by omega))) (And.intro (fun _ => ar_15 hF hi6 hN hrel (k15 hi6 _ _ (by omega) (by omega))) (And.intro (fun _ => ar_16 hF hi6 hN hrel (k15 hi6 _ _ (by omega) (by omega))) (And.intro (fun _ => ar_17 hF hi6 hN hrel (k15 hi6 _ _ (by omega) (by omega))) (And.intro (fun _ => ar_18 hF hi6 hN hrel (k15 hi6 _ _ (by omega) (by omega))) (And.intro (fun _ => ar_19 hF hi6 hN hrel (k15 hi6 _ _ (by omega) (by omega))) (And.intro (fun _ => ar_20 hF hi6 hN hrel (k15 hi6 _ _ (by omega) (by omega))) (And.intro (fun _ => ar_21 hF hi6 hN hrel (k15 hi6 _ _ (by omega) (by omega))) (And.intro (fun _ => ar_22 hF hi6 hN hrel (k15 hi6 _ _ (by omega) (by omega))) (And.intro (fun _ => ar_23 hF hTh hl hRm hi6 hN hrel (k15 hi6 _ _ (by omega) (by omega))) (And.intro (fun _ => ar_24 hF hi6 hN hrel (k15 hi6 _ _ (by omega) (by omega))) (And.intro (fun _ => ar_25 hF hi6 hN hrel (k15 hi6 _ _ (by omega) (by omega))) (And.intro (fun _ => ar_26 hF hi6 hN hrel (k15 hi6 _ _ (by omega) (by omega))) (And.intro (fun _ => ar_27 hF hi6 hN hrel (k15 hi6 _ _ (by omega) (by omega))) (And.intro (fun _ => ar_28 hF hi6 hN hrel (k15 hi6 _ _ (by omega) (by omega))) (And.intro (fun _ => ar_29 hF hi6 hN hrel (k15 hi6 _ _ (by omega) (by omega))) (And.intro (fun _ => ar_30 hF hi6 hN hrel (k15 hi6 _ _ (by omega) (by omega))) (And.intro (fun _ => ar_31 hF hi6 hN hrel (k15 hi6 _ _ (by omega) (by omega))) (And.intro (fun _ => ar_32 hF hi6 hN hrel (k15 hi6 _ _ (by omega) (by omega))) (And.intro (fun _ => ar_33 hF hi6 hN hrel (k15 hi6 _ _ (by omega) (by omega))) (And.intro (fun _ => ar_34 hF hi6 hN hrel (k15 hi6 _ _ (by omega) (by omega))) (And.intro (fun _ => ar_35 hF hi6 hN hrel (k15 hi6 _ _ (by omega) (by omega))) (And.intro (fun _ => ar_36 hF hi6 hN hrel (k15 hi6 _ _ (by omega) (by omega))) (And.intro (fun _ => ar_37 hF hi6 hN hrel (k15 hi6 _ _ (by omega) (by omega))) (And.intro (fun _ => ar_38 hF hi6 hN hrel (k15 hi6 _ _ (by omega) (by omega))) (And.intro (fun _ => ar_39 hF hi6 hN hrel (k15 hi6 _ _ (by omega) (by omega))) (And.intro (fun _ => ar_40 hF hi6 hN hrel (k15 hi6 _ _ (by omega) (by omega))) (And.intro (fun _ => ar_41 hF hi6 hN hrel (k15 hi6 _ _ (by omega) (by omega))) (And.intro (fun _ => ar_42 hF hi6 hN hrel (k15 hi6 _ _ (by omega) (by omega))) (And.intro (fun _ => ar_43 hF hi6 hN hrel (k15 hi6 _ _ (by omega) (by omega))) trivial))))))))))))))))))))))))))))))))))))))))))))
theorem law_loop (hx : p.tables.exec = Jvm.exec) (hb : c.code = code) (hr : meth.sig.returnType = ret) (hlocks : meth.locks = false) (hF0 : mFx X m_L_law 60 (lAA s) p room_1 s m #[Value.ref b] c 0 0) (hTh : mTh sa sc (lAA s) s s.heap) (hl : (mcL X).stackTraces = false) (hN : mcN X ≤ 3072) : ∀ k i μ, mcN X ≤ i + k → i ≤ 3078 → Rel 0 164 μ →
    lAt X m_L_law p e room_1 s m #[Value.ref b] below meth c (1000 + i) (40000 + i) (lw_Z below #[Value.ref b] s) (lAA s) 23 (lsL i) [] μ := by
  intro k
  induction k with
  | zero => intro i μ hk hi hrel; exact law_step hx hb hr hlocks hF0 hTh hl hN hi hrel (fun z => by omega)
  | succ k ih => intro i μ hk hi hrel; exact law_step hx hb hr hlocks hF0 hTh hl hN hi hrel (fun z μ' hr' => ih (i + 6) μ' (by omega) (by omega) hr')
end MLe

theorem dX6_init_0 : decode cX6_init 0 = .ok (.aload_n 0, 1) := by decide +kernel
theorem dX6_init_1 : decode cX6_init 1 = .ok (.invokespecial 3, 3) := by decide +kernel
theorem dX6_init_4 : decode cX6_init 4 = .ok (.aload_n 0, 1) := by decide +kernel
theorem dX6_init_5 : decode cX6_init 5 = .ok (.sipush 940, 3) := by decide +kernel
theorem dX6_init_8 : decode cX6_init 8 = .ok (.newarray .int, 2) := by decide +kernel
theorem dX6_init_10 : decode cX6_init 10 = .ok (.putfield 11, 3) := by decide +kernel
theorem dX6_init_13 : decode cX6_init 13 = .ok (.aload_n 0, 1) := by decide +kernel
theorem dX6_init_14 : decode cX6_init 14 = .ok (.bipush 19, 2) := by decide +kernel
theorem dX6_init_16 : decode cX6_init 16 = .ok (.newarray .int, 2) := by decide +kernel
theorem dX6_init_18 : decode cX6_init 18 = .ok (.putfield 17, 3) := by decide +kernel
theorem dX6_init_21 : decode cX6_init 21 = .ok (.iconst 0, 1) := by decide +kernel
theorem dX6_init_22 : decode cX6_init 22 = .ok (.istore_n 1, 1) := by decide +kernel
theorem dX6_init_23 : decode cX6_init 23 = .ok (.iload_n 1, 1) := by decide +kernel
theorem dX6_init_24 : decode cX6_init 24 = .ok (.bipush 19, 2) := by decide +kernel
theorem dX6_init_26 : decode cX6_init 26 = .ok (.if_icmp .ge 62, 3) := by decide +kernel
theorem dX6_init_29 : decode cX6_init 29 = .ok (.iconst 0, 1) := by decide +kernel
theorem dX6_init_30 : decode cX6_init 30 = .ok (.istore_n 2, 1) := by decide +kernel
theorem dX6_init_31 : decode cX6_init 31 = .ok (.iconst 0, 1) := by decide +kernel
theorem dX6_init_32 : decode cX6_init 32 = .ok (.istore_n 3, 1) := by decide +kernel
theorem dX6_init_33 : decode cX6_init 33 = .ok (.iload_n 3, 1) := by decide +kernel
theorem dX6_init_34 : decode cX6_init 34 = .ok (.bipush 6, 2) := by decide +kernel
theorem dX6_init_36 : decode cX6_init 36 = .ok (.if_icmp .ge 39, 3) := by decide +kernel
theorem dX6_init_39 : decode cX6_init 39 = .ok (.ldc 20, 2) := by decide +kernel
theorem dX6_init_41 : decode cX6_init 41 = .ok (.iload_n 1, 1) := by decide +kernel
theorem dX6_init_42 : decode cX6_init 42 = .ok (.bipush 6, 2) := by decide +kernel
theorem dX6_init_44 : decode cX6_init 44 = .ok (.imul, 1) := by decide +kernel
theorem dX6_init_45 : decode cX6_init 45 = .ok (.iload_n 3, 1) := by decide +kernel
theorem dX6_init_46 : decode cX6_init 46 = .ok (.iadd, 1) := by decide +kernel
theorem dX6_init_47 : decode cX6_init 47 = .ok (.invokevirtual 22, 3) := by decide +kernel
theorem dX6_init_50 : decode cX6_init 50 = .ok (.istore 4, 2) := by decide +kernel
theorem dX6_init_52 : decode cX6_init 52 = .ok (.iload 4, 2) := by decide +kernel
theorem dX6_init_54 : decode cX6_init 54 = .ok (.bipush 32, 2) := by decide +kernel
theorem dX6_init_56 : decode cX6_init 56 = .ok (.if_icmp .eq 13, 3) := by decide +kernel
theorem dX6_init_59 : decode cX6_init 59 = .ok (.iload_n 2, 1) := by decide +kernel
theorem dX6_init_60 : decode cX6_init 60 = .ok (.iconst 5, 1) := by decide +kernel
theorem dX6_init_61 : decode cX6_init 61 = .ok (.ishl, 1) := by decide +kernel
theorem dX6_init_62 : decode cX6_init 62 = .ok (.iload 4, 2) := by decide +kernel
theorem dX6_init_64 : decode cX6_init 64 = .ok (.bipush 96, 2) := by decide +kernel
theorem dX6_init_66 : decode cX6_init 66 = .ok (.isub, 1) := by decide +kernel
theorem dX6_init_67 : decode cX6_init 67 = .ok (.ior, 1) := by decide +kernel
theorem dX6_init_68 : decode cX6_init 68 = .ok (.istore_n 2, 1) := by decide +kernel
theorem dX6_init_69 : decode cX6_init 69 = .ok (.iinc 3 1, 3) := by decide +kernel
theorem dX6_init_72 : decode cX6_init 72 = .ok (.goto (-39), 3) := by decide +kernel
theorem dX6_init_75 : decode cX6_init 75 = .ok (.aload_n 0, 1) := by decide +kernel
theorem dX6_init_76 : decode cX6_init 76 = .ok (.getfield 17, 3) := by decide +kernel
theorem dX6_init_79 : decode cX6_init 79 = .ok (.iload_n 1, 1) := by decide +kernel
theorem dX6_init_80 : decode cX6_init 80 = .ok (.iload_n 2, 1) := by decide +kernel
theorem dX6_init_81 : decode cX6_init 81 = .ok (.iastore, 1) := by decide +kernel
theorem dX6_init_82 : decode cX6_init 82 = .ok (.iinc 1 1, 3) := by decide +kernel
theorem dX6_init_85 : decode cX6_init 85 = .ok (.goto (-62), 3) := by decide +kernel
theorem dX6_init_88 : decode cX6_init 88 = .ok (.return_, 1) := by decide +kernel
abbrev fsX6 : List Value := [.null, .null, .int 0, .int 0, .int 0, .int 0, .int 0, .int 0, .int 0, .int 0, .int 0, .int 0]
abbrev shX6 : List (Nat × Nat) := [(5, 0), (16, 940), (16, 19)]
theorem lk_X6_super : Cond.methodLink RX6 3 Lib.objectInit ∈ mTb := by decide +kernel
theorem ck_X6_0 : ckF RX6 5 0 11 (.array .int) true = true := by decide +kernel
theorem ck_X6_1 : ckF RX6 5 1 17 (.array .int) true = true := by decide +kernel
theorem lk_X6_17 : Cond.fieldLink RX6 17 (TX6 1).1 (TX6 1).2.1 (TX6 1).2.2.1 ∈ mTb := by decide +kernel
theorem ds_X6 : ∀ j, j < 12 → defaultValue (tyX6 j) = vp_V fsX6 j := by decide +kernel
def vT : Nat → Nat → Int32 := fun i => if i = 2 then (fun k => nI (kwN k)) else fun _ => 0
def ltF (i : Nat) : Nat → Int32
  | 0 => nI 0
  | j + 1 => if kwB.getD (i * 6 + j) 0 = nI 32 then ltF i j else ltF i j <<< (nI 5 &&& 31) ||| (kwB.getD (i * 6 + j) 0 - nI 96)
theorem lt_kw : ∀ i, i < 19 → ltF i 6 = nI (kwN i) := by decide +kernel
def EXT (ak av b0 : Nat) : Nat → Nat → State → Prop := fun h0 sz U => b0 ≤ h0 ∧ b0 ≤ sz ∧ mSx ak av (fun q => b0 ≤ q) U U.heap
theorem EXT_ok {ak av b0 : Nat} : exOk (EXT ak av b0) := fun h0 sz U g mk a h => ⟨h.1, h.2.1, mSx_move (U := U.calling g mk a) h.2.2 (State.WarmedH.refl U) (fun _ _ _ => rfl) (fun _ z => z)⟩
abbrev fsT (q1 q2 : Nat) : List Value := [.ref q1, .ref q2, .int 0, .int 0, .int 0, .int 0, .int 0, .int 0, .int 0, .int 0, .int 0, .int 0]
abbrev wT3 (X : mC) (h0 q1 q2 : Nat) (f : Nat → Int32) : va_W := [(h0, .inr (5, fsT q1 q2)), (q1, .inl (mcA X 0, 940, .inl (fun _ => 0))), (q2, .inl (mcA X 0, 19, .inl f))]
section MTp
variable {X : mC} {ak av h0 q1 q2 : Nat} {p : Program} {e : Env} {R : Room} {s : State} {m : MethodId} {args : Array Value} {below : List Frame} {meth : Method} {c : Code} {cells slots : Nat} {Q : State → Prop} {A : Nat → Prop}
set_option maxHeartbeats 4000000 in
theorem tp_in {i : Nat} {wT : va_W} (hi : i < 19) (hC : CX X RX6 cX6_init 5 p s m args meth c) (hM : mSx ak av A s s.heap) (hR : 5 ≤ R.frames ∧ 8 + (2 + 11) + 64 * 4 ≤ R.locals ∧ cells ≤ R.cells ∧ slots ≤ R.slots)
    (kont : ∀ (H : Heap) (locs : List Loc) (ls : Array Slot), va_P (mcD X) vwCl wT H → va_S A s.heap H locs → lv_has ls 5 [(2, .int (ltF i 6)), (1, .int (nI i)), (0, .ref h0)] → W p (mcL X) e R s m args below meth c H locs cells slots Q (F0 m 75 ls [])) :
    ∀ (n j : Nat) (H : Heap) (locs : List Loc) (ls : Array Slot), j + n = 6 → va_P (mcD X) vwCl wT H → va_S A s.heap H locs → lv_has ls 5 [(3, .int (nI j)), (2, .int (ltF i j)), (1, .int (nI i)), (0, .ref h0)] → W p (mcL X) e R s m args below meth c H locs cells slots Q (F0 m 33 ls []) := by
  obtain ⟨hx, hb, hml, hown, hts, hK⟩ := id hC
  intro n
  induction n with
  | zero =>
    intro j H locs ls hj hP hS hl
    have hj6 : j = 6 := by omega
    subst hj6
    refine lv_iload_n hx hb dX6_init_33 rfl (lv_at hl 0 rfl) ?_
    refine lv_bipush (v := nI 6) hx hb dX6_init_34 (by decide) ?_
    refine lv_icmp_ge (tgt := 75) hx hb dX6_init_36 (by decide) (fun _ => kont H locs ls hP hS (lv_sub hl [1, 2, 3] rfl)) (fun z => absurd (nI_le (by omega) (by omega)) z)
  | succ n ih =>
    intro j H locs ls hj hP hS hl
    refine lv_iload_n hx hb dX6_init_33 rfl (lv_at hl 0 rfl) ?_
    refine lv_bipush (v := nI 6) hx hb dX6_init_34 (by decide) ?_
    refine lv_icmp_ge (tgt := 75) hx hb dX6_init_36 (by decide) (fun z => absurd z (nI_ge (by omega) (by omega))) (fun _ => ?_)
    refine va_ldcS hx hb hown hM.2.2.2.2.2.2 dX6_init_39 ?_
    refine lv_iload_n hx hb dX6_init_41 rfl (lv_at hl 2 rfl) ?_
    refine lv_bipush (v := nI 6) hx hb dX6_init_42 (by decide) ?_
    refine lv_imul hx hb dX6_init_44 ?_
    refine lv_iload_n hx hb dX6_init_45 rfl (lv_at hl 0 rfl) ?_
    refine lv_iadd hx hb dX6_init_46 ?_
    rw [nI_mul, nI_add]
    obtain ⟨cell, g1, g2, g3, -⟩ := va_O.kept hM.2.1 hS.2.1
    refine va_calli (va_runV (Ts := mTb) (own := RX6) (C := "java/lang/String") (y := yJ0c) (b := ak) (As := [.int (nI (i * 6 + j))]) (rest := []) ⟨hx, hb, hml, hown, hts⟩ (c_J0c (ak := ak) (av := av) (k := i * 6 + j) (by omega)) (cwV 1 hts (good_W wJ0c.1 wJ0c.2.1 wJ0c.2.2.1 wJ0c.2.2.2.1 wJ0c.2.2.2.2) rfl rfl rfl (by decide +kernel) ⟨hR.1, hR.2.1⟩) ⟨mSx_blind, ⟨cell, g1, g2, g3⟩, fun U hU hW => ⟨rfl, mSx_move hM hW (by rw [hU]; exact hS.2.1) (fun _ h => h.elim)⟩⟩ rfl rfl hl.1 rfl (lv_room (Nat.le_of_ble_eq_true rfl)) dX6_init_47 ⟨hR.2.2.1, hR.2.2.2⟩) hS (fun q _ z => z.elim) (fun q z => z.elim) (fun r u t H1 locs1 ht hvm hw hB hz hk1 hS1 => ?_)
    have hP1 : va_P (mcD X) vwCl wT H1 := va_P.kept hP (fun k q hk => hk1 q.1 (hP k q hk).lt (fun z => z))
    subst hw
    refine lv_istore (lv' := [(4, .int (kwB.getD (i * 6 + j) 0)), (3, .int (nI j)), (2, .int (ltF i j)), (1, .int (nI i)), (0, .ref h0)]) hx hb dX6_init_50 hl (by decide) rfl (fun ls hl => ?_)
    refine lv_iload hx hb dX6_init_52 (lv_at hl 0 rfl) ?_
    refine lv_bipush (v := nI 32) hx hb dX6_init_54 (by decide) ?_
    refine lv_icmp_eq (tgt := 69) hx hb dX6_init_56 (by decide) (fun z => ?_) (fun z => ?_)
    · refine lv_iinc (v := nI (j + 1)) (lv' := [(3, .int (nI (j + 1))), (4, .int (kwB.getD (i * 6 + j) 0)), (2, .int (ltF i j)), (1, .int (nI i)), (0, .ref h0)]) hx hb dX6_init_69 hl (k := 1) rfl (by first | exact nI_add j 1 | exact (nI_add j 1).symm) (by decide) rfl (fun ls hl => ?_)
      refine lv_goto (tgt := 33) hx hb dX6_init_72 (by decide) ?_
      refine ih (j + 1) H1 locs1 ls (by omega) hP1 hS1 ?_
      have hl := lv_sub hl [0, 2, 3, 4] rfl
      have e : ltF i (j + 1) = ltF i j := if_pos z
      rw [e]
      exact hl
    · refine lv_iload_n hx hb dX6_init_59 rfl (lv_at hl 2 rfl) ?_
      refine lv_iconst (v := nI 5) hx hb dX6_init_60 (by decide) ?_
      refine lv_ishl hx hb dX6_init_61 ?_
      refine lv_iload hx hb dX6_init_62 (lv_at hl 0 rfl) ?_
      refine lv_bipush (v := nI 96) hx hb dX6_init_64 (by decide) ?_
      refine lv_isub hx hb dX6_init_66 ?_
      refine lv_ior hx hb dX6_init_67 ?_
      have e : ltF i j <<< (nI 5 &&& 31) ||| (kwB.getD (i * 6 + j) 0 - nI 96) = ltF i (j + 1) := (if_neg z).symm
      rw [e]
      refine lv_istore_n (lv' := [(2, .int (ltF i (j + 1))), (4, .int (kwB.getD (i * 6 + j) 0)), (3, .int (nI j)), (1, .int (nI i)), (0, .ref h0)]) hx hb dX6_init_68 rfl hl (by decide) rfl (fun ls hl => ?_)
      refine lv_iinc (v := nI (j + 1)) (lv' := [(3, .int (nI (j + 1))), (2, .int (ltF i (j + 1))), (4, .int (kwB.getD (i * 6 + j) 0)), (1, .int (nI i)), (0, .ref h0)]) hx hb dX6_init_69 hl (k := 2) rfl (by first | exact nI_add j 1 | exact (nI_add j 1).symm) (by decide) rfl (fun ls hl => ?_)
      refine lv_goto (tgt := 33) hx hb dX6_init_72 (by decide) ?_
      exact ih (j + 1) H1 locs1 ls (by omega) hP1 hS1 (lv_sub hl [0, 1, 3, 4] rfl)
set_option maxHeartbeats 4000000 in
theorem tp_out (hC : CX X RX6 cX6_init 5 p s m args meth c) (hM : mSx ak av A s s.heap) (hR : 5 ≤ R.frames ∧ 8 + (2 + 11) + 64 * 4 ≤ R.locals ∧ cells ≤ R.cells ∧ slots ≤ R.slots)
    (kont : ∀ (f : Nat → Int32) (H : Heap) (locs : List Loc) (ls : Array Slot), (∀ k, k < 19 → f k = nI (kwN k)) → va_P (mcD X) vwCl (wT3 X h0 q1 q2 f) H → va_D A (wT3 X h0 q1 q2 f) → va_S A s.heap H locs → W p (mcL X) e R s m args below meth c H locs cells slots Q (F0 m 88 ls [])) :
    ∀ (n i : Nat) (f : Nat → Int32) (H : Heap) (locs : List Loc) (ls : Array Slot), i + n = 19 → (∀ k, k < i → f k = nI (kwN k)) → va_P (mcD X) vwCl (wT3 X h0 q1 q2 f) H → va_D A (wT3 X h0 q1 q2 f) → va_S A s.heap H locs → lv_has ls 5 [(1, .int (nI i)), (0, .ref h0)] → W p (mcL X) e R s m args below meth c H locs cells slots Q (F0 m 23 ls []) := by
  obtain ⟨hx, hb, hml, hown, hts, hK⟩ := id hC
  intro n
  induction n with
  | zero =>
    intro i f H locs ls hj hf hP hD hS hl
    have hj6 : i = 19 := by omega
    subst hj6
    refine lv_iload_n hx hb dX6_init_23 rfl (lv_at hl 0 rfl) ?_
    refine lv_bipush (v := nI 19) hx hb dX6_init_24 (by decide) ?_
    exact lv_icmp_ge (tgt := 88) hx hb dX6_init_26 (by decide) (fun _ => kont f H locs ls hf hP hD hS) (fun z => absurd (nI_le (by omega) (by omega)) z)
  | succ n ih =>
    intro i f H locs ls hj hf hP hD hS hl
    refine lv_iload_n hx hb dX6_init_23 rfl (lv_at hl 0 rfl) ?_
    refine lv_bipush (v := nI 19) hx hb dX6_init_24 (by decide) ?_
    refine lv_icmp_ge (tgt := 88) hx hb dX6_init_26 (by decide) (fun z => absurd z (nI_ge (by omega) (by omega))) (fun _ => ?_)
    refine lv_iconst (v := nI 0) hx hb dX6_init_29 (by decide) ?_
    refine lv_istore_n (lv' := [(2, .int (nI 0)), (1, .int (nI i)), (0, .ref h0)]) hx hb dX6_init_30 rfl hl (by decide) rfl (fun ls hl => ?_)
    refine lv_iconst (v := nI 0) hx hb dX6_init_31 (by decide) ?_
    refine lv_istore_n (lv' := [(3, .int (nI 0)), (2, .int (nI 0)), (1, .int (nI i)), (0, .ref h0)]) hx hb dX6_init_32 rfl hl (by decide) rfl (fun ls hl => ?_)
    refine tp_in (i := i) (wT := wT3 X h0 q1 q2 f) (by omega) hC hM hR (fun H locs ls hP hS hl => ?_) 6 0 H locs ls rfl hP hS hl
    refine lv_aload_n hx hb dX6_init_75 rfl (lv_at hl 2 rfl) ?_
    refine va_get (D := mcD X) (ci := 5) (v := .ref q2) (C := RX6) (T := TX6) (N := 12) hx hb hts (vwCl_ok 5 _ rfl).1 hown hK hP 0 rfl rfl 1 (by decide) (hts _ lk_X6_17) (fun _ h9 => h9) rfl dX6_init_76 ?_
    refine lv_iload_n hx hb dX6_init_79 rfl (lv_at hl 1 rfl) ?_
    refine lv_iload_n hx hb dX6_init_80 rfl (lv_at hl 0 rfl) ?_
    refine va_iast hx hb hK hP hD hS 2 0 rfl rfl (vp_in_nI (by omega) (by decide)) dX6_init_81 (fun H locs hP hD hS => ?_)
    rw [nI_clamp (by omega)] at hP hD
    have hP : va_P (mcD X) vwCl (wT3 X h0 q1 q2 (upd f i (ltF i 6))) H := hP
    have hD : va_D A (wT3 X h0 q1 q2 (upd f i (ltF i 6))) := hD
    refine lv_iinc (v := nI (i + 1)) (lv' := [(1, .int (nI (i + 1))), (2, .int (ltF i 6)), (0, .ref h0)]) hx hb dX6_init_82 hl (k := 1) rfl (by first | exact nI_add i 1 | exact (nI_add i 1).symm) (by decide) rfl (fun ls hl => ?_)
    refine lv_goto (tgt := 23) hx hb dX6_init_85 (by decide) ?_
    refine ih (i + 1) (upd f i (ltF i 6)) H locs ls (by omega) (fun k hk => ?_) hP hD hS (lv_sub hl [0, 2] rfl)
    by_cases hki : k = i
    · subst hki
      rw [upd_at]
      exact lt_kw k (by omega)
    · rw [upd_ne hki]
      exact hf k (by omega)
end MTp
set_option maxHeartbeats 4000000 in
theorem ct_X6 {X : mC} {ak av b0 : Nat} : CT X (EXT ak av b0) yX6_init cX6_init 5 5 fsX6 6 2 959 (fun a => wG (mcA X) a vT uZ 0 shX6) := by
  refine ct_start (by decide) rfl (by decide) ?_
  intro p e s m below meth c h0 ls hC hr hin hlocks hE hP hl
  have hD : va_D (va_A (eW h0 5 fsX6) s.heap.size) (eW h0 5 fsX6) := eW_D
  have hA : ∀ q, s.heap.size ≤ q → va_A (eW h0 5 fsX6) s.heap.size q := fun q h => Or.inr h
  have hS : va_S (va_A (eW h0 5 fsX6) s.heap.size) s.heap s.heap [] := va_S.rf
  have hM : mSx ak av (va_A (eW h0 5 fsX6) s.heap.size) s s.heap := mSx_move hE.2.2 (State.WarmedH.refl s) (fun _ _ _ => rfl) (fun q z => by
    rcases z with ⟨j, e', hj⟩ | z
    · have hj0 : j < 1 := (List.getElem?_eq_some_iff.mp hj).1
      rw [show j = 0 by omega] at hj
      have hj2 : (h0, (.inr (5, fsX6) : va_E)) = (q, e') := Option.some.inj hj
      have hz2 : h0 = q := congrArg Prod.fst hj2
      rw [← hz2]
      exact hE.1
    · exact Nat.le_trans hE.2.1 z)
  refine cs_super hC lk_X6_super ⟨Nat.le_of_ble_eq_true rfl, Nat.le_of_ble_eq_true rfl⟩ hl dX6_init_0 dX6_init_1 ?_
  refine lv_aload_n hC.1 hC.2.1 dX6_init_4 rfl (lv_at hl 0 rfl) ?_
  refine lv_sipush (v := nI 940) hC.1 hC.2.1 dX6_init_5 (by decide) ?_
  refine cs_arrI (n := 940) (k := 0) (idx := 11) (ws := []) hC hin hP hD hS hA ck_X6_0 (Nat.le_of_ble_eq_true rfl) (Nat.le_of_ble_eq_true rfl) (Nat.le_of_ble_eq_true rfl) (Nat.le_of_ble_eq_true rfl) dX6_init_8 dX6_init_10 (fun q1 H locs hP hD hS => ?_)
  refine lv_aload_n hC.1 hC.2.1 dX6_init_13 rfl (lv_at hl 0 rfl) ?_
  refine lv_bipush (v := nI 19) hC.1 hC.2.1 dX6_init_14 (by decide) ?_
  refine cs_arrI (n := 19) (k := 1) (idx := 17) (ws := [(q1, .inl (mcA X 0, 940, .inl (fun _ => 0)))]) hC hin hP hD hS hA ck_X6_1 (Nat.le_of_ble_eq_true rfl) (Nat.le_of_ble_eq_true rfl) (Nat.le_of_ble_eq_true rfl) (Nat.le_of_ble_eq_true rfl) dX6_init_16 dX6_init_18 (fun q2 H locs hP hD hS => ?_)
  have hP : va_P (mcD X) vwCl (wT3 X h0 q1 q2 (fun _ => 0)) H := hP
  have hD : va_D (va_A (eW h0 5 fsX6) s.heap.size) (wT3 X h0 q1 q2 (fun _ => 0)) := hD
  refine lv_iconst (v := nI 0) hC.1 hC.2.1 dX6_init_21 (by decide) ?_
  refine lv_istore_n (lv' := [(1, .int (nI 0)), (0, .ref h0)]) hC.1 hC.2.1 dX6_init_22 rfl hl (by decide) rfl (fun ls hl => ?_)
  refine tp_out hC hM ⟨Nat.le_of_ble_eq_true rfl, Nat.le_of_ble_eq_true rfl, Nat.le_of_ble_eq_true rfl, Nat.le_of_ble_eq_true rfl⟩ (fun f H locs ls hf hP hD hS => ?_) 19 0 (fun _ => 0) H locs ls rfl (fun k hk => absurd hk (Nat.not_lt_zero k)) hP hD hS hl
  have hP := va_P_eq (w1 := [(h0, .inr (5, fsT q1 q2)), (q1, .inl (mcA X 0, 940, .inl (fun _ => 0)))]) (w2 := []) (y := (19, .inl (fun k => nI (kwN k)))) (by rw [vp_cell_i, vp_cell_i]; exact arrV_eq (fun j hj => by rw [hf j hj])) hP
  have hD := va_D_eq (w1 := [(h0, .inr (5, fsT q1 q2)), (q1, .inl (mcA X 0, 940, .inl (fun _ => 0)))]) (w2 := []) (e2 := .inl (mcA X 0, 19, .inl (fun k => nI (kwN k)))) hD
  exact ct_end (F := fun a => wG (mcA X) a vT uZ 0 shX6) (a := fun i => ([h0, q1, q2] : List Nat).getD i 0) hC hr hlocks (Nat.le_of_ble_eq_true rfl) (Nat.le_of_ble_eq_true rfl) rfl hP hD hS dX6_init_88

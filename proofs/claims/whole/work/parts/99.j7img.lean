theorem dX1_init_0 : decode cX1_init 0 = .ok (.aload_n 0, 1) := by decide +kernel
theorem dX1_init_1 : decode cX1_init 1 = .ok (.invokespecial 1, 3) := by decide +kernel
theorem dX1_init_4 : decode cX1_init 4 = .ok (.aload_n 0, 1) := by decide +kernel
theorem dX1_init_5 : decode cX1_init 5 = .ok (.new 7, 3) := by decide +kernel
theorem dX1_init_8 : decode cX1_init 8 = .ok (.dup, 1) := by decide +kernel
theorem dX1_init_9 : decode cX1_init 9 = .ok (.invokespecial 9, 3) := by decide +kernel
theorem dX1_init_12 : decode cX1_init 12 = .ok (.putfield 10, 3) := by decide +kernel
theorem dX1_init_15 : decode cX1_init 15 = .ok (.aload_n 0, 1) := by decide +kernel
theorem dX1_init_16 : decode cX1_init 16 = .ok (.new 16, 3) := by decide +kernel
theorem dX1_init_19 : decode cX1_init 19 = .ok (.dup, 1) := by decide +kernel
theorem dX1_init_20 : decode cX1_init 20 = .ok (.invokespecial 18, 3) := by decide +kernel
theorem dX1_init_23 : decode cX1_init 23 = .ok (.putfield 19, 3) := by decide +kernel
theorem dX1_init_26 : decode cX1_init 26 = .ok (.aload_n 0, 1) := by decide +kernel
theorem dX1_init_27 : decode cX1_init 27 = .ok (.new 23, 3) := by decide +kernel
theorem dX1_init_30 : decode cX1_init 30 = .ok (.dup, 1) := by decide +kernel
theorem dX1_init_31 : decode cX1_init 31 = .ok (.invokespecial 25, 3) := by decide +kernel
theorem dX1_init_34 : decode cX1_init 34 = .ok (.putfield 26, 3) := by decide +kernel
theorem dX1_init_37 : decode cX1_init 37 = .ok (.aload_n 0, 1) := by decide +kernel
theorem dX1_init_38 : decode cX1_init 38 = .ok (.new 30, 3) := by decide +kernel
theorem dX1_init_41 : decode cX1_init 41 = .ok (.dup, 1) := by decide +kernel
theorem dX1_init_42 : decode cX1_init 42 = .ok (.invokespecial 32, 3) := by decide +kernel
theorem dX1_init_45 : decode cX1_init 45 = .ok (.putfield 33, 3) := by decide +kernel
theorem dX1_init_48 : decode cX1_init 48 = .ok (.return_, 1) := by decide +kernel
abbrev fsX1 : List Value := [.int 0, .null, .null, .null, .null]
abbrev shX1 : List (Nat × Nat) := [(1, 0), (0, 0), (16, 6), (16, 8), (16, 6), (16, 8), (16, 8), (16, 8), (16, 48), (16, 48), (16, 48), (16, 48), (16, 48), (2, 0), (16, 20), (16, 20), (16, 20), (16, 20), (16, 20), (16, 20), (4, 0), (16, 40), (16, 40), (16, 40), (3, 0), (16, 48), (16, 48), (16, 48), (16, 48), (16, 6), (16, 6), (16, 6), (16, 8), (16, 8), (16, 8), (16, 36)]
theorem lk_X1_super : Cond.methodLink RX1 1 Lib.objectInit ∈ mTb := by decide +kernel
theorem ds_X1 : ∀ j, j < 5 → defaultValue (tyX1 j) = vp_V fsX1 j := by decide +kernel
def vI : Nat → Nat → Int32 := glue (fun _ => 0) [(1, (fun _ => fun _ => 0)), (12, vZ), (7, vZ), (4, vZ), (12, vR)]
theorem cn_X1_X0 : ckN RX1 0 7 9 yX0_init cX0_init 1 = true := by decide +kernel
theorem ck_X1_1 : ckF RX1 1 1 10 (.object "WasteBrook$Brook") true = true := by decide +kernel
theorem cn_X1_X3 : ckN RX1 2 16 18 yX3_init cX3_init 1 = true := by decide +kernel
theorem ck_X1_2 : ckF RX1 1 2 19 (.object "WasteBrook$Plan") true = true := by decide +kernel
theorem cn_X1_X5 : ckN RX1 4 23 25 yX5_init cX5_init 1 = true := by decide +kernel
theorem ck_X1_3 : ckF RX1 1 3 26 (.object "WasteBrook$Sentence") true = true := by decide +kernel
theorem cn_X1_X4 : ckN RX1 3 30 32 yX4_init cX4_init 1 = true := by decide +kernel
theorem ck_X1_4 : ckF RX1 1 4 33 (.object "WasteBrook$Run") true = true := by decide +kernel
set_option maxHeartbeats 4000000 in
theorem wq_X1 {cA : Nat → ClassId} {h0 : Nat} {a1 a2 a3 a4 : Nat → Nat} : wG cA (glue 0 [(1, (fun _ => h0)), (12, a1), (7, a2), (4, a3), (12, a4)]) vI uZ 0 shX1 = (h0, .inr (1, [.int 0, .ref (a1 0), .ref (a2 0), .ref (a3 0), .ref (a4 0)])) :: (((([] ++ wG cA a1 vZ uZ 0 shX0) ++ wG cA a2 vZ uZ 0 shX3) ++ wG cA a3 vZ uZ 0 shX5) ++ wG cA a4 vR uZ 0 shX4) := by
  obtain ⟨a, ha⟩ : ∃ a : Nat → Nat, a = glue 0 [(1, (fun _ => h0)), (12, a1), (7, a2), (4, a3), (12, a4)] := ⟨_, rfl⟩
  have s1 : wG cA a vI uZ 1 shX0 = wG cA a1 vZ uZ 0 shX0 := wG_c (n := 12) (o := 1) (fun k hk => by rw [ha, glue_s (j := 0 + k) (by omega), Nat.zero_add, glue_h hk]) (fun k hk => by unfold vI; rw [glue_s (j := 0 + k) (by omega), Nat.zero_add, glue_h hk]) (fun k _ => rfl) shX0 0 (by decide +kernel)
  have s2 : wG cA a vI uZ 13 shX3 = wG cA a2 vZ uZ 0 shX3 := wG_c (n := 7) (o := 13) (fun k hk => by rw [ha, glue_s (j := 12 + k) (by omega), glue_s (j := 0 + k) (by omega), Nat.zero_add, glue_h hk]) (fun k hk => by unfold vI; rw [glue_s (j := 12 + k) (by omega), glue_s (j := 0 + k) (by omega), Nat.zero_add, glue_h hk]) (fun k _ => rfl) shX3 0 (by decide +kernel)
  have s3 : wG cA a vI uZ 20 shX5 = wG cA a3 vZ uZ 0 shX5 := wG_c (n := 4) (o := 20) (fun k hk => by rw [ha, glue_s (j := 19 + k) (by omega), glue_s (j := 7 + k) (by omega), glue_s (j := 0 + k) (by omega), Nat.zero_add, glue_h hk]) (fun k hk => by unfold vI; rw [glue_s (j := 19 + k) (by omega), glue_s (j := 7 + k) (by omega), glue_s (j := 0 + k) (by omega), Nat.zero_add, glue_h hk]) (fun k _ => rfl) shX5 0 (by decide +kernel)
  have s4 : wG cA a vI uZ 24 shX4 = wG cA a4 vR uZ 0 shX4 := wG_c (n := 12) (o := 24) (fun k hk => by rw [ha, glue_s (j := 23 + k) (by omega), glue_s (j := 11 + k) (by omega), glue_s (j := 4 + k) (by omega), glue_s (j := 0 + k) (by omega), Nat.zero_add, glue_h hk]) (fun k hk => by unfold vI; rw [glue_s (j := 23 + k) (by omega), glue_s (j := 11 + k) (by omega), glue_s (j := 4 + k) (by omega), glue_s (j := 0 + k) (by omega), Nat.zero_add, glue_h hk]) (fun k _ => rfl) shX4 0 (by decide +kernel)
  rw [← ha]
  have e0 : ((a 0, ceG cA a vI uZ 0 (1, 0)) : Nat × va_E) = (h0, .inr (1, [.int 0, .ref (a1 0), .ref (a2 0), .ref (a3 0), .ref (a4 0)])) := by rw [ha]; rfl
  show (a 0, ceG cA a vI uZ 0 (1, 0)) :: wG cA a vI uZ 1 (((([] ++ shX0) ++ shX3) ++ shX5) ++ shX4) = _
  rw [e0, wG_app, wG_app, wG_app, wG_app]
  show _ :: ((([] ++ wG cA a vI uZ 1 shX0) ++ wG cA a vI uZ 13 shX3) ++ wG cA a vI uZ 20 shX5) ++ wG cA a vI uZ 24 shX4 = _
  rw [s1, s2, s3, s4]
  rfl
set_option maxHeartbeats 4000000 in
theorem ct_X1 {X : mC} : CT X EX0 yX1_init cX1_init 1 1 fsX1 3 35 833 (fun a => wG (mcA X) a vI uZ 0 shX1) := by
  refine ct_start (by decide) rfl (by decide) ?_
  intro p e s m below meth c h0 ls hC hr hin hlocks hE hP hl
  have hD : va_D (va_A (eW h0 1 fsX1) s.heap.size) (eW h0 1 fsX1) := eW_D
  have hA : ∀ q, s.heap.size ≤ q → va_A (eW h0 1 fsX1) s.heap.size q := fun q h => Or.inr h
  have hS : va_S (va_A (eW h0 1 fsX1) s.heap.size) s.heap s.heap [] := va_S.rf
  refine cs_super hC lk_X1_super ⟨(Nat.le_of_ble_eq_true rfl), (Nat.le_of_ble_eq_true rfl)⟩ hl dX1_init_0 dX1_init_1 ?_
  refine lv_aload_n hC.1 hC.2.1 dX1_init_4 rfl (lv_at hl 0 rfl) ?_
  refine cs_new (EX := EX0) (cj := 0) (ik := 7) (ic := 9) (C := RX0) (T := TX0) (N := 15) (ty := tyX0) (ws := (h0, .inr (1, [.int 0, .null, .null, .null, .null])) :: ([] : va_W)) (rest := [.ref h0]) hC hP hD hS hA rfl tyX0_ok ds_X0 cn_X1_X0 ct_X0 EX0_ok (fun _ _ _ _ _ _ _ _ => trivial) hl.1 ⟨(Nat.le_of_ble_eq_true rfl), (Nat.le_of_ble_eq_true rfl)⟩ (Nat.le_of_ble_eq_true rfl) (Nat.le_of_ble_eq_true rfl) (Nat.le_of_ble_eq_true rfl) dX1_init_5 dX1_init_8 dX1_init_9 (fun a1 H locs hP hD hS => ?_)
  rw [List.cons_append] at hP hD
  refine cs_putF (ci := 1) (fs := [.int 0, .null, .null, .null, .null]) (k := 1) (idx := 10) (v := a1 0) (ws := ([] ++ wG (mcA X) a1 vZ uZ 0 shX0)) hC hin hP hD hS ck_X1_1 rfl rfl (Nat.le_of_ble_eq_true rfl) dX1_init_12 (fun H locs hP hD hS => ?_)
  have hP : va_P (mcD X) vwCl ((h0, .inr (1, [.int 0, .ref (a1 0), .null, .null, .null])) :: ([] ++ wG (mcA X) a1 vZ uZ 0 shX0)) H := hP
  have hD : va_D (va_A (eW h0 1 fsX1) s.heap.size) ((h0, .inr (1, [.int 0, .ref (a1 0), .null, .null, .null])) :: ([] ++ wG (mcA X) a1 vZ uZ 0 shX0)) := hD
  refine lv_aload_n hC.1 hC.2.1 dX1_init_15 rfl (lv_at hl 0 rfl) ?_
  refine cs_new (EX := EX0) (cj := 2) (ik := 16) (ic := 18) (C := RX3) (T := TX3) (N := 7) (ty := tyX3) (ws := (h0, .inr (1, [.int 0, .ref (a1 0), .null, .null, .null])) :: (([] ++ wG (mcA X) a1 vZ uZ 0 shX0) : va_W)) (rest := [.ref h0]) hC hP hD hS hA rfl tyX3_ok ds_X3 cn_X1_X3 ct_X3 EX0_ok (fun _ _ _ _ _ _ _ _ => trivial) hl.1 ⟨(Nat.le_of_ble_eq_true rfl), (Nat.le_of_ble_eq_true rfl)⟩ (Nat.le_of_ble_eq_true rfl) (Nat.le_of_ble_eq_true rfl) (Nat.le_of_ble_eq_true rfl) dX1_init_16 dX1_init_19 dX1_init_20 (fun a2 H locs hP hD hS => ?_)
  rw [List.cons_append] at hP hD
  refine cs_putF (ci := 1) (fs := [.int 0, .ref (a1 0), .null, .null, .null]) (k := 2) (idx := 19) (v := a2 0) (ws := (([] ++ wG (mcA X) a1 vZ uZ 0 shX0) ++ wG (mcA X) a2 vZ uZ 0 shX3)) hC hin hP hD hS ck_X1_2 rfl rfl (Nat.le_of_ble_eq_true rfl) dX1_init_23 (fun H locs hP hD hS => ?_)
  have hP : va_P (mcD X) vwCl ((h0, .inr (1, [.int 0, .ref (a1 0), .ref (a2 0), .null, .null])) :: (([] ++ wG (mcA X) a1 vZ uZ 0 shX0) ++ wG (mcA X) a2 vZ uZ 0 shX3)) H := hP
  have hD : va_D (va_A (eW h0 1 fsX1) s.heap.size) ((h0, .inr (1, [.int 0, .ref (a1 0), .ref (a2 0), .null, .null])) :: (([] ++ wG (mcA X) a1 vZ uZ 0 shX0) ++ wG (mcA X) a2 vZ uZ 0 shX3)) := hD
  refine lv_aload_n hC.1 hC.2.1 dX1_init_26 rfl (lv_at hl 0 rfl) ?_
  refine cs_new (EX := EX0) (cj := 4) (ik := 23) (ic := 25) (C := RX5) (T := TX5) (N := 5) (ty := tyX5) (ws := (h0, .inr (1, [.int 0, .ref (a1 0), .ref (a2 0), .null, .null])) :: ((([] ++ wG (mcA X) a1 vZ uZ 0 shX0) ++ wG (mcA X) a2 vZ uZ 0 shX3) : va_W)) (rest := [.ref h0]) hC hP hD hS hA rfl tyX5_ok ds_X5 cn_X1_X5 ct_X5 EX0_ok (fun _ _ _ _ _ _ _ _ => trivial) hl.1 ⟨(Nat.le_of_ble_eq_true rfl), (Nat.le_of_ble_eq_true rfl)⟩ (Nat.le_of_ble_eq_true rfl) (Nat.le_of_ble_eq_true rfl) (Nat.le_of_ble_eq_true rfl) dX1_init_27 dX1_init_30 dX1_init_31 (fun a3 H locs hP hD hS => ?_)
  rw [List.cons_append] at hP hD
  refine cs_putF (ci := 1) (fs := [.int 0, .ref (a1 0), .ref (a2 0), .null, .null]) (k := 3) (idx := 26) (v := a3 0) (ws := ((([] ++ wG (mcA X) a1 vZ uZ 0 shX0) ++ wG (mcA X) a2 vZ uZ 0 shX3) ++ wG (mcA X) a3 vZ uZ 0 shX5)) hC hin hP hD hS ck_X1_3 rfl rfl (Nat.le_of_ble_eq_true rfl) dX1_init_34 (fun H locs hP hD hS => ?_)
  have hP : va_P (mcD X) vwCl ((h0, .inr (1, [.int 0, .ref (a1 0), .ref (a2 0), .ref (a3 0), .null])) :: ((([] ++ wG (mcA X) a1 vZ uZ 0 shX0) ++ wG (mcA X) a2 vZ uZ 0 shX3) ++ wG (mcA X) a3 vZ uZ 0 shX5)) H := hP
  have hD : va_D (va_A (eW h0 1 fsX1) s.heap.size) ((h0, .inr (1, [.int 0, .ref (a1 0), .ref (a2 0), .ref (a3 0), .null])) :: ((([] ++ wG (mcA X) a1 vZ uZ 0 shX0) ++ wG (mcA X) a2 vZ uZ 0 shX3) ++ wG (mcA X) a3 vZ uZ 0 shX5)) := hD
  refine lv_aload_n hC.1 hC.2.1 dX1_init_37 rfl (lv_at hl 0 rfl) ?_
  refine cs_new (EX := EX0) (cj := 3) (ik := 30) (ic := 32) (C := RX4) (T := TX4) (N := 12) (ty := tyX4) (ws := (h0, .inr (1, [.int 0, .ref (a1 0), .ref (a2 0), .ref (a3 0), .null])) :: (((([] ++ wG (mcA X) a1 vZ uZ 0 shX0) ++ wG (mcA X) a2 vZ uZ 0 shX3) ++ wG (mcA X) a3 vZ uZ 0 shX5) : va_W)) (rest := [.ref h0]) hC hP hD hS hA rfl tyX4_ok ds_X4 cn_X1_X4 ct_X4 EX0_ok (fun _ _ _ _ _ _ _ _ => trivial) hl.1 ⟨(Nat.le_of_ble_eq_true rfl), (Nat.le_of_ble_eq_true rfl)⟩ (Nat.le_of_ble_eq_true rfl) (Nat.le_of_ble_eq_true rfl) (Nat.le_of_ble_eq_true rfl) dX1_init_38 dX1_init_41 dX1_init_42 (fun a4 H locs hP hD hS => ?_)
  rw [List.cons_append] at hP hD
  refine cs_putF (ci := 1) (fs := [.int 0, .ref (a1 0), .ref (a2 0), .ref (a3 0), .null]) (k := 4) (idx := 33) (v := a4 0) (ws := (((([] ++ wG (mcA X) a1 vZ uZ 0 shX0) ++ wG (mcA X) a2 vZ uZ 0 shX3) ++ wG (mcA X) a3 vZ uZ 0 shX5) ++ wG (mcA X) a4 vR uZ 0 shX4)) hC hin hP hD hS ck_X1_4 rfl rfl (Nat.le_of_ble_eq_true rfl) dX1_init_45 (fun H locs hP hD hS => ?_)
  have hP : va_P (mcD X) vwCl ((h0, .inr (1, [.int 0, .ref (a1 0), .ref (a2 0), .ref (a3 0), .ref (a4 0)])) :: (((([] ++ wG (mcA X) a1 vZ uZ 0 shX0) ++ wG (mcA X) a2 vZ uZ 0 shX3) ++ wG (mcA X) a3 vZ uZ 0 shX5) ++ wG (mcA X) a4 vR uZ 0 shX4)) H := hP
  have hD : va_D (va_A (eW h0 1 fsX1) s.heap.size) ((h0, .inr (1, [.int 0, .ref (a1 0), .ref (a2 0), .ref (a3 0), .ref (a4 0)])) :: (((([] ++ wG (mcA X) a1 vZ uZ 0 shX0) ++ wG (mcA X) a2 vZ uZ 0 shX3) ++ wG (mcA X) a3 vZ uZ 0 shX5) ++ wG (mcA X) a4 vR uZ 0 shX4)) := hD
  rw [← wq_X1] at hP hD
  exact ct_end (F := fun a => wG (mcA X) a vI uZ 0 shX1) (a := glue 0 [(1, (fun _ => h0)), (12, a1), (7, a2), (4, a3), (12, a4)]) hC hr hlocks (Nat.le_of_ble_eq_true rfl) (Nat.le_of_ble_eq_true rfl) rfl hP hD hS dX1_init_48

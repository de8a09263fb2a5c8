def uZ : Nat → Nat → Int64 := fun _ _ => 0
def vZ : Nat → Nat → Int32 := fun _ _ => 0
def vR : Nat → Nat → Int32 := fun i => if i = 0 then (fun k => if k = 0 then -1 else 0) else fun _ => 0
def vM : Nat → Nat → Int32 := fun i => if i = 0 then (fun k => if k = 35 then -1 else 0) else fun _ => 0
theorem dX0_init_0 : decode cX0_init 0 = .ok (.aload_n 0, 1) := by decide +kernel
theorem dX0_init_1 : decode cX0_init 1 = .ok (.invokespecial 3, 3) := by decide +kernel
theorem dX0_init_4 : decode cX0_init 4 = .ok (.aload_n 0, 1) := by decide +kernel
theorem dX0_init_5 : decode cX0_init 5 = .ok (.bipush 6, 2) := by decide +kernel
theorem dX0_init_7 : decode cX0_init 7 = .ok (.newarray .int, 2) := by decide +kernel
theorem dX0_init_9 : decode cX0_init 9 = .ok (.putfield 9, 3) := by decide +kernel
theorem dX0_init_12 : decode cX0_init 12 = .ok (.aload_n 0, 1) := by decide +kernel
theorem dX0_init_13 : decode cX0_init 13 = .ok (.bipush 8, 2) := by decide +kernel
theorem dX0_init_15 : decode cX0_init 15 = .ok (.newarray .int, 2) := by decide +kernel
theorem dX0_init_17 : decode cX0_init 17 = .ok (.putfield 15, 3) := by decide +kernel
theorem dX0_init_20 : decode cX0_init 20 = .ok (.aload_n 0, 1) := by decide +kernel
theorem dX0_init_21 : decode cX0_init 21 = .ok (.bipush 6, 2) := by decide +kernel
theorem dX0_init_23 : decode cX0_init 23 = .ok (.newarray .int, 2) := by decide +kernel
theorem dX0_init_25 : decode cX0_init 25 = .ok (.putfield 18, 3) := by decide +kernel
theorem dX0_init_28 : decode cX0_init 28 = .ok (.aload_n 0, 1) := by decide +kernel
theorem dX0_init_29 : decode cX0_init 29 = .ok (.bipush 8, 2) := by decide +kernel
theorem dX0_init_31 : decode cX0_init 31 = .ok (.newarray .int, 2) := by decide +kernel
theorem dX0_init_33 : decode cX0_init 33 = .ok (.putfield 21, 3) := by decide +kernel
theorem dX0_init_36 : decode cX0_init 36 = .ok (.aload_n 0, 1) := by decide +kernel
theorem dX0_init_37 : decode cX0_init 37 = .ok (.bipush 8, 2) := by decide +kernel
theorem dX0_init_39 : decode cX0_init 39 = .ok (.newarray .int, 2) := by decide +kernel
theorem dX0_init_41 : decode cX0_init 41 = .ok (.putfield 24, 3) := by decide +kernel
theorem dX0_init_44 : decode cX0_init 44 = .ok (.aload_n 0, 1) := by decide +kernel
theorem dX0_init_45 : decode cX0_init 45 = .ok (.bipush 8, 2) := by decide +kernel
theorem dX0_init_47 : decode cX0_init 47 = .ok (.newarray .int, 2) := by decide +kernel
theorem dX0_init_49 : decode cX0_init 49 = .ok (.putfield 27, 3) := by decide +kernel
theorem dX0_init_52 : decode cX0_init 52 = .ok (.aload_n 0, 1) := by decide +kernel
theorem dX0_init_53 : decode cX0_init 53 = .ok (.bipush 48, 2) := by decide +kernel
theorem dX0_init_55 : decode cX0_init 55 = .ok (.newarray .int, 2) := by decide +kernel
theorem dX0_init_57 : decode cX0_init 57 = .ok (.putfield 30, 3) := by decide +kernel
theorem dX0_init_60 : decode cX0_init 60 = .ok (.aload_n 0, 1) := by decide +kernel
theorem dX0_init_61 : decode cX0_init 61 = .ok (.bipush 48, 2) := by decide +kernel
theorem dX0_init_63 : decode cX0_init 63 = .ok (.newarray .int, 2) := by decide +kernel
theorem dX0_init_65 : decode cX0_init 65 = .ok (.putfield 33, 3) := by decide +kernel
theorem dX0_init_68 : decode cX0_init 68 = .ok (.aload_n 0, 1) := by decide +kernel
theorem dX0_init_69 : decode cX0_init 69 = .ok (.bipush 48, 2) := by decide +kernel
theorem dX0_init_71 : decode cX0_init 71 = .ok (.newarray .int, 2) := by decide +kernel
theorem dX0_init_73 : decode cX0_init 73 = .ok (.putfield 36, 3) := by decide +kernel
theorem dX0_init_76 : decode cX0_init 76 = .ok (.aload_n 0, 1) := by decide +kernel
theorem dX0_init_77 : decode cX0_init 77 = .ok (.bipush 48, 2) := by decide +kernel
theorem dX0_init_79 : decode cX0_init 79 = .ok (.newarray .int, 2) := by decide +kernel
theorem dX0_init_81 : decode cX0_init 81 = .ok (.putfield 39, 3) := by decide +kernel
theorem dX0_init_84 : decode cX0_init 84 = .ok (.aload_n 0, 1) := by decide +kernel
theorem dX0_init_85 : decode cX0_init 85 = .ok (.bipush 48, 2) := by decide +kernel
theorem dX0_init_87 : decode cX0_init 87 = .ok (.newarray .int, 2) := by decide +kernel
theorem dX0_init_89 : decode cX0_init 89 = .ok (.putfield 42, 3) := by decide +kernel
theorem dX0_init_92 : decode cX0_init 92 = .ok (.return_, 1) := by decide +kernel
abbrev fsX0 : List Value := [.int 0, .int 0, .int 0, .int 0, .null, .null, .null, .null, .null, .null, .null, .null, .null, .null, .null]
abbrev shX0 : List (Nat × Nat) := [(0, 0), (16, 6), (16, 8), (16, 6), (16, 8), (16, 8), (16, 8), (16, 48), (16, 48), (16, 48), (16, 48), (16, 48)]
theorem lk_X0_super : Cond.methodLink RX0 3 Lib.objectInit ∈ mTb := by decide +kernel
theorem ck_X0_4 : ckF RX0 0 4 9 (.array .int) true = true := by decide +kernel
theorem ck_X0_5 : ckF RX0 0 5 15 (.array .int) true = true := by decide +kernel
theorem ck_X0_6 : ckF RX0 0 6 18 (.array .int) true = true := by decide +kernel
theorem ck_X0_7 : ckF RX0 0 7 21 (.array .int) true = true := by decide +kernel
theorem ck_X0_8 : ckF RX0 0 8 24 (.array .int) true = true := by decide +kernel
theorem ck_X0_9 : ckF RX0 0 9 27 (.array .int) true = true := by decide +kernel
theorem ck_X0_10 : ckF RX0 0 10 30 (.array .int) true = true := by decide +kernel
theorem ck_X0_11 : ckF RX0 0 11 33 (.array .int) true = true := by decide +kernel
theorem ck_X0_12 : ckF RX0 0 12 36 (.array .int) true = true := by decide +kernel
theorem ck_X0_13 : ckF RX0 0 13 39 (.array .int) true = true := by decide +kernel
theorem ck_X0_14 : ckF RX0 0 14 42 (.array .int) true = true := by decide +kernel
theorem ds_X0 : ∀ j, j < 15 → defaultValue (tyX0 j) = vp_V fsX0 j := by decide +kernel
set_option maxHeartbeats 4000000 in
set_option maxRecDepth 20000 in
theorem ct_X0 {X : mC} : CT X EX0 yX0_init cX0_init 1 0 fsX0 2 11 284 (fun a => wG (mcA X) a vZ uZ 0 shX0) := by
  refine ct_start (by decide) rfl (by decide) ?_
  intro p e s m below meth c h0 ls hC hr hin hlocks hE hP hl
  have hD : va_D (va_A (eW h0 0 fsX0) s.heap.size) (eW h0 0 fsX0) := eW_D
  have hA : ∀ q, s.heap.size ≤ q → va_A (eW h0 0 fsX0) s.heap.size q := fun q h => Or.inr h
  have hS : va_S (va_A (eW h0 0 fsX0) s.heap.size) s.heap s.heap [] := va_S.rf
  refine cs_super hC lk_X0_super ⟨(Nat.le_of_ble_eq_true rfl), (Nat.le_of_ble_eq_true rfl)⟩ hl dX0_init_0 dX0_init_1 ?_
  refine lv_aload_n hC.1 hC.2.1 dX0_init_4 rfl (lv_at hl 0 rfl) ?_
  refine lv_bipush (v := nI 6) hC.1 hC.2.1 dX0_init_5 (by decide) ?_
  refine cs_arrI (n := 6) (k := 4) (idx := 9) (ws := []) hC hin hP hD hS hA ck_X0_4 (Nat.le_of_ble_eq_true rfl) (Nat.le_of_ble_eq_true rfl) (Nat.le_of_ble_eq_true rfl) (Nat.le_of_ble_eq_true rfl) dX0_init_7 dX0_init_9 (fun q1 H locs hP hD hS => ?_)
  have hP : va_P (mcD X) vwCl [(h0, .inr (0, [.int 0, .int 0, .int 0, .int 0, .ref q1, .null, .null, .null, .null, .null, .null, .null, .null, .null, .null])), (q1, .inl (mcA X 0, 6, .inl (fun _ => 0)))] H := hP
  have hD : va_D (va_A (eW h0 0 fsX0) s.heap.size) [(h0, .inr (0, [.int 0, .int 0, .int 0, .int 0, .ref q1, .null, .null, .null, .null, .null, .null, .null, .null, .null, .null])), (q1, .inl (mcA X 0, 6, .inl (fun _ => 0)))] := hD
  refine lv_aload_n hC.1 hC.2.1 dX0_init_12 rfl (lv_at hl 0 rfl) ?_
  refine lv_bipush (v := nI 8) hC.1 hC.2.1 dX0_init_13 (by decide) ?_
  refine cs_arrI (n := 8) (k := 5) (idx := 15) (ws := [(q1, .inl (mcA X 0, 6, .inl (fun _ => 0)))]) hC hin hP hD hS hA ck_X0_5 (Nat.le_of_ble_eq_true rfl) (Nat.le_of_ble_eq_true rfl) (Nat.le_of_ble_eq_true rfl) (Nat.le_of_ble_eq_true rfl) dX0_init_15 dX0_init_17 (fun q2 H locs hP hD hS => ?_)
  have hP : va_P (mcD X) vwCl [(h0, .inr (0, [.int 0, .int 0, .int 0, .int 0, .ref q1, .ref q2, .null, .null, .null, .null, .null, .null, .null, .null, .null])), (q1, .inl (mcA X 0, 6, .inl (fun _ => 0))), (q2, .inl (mcA X 0, 8, .inl (fun _ => 0)))] H := hP
  have hD : va_D (va_A (eW h0 0 fsX0) s.heap.size) [(h0, .inr (0, [.int 0, .int 0, .int 0, .int 0, .ref q1, .ref q2, .null, .null, .null, .null, .null, .null, .null, .null, .null])), (q1, .inl (mcA X 0, 6, .inl (fun _ => 0))), (q2, .inl (mcA X 0, 8, .inl (fun _ => 0)))] := hD
  refine lv_aload_n hC.1 hC.2.1 dX0_init_20 rfl (lv_at hl 0 rfl) ?_
  refine lv_bipush (v := nI 6) hC.1 hC.2.1 dX0_init_21 (by decide) ?_
  refine cs_arrI (n := 6) (k := 6) (idx := 18) (ws := [(q1, .inl (mcA X 0, 6, .inl (fun _ => 0))), (q2, .inl (mcA X 0, 8, .inl (fun _ => 0)))]) hC hin hP hD hS hA ck_X0_6 (Nat.le_of_ble_eq_true rfl) (Nat.le_of_ble_eq_true rfl) (Nat.le_of_ble_eq_true rfl) (Nat.le_of_ble_eq_true rfl) dX0_init_23 dX0_init_25 (fun q3 H locs hP hD hS => ?_)
  have hP : va_P (mcD X) vwCl [(h0, .inr (0, [.int 0, .int 0, .int 0, .int 0, .ref q1, .ref q2, .ref q3, .null, .null, .null, .null, .null, .null, .null, .null])), (q1, .inl (mcA X 0, 6, .inl (fun _ => 0))), (q2, .inl (mcA X 0, 8, .inl (fun _ => 0))), (q3, .inl (mcA X 0, 6, .inl (fun _ => 0)))] H := hP
  have hD : va_D (va_A (eW h0 0 fsX0) s.heap.size) [(h0, .inr (0, [.int 0, .int 0, .int 0, .int 0, .ref q1, .ref q2, .ref q3, .null, .null, .null, .null, .null, .null, .null, .null])), (q1, .inl (mcA X 0, 6, .inl (fun _ => 0))), (q2, .inl (mcA X 0, 8, .inl (fun _ => 0))), (q3, .inl (mcA X 0, 6, .inl (fun _ => 0)))] := hD
  refine lv_aload_n hC.1 hC.2.1 dX0_init_28 rfl (lv_at hl 0 rfl) ?_
  refine lv_bipush (v := nI 8) hC.1 hC.2.1 dX0_init_29 (by decide) ?_
  refine cs_arrI (n := 8) (k := 7) (idx := 21) (ws := [(q1, .inl (mcA X 0, 6, .inl (fun _ => 0))), (q2, .inl (mcA X 0, 8, .inl (fun _ => 0))), (q3, .inl (mcA X 0, 6, .inl (fun _ => 0)))]) hC hin hP hD hS hA ck_X0_7 (Nat.le_of_ble_eq_true rfl) (Nat.le_of_ble_eq_true rfl) (Nat.le_of_ble_eq_true rfl) (Nat.le_of_ble_eq_true rfl) dX0_init_31 dX0_init_33 (fun q4 H locs hP hD hS => ?_)
  have hP : va_P (mcD X) vwCl [(h0, .inr (0, [.int 0, .int 0, .int 0, .int 0, .ref q1, .ref q2, .ref q3, .ref q4, .null, .null, .null, .null, .null, .null, .null])), (q1, .inl (mcA X 0, 6, .inl (fun _ => 0))), (q2, .inl (mcA X 0, 8, .inl (fun _ => 0))), (q3, .inl (mcA X 0, 6, .inl (fun _ => 0))), (q4, .inl (mcA X 0, 8, .inl (fun _ => 0)))] H := hP
  have hD : va_D (va_A (eW h0 0 fsX0) s.heap.size) [(h0, .inr (0, [.int 0, .int 0, .int 0, .int 0, .ref q1, .ref q2, .ref q3, .ref q4, .null, .null, .null, .null, .null, .null, .null])), (q1, .inl (mcA X 0, 6, .inl (fun _ => 0))), (q2, .inl (mcA X 0, 8, .inl (fun _ => 0))), (q3, .inl (mcA X 0, 6, .inl (fun _ => 0))), (q4, .inl (mcA X 0, 8, .inl (fun _ => 0)))] := hD
  refine lv_aload_n hC.1 hC.2.1 dX0_init_36 rfl (lv_at hl 0 rfl) ?_
  refine lv_bipush (v := nI 8) hC.1 hC.2.1 dX0_init_37 (by decide) ?_
  refine cs_arrI (n := 8) (k := 8) (idx := 24) (ws := [(q1, .inl (mcA X 0, 6, .inl (fun _ => 0))), (q2, .inl (mcA X 0, 8, .inl (fun _ => 0))), (q3, .inl (mcA X 0, 6, .inl (fun _ => 0))), (q4, .inl (mcA X 0, 8, .inl (fun _ => 0)))]) hC hin hP hD hS hA ck_X0_8 (Nat.le_of_ble_eq_true rfl) (Nat.le_of_ble_eq_true rfl) (Nat.le_of_ble_eq_true rfl) (Nat.le_of_ble_eq_true rfl) dX0_init_39 dX0_init_41 (fun q5 H locs hP hD hS => ?_)
  have hP : va_P (mcD X) vwCl [(h0, .inr (0, [.int 0, .int 0, .int 0, .int 0, .ref q1, .ref q2, .ref q3, .ref q4, .ref q5, .null, .null, .null, .null, .null, .null])), (q1, .inl (mcA X 0, 6, .inl (fun _ => 0))), (q2, .inl (mcA X 0, 8, .inl (fun _ => 0))), (q3, .inl (mcA X 0, 6, .inl (fun _ => 0))), (q4, .inl (mcA X 0, 8, .inl (fun _ => 0))), (q5, .inl (mcA X 0, 8, .inl (fun _ => 0)))] H := hP
  have hD : va_D (va_A (eW h0 0 fsX0) s.heap.size) [(h0, .inr (0, [.int 0, .int 0, .int 0, .int 0, .ref q1, .ref q2, .ref q3, .ref q4, .ref q5, .null, .null, .null, .null, .null, .null])), (q1, .inl (mcA X 0, 6, .inl (fun _ => 0))), (q2, .inl (mcA X 0, 8, .inl (fun _ => 0))), (q3, .inl (mcA X 0, 6, .inl (fun _ => 0))), (q4, .inl (mcA X 0, 8, .inl (fun _ => 0))), (q5, .inl (mcA X 0, 8, .inl (fun _ => 0)))] := hD
  refine lv_aload_n hC.1 hC.2.1 dX0_init_44 rfl (lv_at hl 0 rfl) ?_
  refine lv_bipush (v := nI 8) hC.1 hC.2.1 dX0_init_45 (by decide) ?_
  refine cs_arrI (n := 8) (k := 9) (idx := 27) (ws := [(q1, .inl (mcA X 0, 6, .inl (fun _ => 0))), (q2, .inl (mcA X 0, 8, .inl (fun _ => 0))), (q3, .inl (mcA X 0, 6, .inl (fun _ => 0))), (q4, .inl (mcA X 0, 8, .inl (fun _ => 0))), (q5, .inl (mcA X 0, 8, .inl (fun _ => 0)))]) hC hin hP hD hS hA ck_X0_9 (Nat.le_of_ble_eq_true rfl) (Nat.le_of_ble_eq_true rfl) (Nat.le_of_ble_eq_true rfl) (Nat.le_of_ble_eq_true rfl) dX0_init_47 dX0_init_49 (fun q6 H locs hP hD hS => ?_)
  have hP : va_P (mcD X) vwCl [(h0, .inr (0, [.int 0, .int 0, .int 0, .int 0, .ref q1, .ref q2, .ref q3, .ref q4, .ref q5, .ref q6, .null, .null, .null, .null, .null])), (q1, .inl (mcA X 0, 6, .inl (fun _ => 0))), (q2, .inl (mcA X 0, 8, .inl (fun _ => 0))), (q3, .inl (mcA X 0, 6, .inl (fun _ => 0))), (q4, .inl (mcA X 0, 8, .inl (fun _ => 0))), (q5, .inl (mcA X 0, 8, .inl (fun _ => 0))), (q6, .inl (mcA X 0, 8, .inl (fun _ => 0)))] H := hP
  have hD : va_D (va_A (eW h0 0 fsX0) s.heap.size) [(h0, .inr (0, [.int 0, .int 0, .int 0, .int 0, .ref q1, .ref q2, .ref q3, .ref q4, .ref q5, .ref q6, .null, .null, .null, .null, .null])), (q1, .inl (mcA X 0, 6, .inl (fun _ => 0))), (q2, .inl (mcA X 0, 8, .inl (fun _ => 0))), (q3, .inl (mcA X 0, 6, .inl (fun _ => 0))), (q4, .inl (mcA X 0, 8, .inl (fun _ => 0))), (q5, .inl (mcA X 0, 8, .inl (fun _ => 0))), (q6, .inl (mcA X 0, 8, .inl (fun _ => 0)))] := hD
  refine lv_aload_n hC.1 hC.2.1 dX0_init_52 rfl (lv_at hl 0 rfl) ?_
  refine lv_bipush (v := nI 48) hC.1 hC.2.1 dX0_init_53 (by decide) ?_
  refine cs_arrI (n := 48) (k := 10) (idx := 30) (ws := [(q1, .inl (mcA X 0, 6, .inl (fun _ => 0))), (q2, .inl (mcA X 0, 8, .inl (fun _ => 0))), (q3, .inl (mcA X 0, 6, .inl (fun _ => 0))), (q4, .inl (mcA X 0, 8, .inl (fun _ => 0))), (q5, .inl (mcA X 0, 8, .inl (fun _ => 0))), (q6, .inl (mcA X 0, 8, .inl (fun _ => 0)))]) hC hin hP hD hS hA ck_X0_10 (Nat.le_of_ble_eq_true rfl) (Nat.le_of_ble_eq_true rfl) (Nat.le_of_ble_eq_true rfl) (Nat.le_of_ble_eq_true rfl) dX0_init_55 dX0_init_57 (fun q7 H locs hP hD hS => ?_)
  have hP : va_P (mcD X) vwCl [(h0, .inr (0, [.int 0, .int 0, .int 0, .int 0, .ref q1, .ref q2, .ref q3, .ref q4, .ref q5, .ref q6, .ref q7, .null, .null, .null, .null])), (q1, .inl (mcA X 0, 6, .inl (fun _ => 0))), (q2, .inl (mcA X 0, 8, .inl (fun _ => 0))), (q3, .inl (mcA X 0, 6, .inl (fun _ => 0))), (q4, .inl (mcA X 0, 8, .inl (fun _ => 0))), (q5, .inl (mcA X 0, 8, .inl (fun _ => 0))), (q6, .inl (mcA X 0, 8, .inl (fun _ => 0))), (q7, .inl (mcA X 0, 48, .inl (fun _ => 0)))] H := hP
  have hD : va_D (va_A (eW h0 0 fsX0) s.heap.size) [(h0, .inr (0, [.int 0, .int 0, .int 0, .int 0, .ref q1, .ref q2, .ref q3, .ref q4, .ref q5, .ref q6, .ref q7, .null, .null, .null, .null])), (q1, .inl (mcA X 0, 6, .inl (fun _ => 0))), (q2, .inl (mcA X 0, 8, .inl (fun _ => 0))), (q3, .inl (mcA X 0, 6, .inl (fun _ => 0))), (q4, .inl (mcA X 0, 8, .inl (fun _ => 0))), (q5, .inl (mcA X 0, 8, .inl (fun _ => 0))), (q6, .inl (mcA X 0, 8, .inl (fun _ => 0))), (q7, .inl (mcA X 0, 48, .inl (fun _ => 0)))] := hD
  refine lv_aload_n hC.1 hC.2.1 dX0_init_60 rfl (lv_at hl 0 rfl) ?_
  refine lv_bipush (v := nI 48) hC.1 hC.2.1 dX0_init_61 (by decide) ?_
  refine cs_arrI (n := 48) (k := 11) (idx := 33) (ws := [(q1, .inl (mcA X 0, 6, .inl (fun _ => 0))), (q2, .inl (mcA X 0, 8, .inl (fun _ => 0))), (q3, .inl (mcA X 0, 6, .inl (fun _ => 0))), (q4, .inl (mcA X 0, 8, .inl (fun _ => 0))), (q5, .inl (mcA X 0, 8, .inl (fun _ => 0))), (q6, .inl (mcA X 0, 8, .inl (fun _ => 0))), (q7, .inl (mcA X 0, 48, .inl (fun _ => 0)))]) hC hin hP hD hS hA ck_X0_11 (Nat.le_of_ble_eq_true rfl) (Nat.le_of_ble_eq_true rfl) (Nat.le_of_ble_eq_true rfl) (Nat.le_of_ble_eq_true rfl) dX0_init_63 dX0_init_65 (fun q8 H locs hP hD hS => ?_)
  have hP : va_P (mcD X) vwCl [(h0, .inr (0, [.int 0, .int 0, .int 0, .int 0, .ref q1, .ref q2, .ref q3, .ref q4, .ref q5, .ref q6, .ref q7, .ref q8, .null, .null, .null])), (q1, .inl (mcA X 0, 6, .inl (fun _ => 0))), (q2, .inl (mcA X 0, 8, .inl (fun _ => 0))), (q3, .inl (mcA X 0, 6, .inl (fun _ => 0))), (q4, .inl (mcA X 0, 8, .inl (fun _ => 0))), (q5, .inl (mcA X 0, 8, .inl (fun _ => 0))), (q6, .inl (mcA X 0, 8, .inl (fun _ => 0))), (q7, .inl (mcA X 0, 48, .inl (fun _ => 0))), (q8, .inl (mcA X 0, 48, .inl (fun _ => 0)))] H := hP
  have hD : va_D (va_A (eW h0 0 fsX0) s.heap.size) [(h0, .inr (0, [.int 0, .int 0, .int 0, .int 0, .ref q1, .ref q2, .ref q3, .ref q4, .ref q5, .ref q6, .ref q7, .ref q8, .null, .null, .null])), (q1, .inl (mcA X 0, 6, .inl (fun _ => 0))), (q2, .inl (mcA X 0, 8, .inl (fun _ => 0))), (q3, .inl (mcA X 0, 6, .inl (fun _ => 0))), (q4, .inl (mcA X 0, 8, .inl (fun _ => 0))), (q5, .inl (mcA X 0, 8, .inl (fun _ => 0))), (q6, .inl (mcA X 0, 8, .inl (fun _ => 0))), (q7, .inl (mcA X 0, 48, .inl (fun _ => 0))), (q8, .inl (mcA X 0, 48, .inl (fun _ => 0)))] := hD
  refine lv_aload_n hC.1 hC.2.1 dX0_init_68 rfl (lv_at hl 0 rfl) ?_
  refine lv_bipush (v := nI 48) hC.1 hC.2.1 dX0_init_69 (by decide) ?_
  refine cs_arrI (n := 48) (k := 12) (idx := 36) (ws := [(q1, .inl (mcA X 0, 6, .inl (fun _ => 0))), (q2, .inl (mcA X 0, 8, .inl (fun _ => 0))), (q3, .inl (mcA X 0, 6, .inl (fun _ => 0))), (q4, .inl (mcA X 0, 8, .inl (fun _ => 0))), (q5, .inl (mcA X 0, 8, .inl (fun _ => 0))), (q6, .inl (mcA X 0, 8, .inl (fun _ => 0))), (q7, .inl (mcA X 0, 48, .inl (fun _ => 0))), (q8, .inl (mcA X 0, 48, .inl (fun _ => 0)))]) hC hin hP hD hS hA ck_X0_12 (Nat.le_of_ble_eq_true rfl) (Nat.le_of_ble_eq_true rfl) (Nat.le_of_ble_eq_true rfl) (Nat.le_of_ble_eq_true rfl) dX0_init_71 dX0_init_73 (fun q9 H locs hP hD hS => ?_)
  have hP : va_P (mcD X) vwCl [(h0, .inr (0, [.int 0, .int 0, .int 0, .int 0, .ref q1, .ref q2, .ref q3, .ref q4, .ref q5, .ref q6, .ref q7, .ref q8, .ref q9, .null, .null])), (q1, .inl (mcA X 0, 6, .inl (fun _ => 0))), (q2, .inl (mcA X 0, 8, .inl (fun _ => 0))), (q3, .inl (mcA X 0, 6, .inl (fun _ => 0))), (q4, .inl (mcA X 0, 8, .inl (fun _ => 0))), (q5, .inl (mcA X 0, 8, .inl (fun _ => 0))), (q6, .inl (mcA X 0, 8, .inl (fun _ => 0))), (q7, .inl (mcA X 0, 48, .inl (fun _ => 0))), (q8, .inl (mcA X 0, 48, .inl (fun _ => 0))), (q9, .inl (mcA X 0, 48, .inl (fun _ => 0)))] H := hP
  have hD : va_D (va_A (eW h0 0 fsX0) s.heap.size) [(h0, .inr (0, [.int 0, .int 0, .int 0, .int 0, .ref q1, .ref q2, .ref q3, .ref q4, .ref q5, .ref q6, .ref q7, .ref q8, .ref q9, .null, .null])), (q1, .inl (mcA X 0, 6, .inl (fun _ => 0))), (q2, .inl (mcA X 0, 8, .inl (fun _ => 0))), (q3, .inl (mcA X 0, 6, .inl (fun _ => 0))), (q4, .inl (mcA X 0, 8, .inl (fun _ => 0))), (q5, .inl (mcA X 0, 8, .inl (fun _ => 0))), (q6, .inl (mcA X 0, 8, .inl (fun _ => 0))), (q7, .inl (mcA X 0, 48, .inl (fun _ => 0))), (q8, .inl (mcA X 0, 48, .inl (fun _ => 0))), (q9, .inl (mcA X 0, 48, .inl (fun _ => 0)))] := hD
  refine lv_aload_n hC.1 hC.2.1 dX0_init_76 rfl (lv_at hl 0 rfl) ?_
  refine lv_bipush (v := nI 48) hC.1 hC.2.1 dX0_init_77 (by decide) ?_
  refine cs_arrI (n := 48) (k := 13) (idx := 39) (ws := [(q1, .inl (mcA X 0, 6, .inl (fun _ => 0))), (q2, .inl (mcA X 0, 8, .inl (fun _ => 0))), (q3, .inl (mcA X 0, 6, .inl (fun _ => 0))), (q4, .inl (mcA X 0, 8, .inl (fun _ => 0))), (q5, .inl (mcA X 0, 8, .inl (fun _ => 0))), (q6, .inl (mcA X 0, 8, .inl (fun _ => 0))), (q7, .inl (mcA X 0, 48, .inl (fun _ => 0))), (q8, .inl (mcA X 0, 48, .inl (fun _ => 0))), (q9, .inl (mcA X 0, 48, .inl (fun _ => 0)))]) hC hin hP hD hS hA ck_X0_13 (Nat.le_of_ble_eq_true rfl) (Nat.le_of_ble_eq_true rfl) (Nat.le_of_ble_eq_true rfl) (Nat.le_of_ble_eq_true rfl) dX0_init_79 dX0_init_81 (fun q10 H locs hP hD hS => ?_)
  have hP : va_P (mcD X) vwCl [(h0, .inr (0, [.int 0, .int 0, .int 0, .int 0, .ref q1, .ref q2, .ref q3, .ref q4, .ref q5, .ref q6, .ref q7, .ref q8, .ref q9, .ref q10, .null])), (q1, .inl (mcA X 0, 6, .inl (fun _ => 0))), (q2, .inl (mcA X 0, 8, .inl (fun _ => 0))), (q3, .inl (mcA X 0, 6, .inl (fun _ => 0))), (q4, .inl (mcA X 0, 8, .inl (fun _ => 0))), (q5, .inl (mcA X 0, 8, .inl (fun _ => 0))), (q6, .inl (mcA X 0, 8, .inl (fun _ => 0))), (q7, .inl (mcA X 0, 48, .inl (fun _ => 0))), (q8, .inl (mcA X 0, 48, .inl (fun _ => 0))), (q9, .inl (mcA X 0, 48, .inl (fun _ => 0))), (q10, .inl (mcA X 0, 48, .inl (fun _ => 0)))] H := hP
  have hD : va_D (va_A (eW h0 0 fsX0) s.heap.size) [(h0, .inr (0, [.int 0, .int 0, .int 0, .int 0, .ref q1, .ref q2, .ref q3, .ref q4, .ref q5, .ref q6, .ref q7, .ref q8, .ref q9, .ref q10, .null])), (q1, .inl (mcA X 0, 6, .inl (fun _ => 0))), (q2, .inl (mcA X 0, 8, .inl (fun _ => 0))), (q3, .inl (mcA X 0, 6, .inl (fun _ => 0))), (q4, .inl (mcA X 0, 8, .inl (fun _ => 0))), (q5, .inl (mcA X 0, 8, .inl (fun _ => 0))), (q6, .inl (mcA X 0, 8, .inl (fun _ => 0))), (q7, .inl (mcA X 0, 48, .inl (fun _ => 0))), (q8, .inl (mcA X 0, 48, .inl (fun _ => 0))), (q9, .inl (mcA X 0, 48, .inl (fun _ => 0))), (q10, .inl (mcA X 0, 48, .inl (fun _ => 0)))] := hD
  refine lv_aload_n hC.1 hC.2.1 dX0_init_84 rfl (lv_at hl 0 rfl) ?_
  refine lv_bipush (v := nI 48) hC.1 hC.2.1 dX0_init_85 (by decide) ?_
  refine cs_arrI (n := 48) (k := 14) (idx := 42) (ws := [(q1, .inl (mcA X 0, 6, .inl (fun _ => 0))), (q2, .inl (mcA X 0, 8, .inl (fun _ => 0))), (q3, .inl (mcA X 0, 6, .inl (fun _ => 0))), (q4, .inl (mcA X 0, 8, .inl (fun _ => 0))), (q5, .inl (mcA X 0, 8, .inl (fun _ => 0))), (q6, .inl (mcA X 0, 8, .inl (fun _ => 0))), (q7, .inl (mcA X 0, 48, .inl (fun _ => 0))), (q8, .inl (mcA X 0, 48, .inl (fun _ => 0))), (q9, .inl (mcA X 0, 48, .inl (fun _ => 0))), (q10, .inl (mcA X 0, 48, .inl (fun _ => 0)))]) hC hin hP hD hS hA ck_X0_14 (Nat.le_of_ble_eq_true rfl) (Nat.le_of_ble_eq_true rfl) (Nat.le_of_ble_eq_true rfl) (Nat.le_of_ble_eq_true rfl) dX0_init_87 dX0_init_89 (fun q11 H locs hP hD hS => ?_)
  have hP : va_P (mcD X) vwCl [(h0, .inr (0, [.int 0, .int 0, .int 0, .int 0, .ref q1, .ref q2, .ref q3, .ref q4, .ref q5, .ref q6, .ref q7, .ref q8, .ref q9, .ref q10, .ref q11])), (q1, .inl (mcA X 0, 6, .inl (fun _ => 0))), (q2, .inl (mcA X 0, 8, .inl (fun _ => 0))), (q3, .inl (mcA X 0, 6, .inl (fun _ => 0))), (q4, .inl (mcA X 0, 8, .inl (fun _ => 0))), (q5, .inl (mcA X 0, 8, .inl (fun _ => 0))), (q6, .inl (mcA X 0, 8, .inl (fun _ => 0))), (q7, .inl (mcA X 0, 48, .inl (fun _ => 0))), (q8, .inl (mcA X 0, 48, .inl (fun _ => 0))), (q9, .inl (mcA X 0, 48, .inl (fun _ => 0))), (q10, .inl (mcA X 0, 48, .inl (fun _ => 0))), (q11, .inl (mcA X 0, 48, .inl (fun _ => 0)))] H := hP
  have hD : va_D (va_A (eW h0 0 fsX0) s.heap.size) [(h0, .inr (0, [.int 0, .int 0, .int 0, .int 0, .ref q1, .ref q2, .ref q3, .ref q4, .ref q5, .ref q6, .ref q7, .ref q8, .ref q9, .ref q10, .ref q11])), (q1, .inl (mcA X 0, 6, .inl (fun _ => 0))), (q2, .inl (mcA X 0, 8, .inl (fun _ => 0))), (q3, .inl (mcA X 0, 6, .inl (fun _ => 0))), (q4, .inl (mcA X 0, 8, .inl (fun _ => 0))), (q5, .inl (mcA X 0, 8, .inl (fun _ => 0))), (q6, .inl (mcA X 0, 8, .inl (fun _ => 0))), (q7, .inl (mcA X 0, 48, .inl (fun _ => 0))), (q8, .inl (mcA X 0, 48, .inl (fun _ => 0))), (q9, .inl (mcA X 0, 48, .inl (fun _ => 0))), (q10, .inl (mcA X 0, 48, .inl (fun _ => 0))), (q11, .inl (mcA X 0, 48, .inl (fun _ => 0)))] := hD
  exact ct_end (F := fun a => wG (mcA X) a vZ uZ 0 shX0) (a := fun i => ([h0, q1, q2, q3, q4, q5, q6, q7, q8, q9, q10, q11] : List Nat).getD i 0) hC hr hlocks (Nat.le_of_ble_eq_true rfl) (Nat.le_of_ble_eq_true rfl) rfl hP hD hS dX0_init_92
theorem dX3_init_0 : decode cX3_init 0 = .ok (.aload_n 0, 1) := by decide +kernel
theorem dX3_init_1 : decode cX3_init 1 = .ok (.invokespecial 3, 3) := by decide +kernel
theorem dX3_init_4 : decode cX3_init 4 = .ok (.aload_n 0, 1) := by decide +kernel
theorem dX3_init_5 : decode cX3_init 5 = .ok (.bipush 20, 2) := by decide +kernel
theorem dX3_init_7 : decode cX3_init 7 = .ok (.newarray .int, 2) := by decide +kernel
theorem dX3_init_9 : decode cX3_init 9 = .ok (.putfield 11, 3) := by decide +kernel
theorem dX3_init_12 : decode cX3_init 12 = .ok (.aload_n 0, 1) := by decide +kernel
theorem dX3_init_13 : decode cX3_init 13 = .ok (.bipush 20, 2) := by decide +kernel
theorem dX3_init_15 : decode cX3_init 15 = .ok (.newarray .int, 2) := by decide +kernel
theorem dX3_init_17 : decode cX3_init 17 = .ok (.putfield 15, 3) := by decide +kernel
theorem dX3_init_20 : decode cX3_init 20 = .ok (.aload_n 0, 1) := by decide +kernel
theorem dX3_init_21 : decode cX3_init 21 = .ok (.bipush 20, 2) := by decide +kernel
theorem dX3_init_23 : decode cX3_init 23 = .ok (.newarray .int, 2) := by decide +kernel
theorem dX3_init_25 : decode cX3_init 25 = .ok (.putfield 18, 3) := by decide +kernel
theorem dX3_init_28 : decode cX3_init 28 = .ok (.aload_n 0, 1) := by decide +kernel
theorem dX3_init_29 : decode cX3_init 29 = .ok (.bipush 20, 2) := by decide +kernel
theorem dX3_init_31 : decode cX3_init 31 = .ok (.newarray .int, 2) := by decide +kernel
theorem dX3_init_33 : decode cX3_init 33 = .ok (.putfield 21, 3) := by decide +kernel
theorem dX3_init_36 : decode cX3_init 36 = .ok (.aload_n 0, 1) := by decide +kernel
theorem dX3_init_37 : decode cX3_init 37 = .ok (.bipush 20, 2) := by decide +kernel
theorem dX3_init_39 : decode cX3_init 39 = .ok (.newarray .int, 2) := by decide +kernel
theorem dX3_init_41 : decode cX3_init 41 = .ok (.putfield 24, 3) := by decide +kernel
theorem dX3_init_44 : decode cX3_init 44 = .ok (.aload_n 0, 1) := by decide +kernel
theorem dX3_init_45 : decode cX3_init 45 = .ok (.bipush 20, 2) := by decide +kernel
theorem dX3_init_47 : decode cX3_init 47 = .ok (.newarray .int, 2) := by decide +kernel
theorem dX3_init_49 : decode cX3_init 49 = .ok (.putfield 27, 3) := by decide +kernel
theorem dX3_init_52 : decode cX3_init 52 = .ok (.return_, 1) := by decide +kernel
abbrev fsX3 : List Value := [.int 0, .null, .null, .null, .null, .null, .null]
abbrev shX3 : List (Nat × Nat) := [(2, 0), (16, 20), (16, 20), (16, 20), (16, 20), (16, 20), (16, 20)]
theorem lk_X3_super : Cond.methodLink RX3 3 Lib.objectInit ∈ mTb := by decide +kernel
theorem ck_X3_1 : ckF RX3 2 1 11 (.array .int) true = true := by decide +kernel
theorem ck_X3_2 : ckF RX3 2 2 15 (.array .int) true = true := by decide +kernel
theorem ck_X3_3 : ckF RX3 2 3 18 (.array .int) true = true := by decide +kernel
theorem ck_X3_4 : ckF RX3 2 4 21 (.array .int) true = true := by decide +kernel
theorem ck_X3_5 : ckF RX3 2 5 24 (.array .int) true = true := by decide +kernel
theorem ck_X3_6 : ckF RX3 2 6 27 (.array .int) true = true := by decide +kernel
theorem ds_X3 : ∀ j, j < 7 → defaultValue (tyX3 j) = vp_V fsX3 j := by decide +kernel
set_option maxHeartbeats 4000000 in
set_option maxRecDepth 20000 in
theorem ct_X3 {X : mC} : CT X EX0 yX3_init cX3_init 1 2 fsX3 2 6 120 (fun a => wG (mcA X) a vZ uZ 0 shX3) := by
  refine ct_start (by decide) rfl (by decide) ?_
  intro p e s m below meth c h0 ls hC hr hin hlocks hE hP hl
  have hD : va_D (va_A (eW h0 2 fsX3) s.heap.size) (eW h0 2 fsX3) := eW_D
  have hA : ∀ q, s.heap.size ≤ q → va_A (eW h0 2 fsX3) s.heap.size q := fun q h => Or.inr h
  have hS : va_S (va_A (eW h0 2 fsX3) s.heap.size) s.heap s.heap [] := va_S.rf
  refine cs_super hC lk_X3_super ⟨(Nat.le_of_ble_eq_true rfl), (Nat.le_of_ble_eq_true rfl)⟩ hl dX3_init_0 dX3_init_1 ?_
  refine lv_aload_n hC.1 hC.2.1 dX3_init_4 rfl (lv_at hl 0 rfl) ?_
  refine lv_bipush (v := nI 20) hC.1 hC.2.1 dX3_init_5 (by decide) ?_
  refine cs_arrI (n := 20) (k := 1) (idx := 11) (ws := []) hC hin hP hD hS hA ck_X3_1 (Nat.le_of_ble_eq_true rfl) (Nat.le_of_ble_eq_true rfl) (Nat.le_of_ble_eq_true rfl) (Nat.le_of_ble_eq_true rfl) dX3_init_7 dX3_init_9 (fun q1 H locs hP hD hS => ?_)
  have hP : va_P (mcD X) vwCl [(h0, .inr (2, [.int 0, .ref q1, .null, .null, .null, .null, .null])), (q1, .inl (mcA X 0, 20, .inl (fun _ => 0)))] H := hP
  have hD : va_D (va_A (eW h0 2 fsX3) s.heap.size) [(h0, .inr (2, [.int 0, .ref q1, .null, .null, .null, .null, .null])), (q1, .inl (mcA X 0, 20, .inl (fun _ => 0)))] := hD
  refine lv_aload_n hC.1 hC.2.1 dX3_init_12 rfl (lv_at hl 0 rfl) ?_
  refine lv_bipush (v := nI 20) hC.1 hC.2.1 dX3_init_13 (by decide) ?_
  refine cs_arrI (n := 20) (k := 2) (idx := 15) (ws := [(q1, .inl (mcA X 0, 20, .inl (fun _ => 0)))]) hC hin hP hD hS hA ck_X3_2 (Nat.le_of_ble_eq_true rfl) (Nat.le_of_ble_eq_true rfl) (Nat.le_of_ble_eq_true rfl) (Nat.le_of_ble_eq_true rfl) dX3_init_15 dX3_init_17 (fun q2 H locs hP hD hS => ?_)
  have hP : va_P (mcD X) vwCl [(h0, .inr (2, [.int 0, .ref q1, .ref q2, .null, .null, .null, .null])), (q1, .inl (mcA X 0, 20, .inl (fun _ => 0))), (q2, .inl (mcA X 0, 20, .inl (fun _ => 0)))] H := hP
  have hD : va_D (va_A (eW h0 2 fsX3) s.heap.size) [(h0, .inr (2, [.int 0, .ref q1, .ref q2, .null, .null, .null, .null])), (q1, .inl (mcA X 0, 20, .inl (fun _ => 0))), (q2, .inl (mcA X 0, 20, .inl (fun _ => 0)))] := hD
  refine lv_aload_n hC.1 hC.2.1 dX3_init_20 rfl (lv_at hl 0 rfl) ?_
  refine lv_bipush (v := nI 20) hC.1 hC.2.1 dX3_init_21 (by decide) ?_
  refine cs_arrI (n := 20) (k := 3) (idx := 18) (ws := [(q1, .inl (mcA X 0, 20, .inl (fun _ => 0))), (q2, .inl (mcA X 0, 20, .inl (fun _ => 0)))]) hC hin hP hD hS hA ck_X3_3 (Nat.le_of_ble_eq_true rfl) (Nat.le_of_ble_eq_true rfl) (Nat.le_of_ble_eq_true rfl) (Nat.le_of_ble_eq_true rfl) dX3_init_23 dX3_init_25 (fun q3 H locs hP hD hS => ?_)
  have hP : va_P (mcD X) vwCl [(h0, .inr (2, [.int 0, .ref q1, .ref q2, .ref q3, .null, .null, .null])), (q1, .inl (mcA X 0, 20, .inl (fun _ => 0))), (q2, .inl (mcA X 0, 20, .inl (fun _ => 0))), (q3, .inl (mcA X 0, 20, .inl (fun _ => 0)))] H := hP
  have hD : va_D (va_A (eW h0 2 fsX3) s.heap.size) [(h0, .inr (2, [.int 0, .ref q1, .ref q2, .ref q3, .null, .null, .null])), (q1, .inl (mcA X 0, 20, .inl (fun _ => 0))), (q2, .inl (mcA X 0, 20, .inl (fun _ => 0))), (q3, .inl (mcA X 0, 20, .inl (fun _ => 0)))] := hD
  refine lv_aload_n hC.1 hC.2.1 dX3_init_28 rfl (lv_at hl 0 rfl) ?_
  refine lv_bipush (v := nI 20) hC.1 hC.2.1 dX3_init_29 (by decide) ?_
  refine cs_arrI (n := 20) (k := 4) (idx := 21) (ws := [(q1, .inl (mcA X 0, 20, .inl (fun _ => 0))), (q2, .inl (mcA X 0, 20, .inl (fun _ => 0))), (q3, .inl (mcA X 0, 20, .inl (fun _ => 0)))]) hC hin hP hD hS hA ck_X3_4 (Nat.le_of_ble_eq_true rfl) (Nat.le_of_ble_eq_true rfl) (Nat.le_of_ble_eq_true rfl) (Nat.le_of_ble_eq_true rfl) dX3_init_31 dX3_init_33 (fun q4 H locs hP hD hS => ?_)
  have hP : va_P (mcD X) vwCl [(h0, .inr (2, [.int 0, .ref q1, .ref q2, .ref q3, .ref q4, .null, .null])), (q1, .inl (mcA X 0, 20, .inl (fun _ => 0))), (q2, .inl (mcA X 0, 20, .inl (fun _ => 0))), (q3, .inl (mcA X 0, 20, .inl (fun _ => 0))), (q4, .inl (mcA X 0, 20, .inl (fun _ => 0)))] H := hP
  have hD : va_D (va_A (eW h0 2 fsX3) s.heap.size) [(h0, .inr (2, [.int 0, .ref q1, .ref q2, .ref q3, .ref q4, .null, .null])), (q1, .inl (mcA X 0, 20, .inl (fun _ => 0))), (q2, .inl (mcA X 0, 20, .inl (fun _ => 0))), (q3, .inl (mcA X 0, 20, .inl (fun _ => 0))), (q4, .inl (mcA X 0, 20, .inl (fun _ => 0)))] := hD
  refine lv_aload_n hC.1 hC.2.1 dX3_init_36 rfl (lv_at hl 0 rfl) ?_
  refine lv_bipush (v := nI 20) hC.1 hC.2.1 dX3_init_37 (by decide) ?_
  refine cs_arrI (n := 20) (k := 5) (idx := 24) (ws := [(q1, .inl (mcA X 0, 20, .inl (fun _ => 0))), (q2, .inl (mcA X 0, 20, .inl (fun _ => 0))), (q3, .inl (mcA X 0, 20, .inl (fun _ => 0))), (q4, .inl (mcA X 0, 20, .inl (fun _ => 0)))]) hC hin hP hD hS hA ck_X3_5 (Nat.le_of_ble_eq_true rfl) (Nat.le_of_ble_eq_true rfl) (Nat.le_of_ble_eq_true rfl) (Nat.le_of_ble_eq_true rfl) dX3_init_39 dX3_init_41 (fun q5 H locs hP hD hS => ?_)
  have hP : va_P (mcD X) vwCl [(h0, .inr (2, [.int 0, .ref q1, .ref q2, .ref q3, .ref q4, .ref q5, .null])), (q1, .inl (mcA X 0, 20, .inl (fun _ => 0))), (q2, .inl (mcA X 0, 20, .inl (fun _ => 0))), (q3, .inl (mcA X 0, 20, .inl (fun _ => 0))), (q4, .inl (mcA X 0, 20, .inl (fun _ => 0))), (q5, .inl (mcA X 0, 20, .inl (fun _ => 0)))] H := hP
  have hD : va_D (va_A (eW h0 2 fsX3) s.heap.size) [(h0, .inr (2, [.int 0, .ref q1, .ref q2, .ref q3, .ref q4, .ref q5, .null])), (q1, .inl (mcA X 0, 20, .inl (fun _ => 0))), (q2, .inl (mcA X 0, 20, .inl (fun _ => 0))), (q3, .inl (mcA X 0, 20, .inl (fun _ => 0))), (q4, .inl (mcA X 0, 20, .inl (fun _ => 0))), (q5, .inl (mcA X 0, 20, .inl (fun _ => 0)))] := hD
  refine lv_aload_n hC.1 hC.2.1 dX3_init_44 rfl (lv_at hl 0 rfl) ?_
  refine lv_bipush (v := nI 20) hC.1 hC.2.1 dX3_init_45 (by decide) ?_
  refine cs_arrI (n := 20) (k := 6) (idx := 27) (ws := [(q1, .inl (mcA X 0, 20, .inl (fun _ => 0))), (q2, .inl (mcA X 0, 20, .inl (fun _ => 0))), (q3, .inl (mcA X 0, 20, .inl (fun _ => 0))), (q4, .inl (mcA X 0, 20, .inl (fun _ => 0))), (q5, .inl (mcA X 0, 20, .inl (fun _ => 0)))]) hC hin hP hD hS hA ck_X3_6 (Nat.le_of_ble_eq_true rfl) (Nat.le_of_ble_eq_true rfl) (Nat.le_of_ble_eq_true rfl) (Nat.le_of_ble_eq_true rfl) dX3_init_47 dX3_init_49 (fun q6 H locs hP hD hS => ?_)
  have hP : va_P (mcD X) vwCl [(h0, .inr (2, [.int 0, .ref q1, .ref q2, .ref q3, .ref q4, .ref q5, .ref q6])), (q1, .inl (mcA X 0, 20, .inl (fun _ => 0))), (q2, .inl (mcA X 0, 20, .inl (fun _ => 0))), (q3, .inl (mcA X 0, 20, .inl (fun _ => 0))), (q4, .inl (mcA X 0, 20, .inl (fun _ => 0))), (q5, .inl (mcA X 0, 20, .inl (fun _ => 0))), (q6, .inl (mcA X 0, 20, .inl (fun _ => 0)))] H := hP
  have hD : va_D (va_A (eW h0 2 fsX3) s.heap.size) [(h0, .inr (2, [.int 0, .ref q1, .ref q2, .ref q3, .ref q4, .ref q5, .ref q6])), (q1, .inl (mcA X 0, 20, .inl (fun _ => 0))), (q2, .inl (mcA X 0, 20, .inl (fun _ => 0))), (q3, .inl (mcA X 0, 20, .inl (fun _ => 0))), (q4, .inl (mcA X 0, 20, .inl (fun _ => 0))), (q5, .inl (mcA X 0, 20, .inl (fun _ => 0))), (q6, .inl (mcA X 0, 20, .inl (fun _ => 0)))] := hD
  exact ct_end (F := fun a => wG (mcA X) a vZ uZ 0 shX3) (a := fun i => ([h0, q1, q2, q3, q4, q5, q6] : List Nat).getD i 0) hC hr hlocks (Nat.le_of_ble_eq_true rfl) (Nat.le_of_ble_eq_true rfl) rfl hP hD hS dX3_init_52
theorem dX4_init_0 : decode cX4_init 0 = .ok (.aload_n 0, 1) := by decide +kernel
theorem dX4_init_1 : decode cX4_init 1 = .ok (.invokespecial 3, 3) := by decide +kernel
theorem dX4_init_4 : decode cX4_init 4 = .ok (.aload_n 0, 1) := by decide +kernel
theorem dX4_init_5 : decode cX4_init 5 = .ok (.iconst (-1), 1) := by decide +kernel
theorem dX4_init_6 : decode cX4_init 6 = .ok (.putfield 9, 3) := by decide +kernel
theorem dX4_init_9 : decode cX4_init 9 = .ok (.aload_n 0, 1) := by decide +kernel
theorem dX4_init_10 : decode cX4_init 10 = .ok (.bipush 48, 2) := by decide +kernel
theorem dX4_init_12 : decode cX4_init 12 = .ok (.newarray .int, 2) := by decide +kernel
theorem dX4_init_14 : decode cX4_init 14 = .ok (.putfield 15, 3) := by decide +kernel
theorem dX4_init_17 : decode cX4_init 17 = .ok (.aload_n 0, 1) := by decide +kernel
theorem dX4_init_18 : decode cX4_init 18 = .ok (.bipush 48, 2) := by decide +kernel
theorem dX4_init_20 : decode cX4_init 20 = .ok (.newarray .int, 2) := by decide +kernel
theorem dX4_init_22 : decode cX4_init 22 = .ok (.putfield 19, 3) := by decide +kernel
theorem dX4_init_25 : decode cX4_init 25 = .ok (.aload_n 0, 1) := by decide +kernel
theorem dX4_init_26 : decode cX4_init 26 = .ok (.bipush 48, 2) := by decide +kernel
theorem dX4_init_28 : decode cX4_init 28 = .ok (.newarray .int, 2) := by decide +kernel
theorem dX4_init_30 : decode cX4_init 30 = .ok (.putfield 22, 3) := by decide +kernel
theorem dX4_init_33 : decode cX4_init 33 = .ok (.aload_n 0, 1) := by decide +kernel
theorem dX4_init_34 : decode cX4_init 34 = .ok (.bipush 48, 2) := by decide +kernel
theorem dX4_init_36 : decode cX4_init 36 = .ok (.newarray .int, 2) := by decide +kernel
theorem dX4_init_38 : decode cX4_init 38 = .ok (.putfield 25, 3) := by decide +kernel
theorem dX4_init_41 : decode cX4_init 41 = .ok (.aload_n 0, 1) := by decide +kernel
theorem dX4_init_42 : decode cX4_init 42 = .ok (.bipush 6, 2) := by decide +kernel
theorem dX4_init_44 : decode cX4_init 44 = .ok (.newarray .int, 2) := by decide +kernel
theorem dX4_init_46 : decode cX4_init 46 = .ok (.putfield 28, 3) := by decide +kernel
theorem dX4_init_49 : decode cX4_init 49 = .ok (.aload_n 0, 1) := by decide +kernel
theorem dX4_init_50 : decode cX4_init 50 = .ok (.bipush 6, 2) := by decide +kernel
theorem dX4_init_52 : decode cX4_init 52 = .ok (.newarray .int, 2) := by decide +kernel
theorem dX4_init_54 : decode cX4_init 54 = .ok (.putfield 31, 3) := by decide +kernel
theorem dX4_init_57 : decode cX4_init 57 = .ok (.aload_n 0, 1) := by decide +kernel
theorem dX4_init_58 : decode cX4_init 58 = .ok (.bipush 6, 2) := by decide +kernel
theorem dX4_init_60 : decode cX4_init 60 = .ok (.newarray .int, 2) := by decide +kernel
theorem dX4_init_62 : decode cX4_init 62 = .ok (.putfield 34, 3) := by decide +kernel
theorem dX4_init_65 : decode cX4_init 65 = .ok (.aload_n 0, 1) := by decide +kernel
theorem dX4_init_66 : decode cX4_init 66 = .ok (.bipush 8, 2) := by decide +kernel
theorem dX4_init_68 : decode cX4_init 68 = .ok (.newarray .int, 2) := by decide +kernel
theorem dX4_init_70 : decode cX4_init 70 = .ok (.putfield 37, 3) := by decide +kernel
theorem dX4_init_73 : decode cX4_init 73 = .ok (.aload_n 0, 1) := by decide +kernel
theorem dX4_init_74 : decode cX4_init 74 = .ok (.bipush 8, 2) := by decide +kernel
theorem dX4_init_76 : decode cX4_init 76 = .ok (.newarray .int, 2) := by decide +kernel
theorem dX4_init_78 : decode cX4_init 78 = .ok (.putfield 40, 3) := by decide +kernel
theorem dX4_init_81 : decode cX4_init 81 = .ok (.aload_n 0, 1) := by decide +kernel
theorem dX4_init_82 : decode cX4_init 82 = .ok (.bipush 8, 2) := by decide +kernel
theorem dX4_init_84 : decode cX4_init 84 = .ok (.newarray .int, 2) := by decide +kernel
theorem dX4_init_86 : decode cX4_init 86 = .ok (.putfield 43, 3) := by decide +kernel
theorem dX4_init_89 : decode cX4_init 89 = .ok (.aload_n 0, 1) := by decide +kernel
theorem dX4_init_90 : decode cX4_init 90 = .ok (.bipush 36, 2) := by decide +kernel
theorem dX4_init_92 : decode cX4_init 92 = .ok (.newarray .int, 2) := by decide +kernel
theorem dX4_init_94 : decode cX4_init 94 = .ok (.putfield 46, 3) := by decide +kernel
theorem dX4_init_97 : decode cX4_init 97 = .ok (.return_, 1) := by decide +kernel
abbrev fsX4 : List Value := [.int 0, .null, .null, .null, .null, .null, .null, .null, .null, .null, .null, .null]
abbrev shX4 : List (Nat × Nat) := [(3, 0), (16, 48), (16, 48), (16, 48), (16, 48), (16, 6), (16, 6), (16, 6), (16, 8), (16, 8), (16, 8), (16, 36)]
theorem lk_X4_super : Cond.methodLink RX4 3 Lib.objectInit ∈ mTb := by decide +kernel
theorem ck_X4_0 : ckF RX4 3 0 9 .int false = true := by decide +kernel
theorem ck_X4_1 : ckF RX4 3 1 15 (.array .int) true = true := by decide +kernel
theorem ck_X4_2 : ckF RX4 3 2 19 (.array .int) true = true := by decide +kernel
theorem ck_X4_3 : ckF RX4 3 3 22 (.array .int) true = true := by decide +kernel
theorem ck_X4_4 : ckF RX4 3 4 25 (.array .int) true = true := by decide +kernel
theorem ck_X4_5 : ckF RX4 3 5 28 (.array .int) true = true := by decide +kernel
theorem ck_X4_6 : ckF RX4 3 6 31 (.array .int) true = true := by decide +kernel
theorem ck_X4_7 : ckF RX4 3 7 34 (.array .int) true = true := by decide +kernel
theorem ck_X4_8 : ckF RX4 3 8 37 (.array .int) true = true := by decide +kernel
theorem ck_X4_9 : ckF RX4 3 9 40 (.array .int) true = true := by decide +kernel
theorem ck_X4_10 : ckF RX4 3 10 43 (.array .int) true = true := by decide +kernel
theorem ck_X4_11 : ckF RX4 3 11 46 (.array .int) true = true := by decide +kernel
theorem ds_X4 : ∀ j, j < 12 → defaultValue (tyX4 j) = vp_V fsX4 j := by decide +kernel
set_option maxHeartbeats 4000000 in
set_option maxRecDepth 20000 in
theorem ct_X4 {X : mC} : CT X EX0 yX4_init cX4_init 1 3 fsX4 2 11 270 (fun a => wG (mcA X) a vR uZ 0 shX4) := by
  refine ct_start (by decide) rfl (by decide) ?_
  intro p e s m below meth c h0 ls hC hr hin hlocks hE hP hl
  have hD : va_D (va_A (eW h0 3 fsX4) s.heap.size) (eW h0 3 fsX4) := eW_D
  have hA : ∀ q, s.heap.size ≤ q → va_A (eW h0 3 fsX4) s.heap.size q := fun q h => Or.inr h
  have hS : va_S (va_A (eW h0 3 fsX4) s.heap.size) s.heap s.heap [] := va_S.rf
  refine cs_super hC lk_X4_super ⟨(Nat.le_of_ble_eq_true rfl), (Nat.le_of_ble_eq_true rfl)⟩ hl dX4_init_0 dX4_init_1 ?_
  refine lv_aload_n hC.1 hC.2.1 dX4_init_4 rfl (lv_at hl 0 rfl) ?_
  refine lv_iconst (v := (-1)) hC.1 hC.2.1 dX4_init_5 (by decide) ?_
  refine cs_puti (k := 0) (idx := 9) (ws := []) hC hP hD hS ck_X4_0 (Nat.le_of_ble_eq_true rfl) dX4_init_6 (fun H locs hP hD hS => ?_)
  have hP : va_P (mcD X) vwCl [(h0, .inr (3, [.int (-1), .null, .null, .null, .null, .null, .null, .null, .null, .null, .null, .null]))] H := hP
  have hD : va_D (va_A (eW h0 3 fsX4) s.heap.size) [(h0, .inr (3, [.int (-1), .null, .null, .null, .null, .null, .null, .null, .null, .null, .null, .null]))] := hD
  refine lv_aload_n hC.1 hC.2.1 dX4_init_9 rfl (lv_at hl 0 rfl) ?_
  refine lv_bipush (v := nI 48) hC.1 hC.2.1 dX4_init_10 (by decide) ?_
  refine cs_arrI (n := 48) (k := 1) (idx := 15) (ws := []) hC hin hP hD hS hA ck_X4_1 (Nat.le_of_ble_eq_true rfl) (Nat.le_of_ble_eq_true rfl) (Nat.le_of_ble_eq_true rfl) (Nat.le_of_ble_eq_true rfl) dX4_init_12 dX4_init_14 (fun q1 H locs hP hD hS => ?_)
  have hP : va_P (mcD X) vwCl [(h0, .inr (3, [.int (-1), .ref q1, .null, .null, .null, .null, .null, .null, .null, .null, .null, .null])), (q1, .inl (mcA X 0, 48, .inl (fun _ => 0)))] H := hP
  have hD : va_D (va_A (eW h0 3 fsX4) s.heap.size) [(h0, .inr (3, [.int (-1), .ref q1, .null, .null, .null, .null, .null, .null, .null, .null, .null, .null])), (q1, .inl (mcA X 0, 48, .inl (fun _ => 0)))] := hD
  refine lv_aload_n hC.1 hC.2.1 dX4_init_17 rfl (lv_at hl 0 rfl) ?_
  refine lv_bipush (v := nI 48) hC.1 hC.2.1 dX4_init_18 (by decide) ?_
  refine cs_arrI (n := 48) (k := 2) (idx := 19) (ws := [(q1, .inl (mcA X 0, 48, .inl (fun _ => 0)))]) hC hin hP hD hS hA ck_X4_2 (Nat.le_of_ble_eq_true rfl) (Nat.le_of_ble_eq_true rfl) (Nat.le_of_ble_eq_true rfl) (Nat.le_of_ble_eq_true rfl) dX4_init_20 dX4_init_22 (fun q2 H locs hP hD hS => ?_)
  have hP : va_P (mcD X) vwCl [(h0, .inr (3, [.int (-1), .ref q1, .ref q2, .null, .null, .null, .null, .null, .null, .null, .null, .null])), (q1, .inl (mcA X 0, 48, .inl (fun _ => 0))), (q2, .inl (mcA X 0, 48, .inl (fun _ => 0)))] H := hP
  have hD : va_D (va_A (eW h0 3 fsX4) s.heap.size) [(h0, .inr (3, [.int (-1), .ref q1, .ref q2, .null, .null, .null, .null, .null, .null, .null, .null, .null])), (q1, .inl (mcA X 0, 48, .inl (fun _ => 0))), (q2, .inl (mcA X 0, 48, .inl (fun _ => 0)))] := hD
  refine lv_aload_n hC.1 hC.2.1 dX4_init_25 rfl (lv_at hl 0 rfl) ?_
  refine lv_bipush (v := nI 48) hC.1 hC.2.1 dX4_init_26 (by decide) ?_
  refine cs_arrI (n := 48) (k := 3) (idx := 22) (ws := [(q1, .inl (mcA X 0, 48, .inl (fun _ => 0))), (q2, .inl (mcA X 0, 48, .inl (fun _ => 0)))]) hC hin hP hD hS hA ck_X4_3 (Nat.le_of_ble_eq_true rfl) (Nat.le_of_ble_eq_true rfl) (Nat.le_of_ble_eq_true rfl) (Nat.le_of_ble_eq_true rfl) dX4_init_28 dX4_init_30 (fun q3 H locs hP hD hS => ?_)
  have hP : va_P (mcD X) vwCl [(h0, .inr (3, [.int (-1), .ref q1, .ref q2, .ref q3, .null, .null, .null, .null, .null, .null, .null, .null])), (q1, .inl (mcA X 0, 48, .inl (fun _ => 0))), (q2, .inl (mcA X 0, 48, .inl (fun _ => 0))), (q3, .inl (mcA X 0, 48, .inl (fun _ => 0)))] H := hP
  have hD : va_D (va_A (eW h0 3 fsX4) s.heap.size) [(h0, .inr (3, [.int (-1), .ref q1, .ref q2, .ref q3, .null, .null, .null, .null, .null, .null, .null, .null])), (q1, .inl (mcA X 0, 48, .inl (fun _ => 0))), (q2, .inl (mcA X 0, 48, .inl (fun _ => 0))), (q3, .inl (mcA X 0, 48, .inl (fun _ => 0)))] := hD
  refine lv_aload_n hC.1 hC.2.1 dX4_init_33 rfl (lv_at hl 0 rfl) ?_
  refine lv_bipush (v := nI 48) hC.1 hC.2.1 dX4_init_34 (by decide) ?_
  refine cs_arrI (n := 48) (k := 4) (idx := 25) (ws := [(q1, .inl (mcA X 0, 48, .inl (fun _ => 0))), (q2, .inl (mcA X 0, 48, .inl (fun _ => 0))), (q3, .inl (mcA X 0, 48, .inl (fun _ => 0)))]) hC hin hP hD hS hA ck_X4_4 (Nat.le_of_ble_eq_true rfl) (Nat.le_of_ble_eq_true rfl) (Nat.le_of_ble_eq_true rfl) (Nat.le_of_ble_eq_true rfl) dX4_init_36 dX4_init_38 (fun q4 H locs hP hD hS => ?_)
  have hP : va_P (mcD X) vwCl [(h0, .inr (3, [.int (-1), .ref q1, .ref q2, .ref q3, .ref q4, .null, .null, .null, .null, .null, .null, .null])), (q1, .inl (mcA X 0, 48, .inl (fun _ => 0))), (q2, .inl (mcA X 0, 48, .inl (fun _ => 0))), (q3, .inl (mcA X 0, 48, .inl (fun _ => 0))), (q4, .inl (mcA X 0, 48, .inl (fun _ => 0)))] H := hP
  have hD : va_D (va_A (eW h0 3 fsX4) s.heap.size) [(h0, .inr (3, [.int (-1), .ref q1, .ref q2, .ref q3, .ref q4, .null, .null, .null, .null, .null, .null, .null])), (q1, .inl (mcA X 0, 48, .inl (fun _ => 0))), (q2, .inl (mcA X 0, 48, .inl (fun _ => 0))), (q3, .inl (mcA X 0, 48, .inl (fun _ => 0))), (q4, .inl (mcA X 0, 48, .inl (fun _ => 0)))] := hD
  refine lv_aload_n hC.1 hC.2.1 dX4_init_41 rfl (lv_at hl 0 rfl) ?_
  refine lv_bipush (v := nI 6) hC.1 hC.2.1 dX4_init_42 (by decide) ?_
  refine cs_arrI (n := 6) (k := 5) (idx := 28) (ws := [(q1, .inl (mcA X 0, 48, .inl (fun _ => 0))), (q2, .inl (mcA X 0, 48, .inl (fun _ => 0))), (q3, .inl (mcA X 0, 48, .inl (fun _ => 0))), (q4, .inl (mcA X 0, 48, .inl (fun _ => 0)))]) hC hin hP hD hS hA ck_X4_5 (Nat.le_of_ble_eq_true rfl) (Nat.le_of_ble_eq_true rfl) (Nat.le_of_ble_eq_true rfl) (Nat.le_of_ble_eq_true rfl) dX4_init_44 dX4_init_46 (fun q5 H locs hP hD hS => ?_)
  have hP : va_P (mcD X) vwCl [(h0, .inr (3, [.int (-1), .ref q1, .ref q2, .ref q3, .ref q4, .ref q5, .null, .null, .null, .null, .null, .null])), (q1, .inl (mcA X 0, 48, .inl (fun _ => 0))), (q2, .inl (mcA X 0, 48, .inl (fun _ => 0))), (q3, .inl (mcA X 0, 48, .inl (fun _ => 0))), (q4, .inl (mcA X 0, 48, .inl (fun _ => 0))), (q5, .inl (mcA X 0, 6, .inl (fun _ => 0)))] H := hP
  have hD : va_D (va_A (eW h0 3 fsX4) s.heap.size) [(h0, .inr (3, [.int (-1), .ref q1, .ref q2, .ref q3, .ref q4, .ref q5, .null, .null, .null, .null, .null, .null])), (q1, .inl (mcA X 0, 48, .inl (fun _ => 0))), (q2, .inl (mcA X 0, 48, .inl (fun _ => 0))), (q3, .inl (mcA X 0, 48, .inl (fun _ => 0))), (q4, .inl (mcA X 0, 48, .inl (fun _ => 0))), (q5, .inl (mcA X 0, 6, .inl (fun _ => 0)))] := hD
  refine lv_aload_n hC.1 hC.2.1 dX4_init_49 rfl (lv_at hl 0 rfl) ?_
  refine lv_bipush (v := nI 6) hC.1 hC.2.1 dX4_init_50 (by decide) ?_
  refine cs_arrI (n := 6) (k := 6) (idx := 31) (ws := [(q1, .inl (mcA X 0, 48, .inl (fun _ => 0))), (q2, .inl (mcA X 0, 48, .inl (fun _ => 0))), (q3, .inl (mcA X 0, 48, .inl (fun _ => 0))), (q4, .inl (mcA X 0, 48, .inl (fun _ => 0))), (q5, .inl (mcA X 0, 6, .inl (fun _ => 0)))]) hC hin hP hD hS hA ck_X4_6 (Nat.le_of_ble_eq_true rfl) (Nat.le_of_ble_eq_true rfl) (Nat.le_of_ble_eq_true rfl) (Nat.le_of_ble_eq_true rfl) dX4_init_52 dX4_init_54 (fun q6 H locs hP hD hS => ?_)
  have hP : va_P (mcD X) vwCl [(h0, .inr (3, [.int (-1), .ref q1, .ref q2, .ref q3, .ref q4, .ref q5, .ref q6, .null, .null, .null, .null, .null])), (q1, .inl (mcA X 0, 48, .inl (fun _ => 0))), (q2, .inl (mcA X 0, 48, .inl (fun _ => 0))), (q3, .inl (mcA X 0, 48, .inl (fun _ => 0))), (q4, .inl (mcA X 0, 48, .inl (fun _ => 0))), (q5, .inl (mcA X 0, 6, .inl (fun _ => 0))), (q6, .inl (mcA X 0, 6, .inl (fun _ => 0)))] H := hP
  have hD : va_D (va_A (eW h0 3 fsX4) s.heap.size) [(h0, .inr (3, [.int (-1), .ref q1, .ref q2, .ref q3, .ref q4, .ref q5, .ref q6, .null, .null, .null, .null, .null])), (q1, .inl (mcA X 0, 48, .inl (fun _ => 0))), (q2, .inl (mcA X 0, 48, .inl (fun _ => 0))), (q3, .inl (mcA X 0, 48, .inl (fun _ => 0))), (q4, .inl (mcA X 0, 48, .inl (fun _ => 0))), (q5, .inl (mcA X 0, 6, .inl (fun _ => 0))), (q6, .inl (mcA X 0, 6, .inl (fun _ => 0)))] := hD
  refine lv_aload_n hC.1 hC.2.1 dX4_init_57 rfl (lv_at hl 0 rfl) ?_
  refine lv_bipush (v := nI 6) hC.1 hC.2.1 dX4_init_58 (by decide) ?_
  refine cs_arrI (n := 6) (k := 7) (idx := 34) (ws := [(q1, .inl (mcA X 0, 48, .inl (fun _ => 0))), (q2, .inl (mcA X 0, 48, .inl (fun _ => 0))), (q3, .inl (mcA X 0, 48, .inl (fun _ => 0))), (q4, .inl (mcA X 0, 48, .inl (fun _ => 0))), (q5, .inl (mcA X 0, 6, .inl (fun _ => 0))), (q6, .inl (mcA X 0, 6, .inl (fun _ => 0)))]) hC hin hP hD hS hA ck_X4_7 (Nat.le_of_ble_eq_true rfl) (Nat.le_of_ble_eq_true rfl) (Nat.le_of_ble_eq_true rfl) (Nat.le_of_ble_eq_true rfl) dX4_init_60 dX4_init_62 (fun q7 H locs hP hD hS => ?_)
  have hP : va_P (mcD X) vwCl [(h0, .inr (3, [.int (-1), .ref q1, .ref q2, .ref q3, .ref q4, .ref q5, .ref q6, .ref q7, .null, .null, .null, .null])), (q1, .inl (mcA X 0, 48, .inl (fun _ => 0))), (q2, .inl (mcA X 0, 48, .inl (fun _ => 0))), (q3, .inl (mcA X 0, 48, .inl (fun _ => 0))), (q4, .inl (mcA X 0, 48, .inl (fun _ => 0))), (q5, .inl (mcA X 0, 6, .inl (fun _ => 0))), (q6, .inl (mcA X 0, 6, .inl (fun _ => 0))), (q7, .inl (mcA X 0, 6, .inl (fun _ => 0)))] H := hP
  have hD : va_D (va_A (eW h0 3 fsX4) s.heap.size) [(h0, .inr (3, [.int (-1), .ref q1, .ref q2, .ref q3, .ref q4, .ref q5, .ref q6, .ref q7, .null, .null, .null, .null])), (q1, .inl (mcA X 0, 48, .inl (fun _ => 0))), (q2, .inl (mcA X 0, 48, .inl (fun _ => 0))), (q3, .inl (mcA X 0, 48, .inl (fun _ => 0))), (q4, .inl (mcA X 0, 48, .inl (fun _ => 0))), (q5, .inl (mcA X 0, 6, .inl (fun _ => 0))), (q6, .inl (mcA X 0, 6, .inl (fun _ => 0))), (q7, .inl (mcA X 0, 6, .inl (fun _ => 0)))] := hD
  refine lv_aload_n hC.1 hC.2.1 dX4_init_65 rfl (lv_at hl 0 rfl) ?_
  refine lv_bipush (v := nI 8) hC.1 hC.2.1 dX4_init_66 (by decide) ?_
  refine cs_arrI (n := 8) (k := 8) (idx := 37) (ws := [(q1, .inl (mcA X 0, 48, .inl (fun _ => 0))), (q2, .inl (mcA X 0, 48, .inl (fun _ => 0))), (q3, .inl (mcA X 0, 48, .inl (fun _ => 0))), (q4, .inl (mcA X 0, 48, .inl (fun _ => 0))), (q5, .inl (mcA X 0, 6, .inl (fun _ => 0))), (q6, .inl (mcA X 0, 6, .inl (fun _ => 0))), (q7, .inl (mcA X 0, 6, .inl (fun _ => 0)))]) hC hin hP hD hS hA ck_X4_8 (Nat.le_of_ble_eq_true rfl) (Nat.le_of_ble_eq_true rfl) (Nat.le_of_ble_eq_true rfl) (Nat.le_of_ble_eq_true rfl) dX4_init_68 dX4_init_70 (fun q8 H locs hP hD hS => ?_)
  have hP : va_P (mcD X) vwCl [(h0, .inr (3, [.int (-1), .ref q1, .ref q2, .ref q3, .ref q4, .ref q5, .ref q6, .ref q7, .ref q8, .null, .null, .null])), (q1, .inl (mcA X 0, 48, .inl (fun _ => 0))), (q2, .inl (mcA X 0, 48, .inl (fun _ => 0))), (q3, .inl (mcA X 0, 48, .inl (fun _ => 0))), (q4, .inl (mcA X 0, 48, .inl (fun _ => 0))), (q5, .inl (mcA X 0, 6, .inl (fun _ => 0))), (q6, .inl (mcA X 0, 6, .inl (fun _ => 0))), (q7, .inl (mcA X 0, 6, .inl (fun _ => 0))), (q8, .inl (mcA X 0, 8, .inl (fun _ => 0)))] H := hP
  have hD : va_D (va_A (eW h0 3 fsX4) s.heap.size) [(h0, .inr (3, [.int (-1), .ref q1, .ref q2, .ref q3, .ref q4, .ref q5, .ref q6, .ref q7, .ref q8, .null, .null, .null])), (q1, .inl (mcA X 0, 48, .inl (fun _ => 0))), (q2, .inl (mcA X 0, 48, .inl (fun _ => 0))), (q3, .inl (mcA X 0, 48, .inl (fun _ => 0))), (q4, .inl (mcA X 0, 48, .inl (fun _ => 0))), (q5, .inl (mcA X 0, 6, .inl (fun _ => 0))), (q6, .inl (mcA X 0, 6, .inl (fun _ => 0))), (q7, .inl (mcA X 0, 6, .inl (fun _ => 0))), (q8, .inl (mcA X 0, 8, .inl (fun _ => 0)))] := hD
  refine lv_aload_n hC.1 hC.2.1 dX4_init_73 rfl (lv_at hl 0 rfl) ?_
  refine lv_bipush (v := nI 8) hC.1 hC.2.1 dX4_init_74 (by decide) ?_
  refine cs_arrI (n := 8) (k := 9) (idx := 40) (ws := [(q1, .inl (mcA X 0, 48, .inl (fun _ => 0))), (q2, .inl (mcA X 0, 48, .inl (fun _ => 0))), (q3, .inl (mcA X 0, 48, .inl (fun _ => 0))), (q4, .inl (mcA X 0, 48, .inl (fun _ => 0))), (q5, .inl (mcA X 0, 6, .inl (fun _ => 0))), (q6, .inl (mcA X 0, 6, .inl (fun _ => 0))), (q7, .inl (mcA X 0, 6, .inl (fun _ => 0))), (q8, .inl (mcA X 0, 8, .inl (fun _ => 0)))]) hC hin hP hD hS hA ck_X4_9 (Nat.le_of_ble_eq_true rfl) (Nat.le_of_ble_eq_true rfl) (Nat.le_of_ble_eq_true rfl) (Nat.le_of_ble_eq_true rfl) dX4_init_76 dX4_init_78 (fun q9 H locs hP hD hS => ?_)
  have hP : va_P (mcD X) vwCl [(h0, .inr (3, [.int (-1), .ref q1, .ref q2, .ref q3, .ref q4, .ref q5, .ref q6, .ref q7, .ref q8, .ref q9, .null, .null])), (q1, .inl (mcA X 0, 48, .inl (fun _ => 0))), (q2, .inl (mcA X 0, 48, .inl (fun _ => 0))), (q3, .inl (mcA X 0, 48, .inl (fun _ => 0))), (q4, .inl (mcA X 0, 48, .inl (fun _ => 0))), (q5, .inl (mcA X 0, 6, .inl (fun _ => 0))), (q6, .inl (mcA X 0, 6, .inl (fun _ => 0))), (q7, .inl (mcA X 0, 6, .inl (fun _ => 0))), (q8, .inl (mcA X 0, 8, .inl (fun _ => 0))), (q9, .inl (mcA X 0, 8, .inl (fun _ => 0)))] H := hP
  have hD : va_D (va_A (eW h0 3 fsX4) s.heap.size) [(h0, .inr (3, [.int (-1), .ref q1, .ref q2, .ref q3, .ref q4, .ref q5, .ref q6, .ref q7, .ref q8, .ref q9, .null, .null])), (q1, .inl (mcA X 0, 48, .inl (fun _ => 0))), (q2, .inl (mcA X 0, 48, .inl (fun _ => 0))), (q3, .inl (mcA X 0, 48, .inl (fun _ => 0))), (q4, .inl (mcA X 0, 48, .inl (fun _ => 0))), (q5, .inl (mcA X 0, 6, .inl (fun _ => 0))), (q6, .inl (mcA X 0, 6, .inl (fun _ => 0))), (q7, .inl (mcA X 0, 6, .inl (fun _ => 0))), (q8, .inl (mcA X 0, 8, .inl (fun _ => 0))), (q9, .inl (mcA X 0, 8, .inl (fun _ => 0)))] := hD
  refine lv_aload_n hC.1 hC.2.1 dX4_init_81 rfl (lv_at hl 0 rfl) ?_
  refine lv_bipush (v := nI 8) hC.1 hC.2.1 dX4_init_82 (by decide) ?_
  refine cs_arrI (n := 8) (k := 10) (idx := 43) (ws := [(q1, .inl (mcA X 0, 48, .inl (fun _ => 0))), (q2, .inl (mcA X 0, 48, .inl (fun _ => 0))), (q3, .inl (mcA X 0, 48, .inl (fun _ => 0))), (q4, .inl (mcA X 0, 48, .inl (fun _ => 0))), (q5, .inl (mcA X 0, 6, .inl (fun _ => 0))), (q6, .inl (mcA X 0, 6, .inl (fun _ => 0))), (q7, .inl (mcA X 0, 6, .inl (fun _ => 0))), (q8, .inl (mcA X 0, 8, .inl (fun _ => 0))), (q9, .inl (mcA X 0, 8, .inl (fun _ => 0)))]) hC hin hP hD hS hA ck_X4_10 (Nat.le_of_ble_eq_true rfl) (Nat.le_of_ble_eq_true rfl) (Nat.le_of_ble_eq_true rfl) (Nat.le_of_ble_eq_true rfl) dX4_init_84 dX4_init_86 (fun q10 H locs hP hD hS => ?_)
  have hP : va_P (mcD X) vwCl [(h0, .inr (3, [.int (-1), .ref q1, .ref q2, .ref q3, .ref q4, .ref q5, .ref q6, .ref q7, .ref q8, .ref q9, .ref q10, .null])), (q1, .inl (mcA X 0, 48, .inl (fun _ => 0))), (q2, .inl (mcA X 0, 48, .inl (fun _ => 0))), (q3, .inl (mcA X 0, 48, .inl (fun _ => 0))), (q4, .inl (mcA X 0, 48, .inl (fun _ => 0))), (q5, .inl (mcA X 0, 6, .inl (fun _ => 0))), (q6, .inl (mcA X 0, 6, .inl (fun _ => 0))), (q7, .inl (mcA X 0, 6, .inl (fun _ => 0))), (q8, .inl (mcA X 0, 8, .inl (fun _ => 0))), (q9, .inl (mcA X 0, 8, .inl (fun _ => 0))), (q10, .inl (mcA X 0, 8, .inl (fun _ => 0)))] H := hP
  have hD : va_D (va_A (eW h0 3 fsX4) s.heap.size) [(h0, .inr (3, [.int (-1), .ref q1, .ref q2, .ref q3, .ref q4, .ref q5, .ref q6, .ref q7, .ref q8, .ref q9, .ref q10, .null])), (q1, .inl (mcA X 0, 48, .inl (fun _ => 0))), (q2, .inl (mcA X 0, 48, .inl (fun _ => 0))), (q3, .inl (mcA X 0, 48, .inl (fun _ => 0))), (q4, .inl (mcA X 0, 48, .inl (fun _ => 0))), (q5, .inl (mcA X 0, 6, .inl (fun _ => 0))), (q6, .inl (mcA X 0, 6, .inl (fun _ => 0))), (q7, .inl (mcA X 0, 6, .inl (fun _ => 0))), (q8, .inl (mcA X 0, 8, .inl (fun _ => 0))), (q9, .inl (mcA X 0, 8, .inl (fun _ => 0))), (q10, .inl (mcA X 0, 8, .inl (fun _ => 0)))] := hD
  refine lv_aload_n hC.1 hC.2.1 dX4_init_89 rfl (lv_at hl 0 rfl) ?_
  refine lv_bipush (v := nI 36) hC.1 hC.2.1 dX4_init_90 (by decide) ?_
  refine cs_arrI (n := 36) (k := 11) (idx := 46) (ws := [(q1, .inl (mcA X 0, 48, .inl (fun _ => 0))), (q2, .inl (mcA X 0, 48, .inl (fun _ => 0))), (q3, .inl (mcA X 0, 48, .inl (fun _ => 0))), (q4, .inl (mcA X 0, 48, .inl (fun _ => 0))), (q5, .inl (mcA X 0, 6, .inl (fun _ => 0))), (q6, .inl (mcA X 0, 6, .inl (fun _ => 0))), (q7, .inl (mcA X 0, 6, .inl (fun _ => 0))), (q8, .inl (mcA X 0, 8, .inl (fun _ => 0))), (q9, .inl (mcA X 0, 8, .inl (fun _ => 0))), (q10, .inl (mcA X 0, 8, .inl (fun _ => 0)))]) hC hin hP hD hS hA ck_X4_11 (Nat.le_of_ble_eq_true rfl) (Nat.le_of_ble_eq_true rfl) (Nat.le_of_ble_eq_true rfl) (Nat.le_of_ble_eq_true rfl) dX4_init_92 dX4_init_94 (fun q11 H locs hP hD hS => ?_)
  have hP : va_P (mcD X) vwCl [(h0, .inr (3, [.int (-1), .ref q1, .ref q2, .ref q3, .ref q4, .ref q5, .ref q6, .ref q7, .ref q8, .ref q9, .ref q10, .ref q11])), (q1, .inl (mcA X 0, 48, .inl (fun _ => 0))), (q2, .inl (mcA X 0, 48, .inl (fun _ => 0))), (q3, .inl (mcA X 0, 48, .inl (fun _ => 0))), (q4, .inl (mcA X 0, 48, .inl (fun _ => 0))), (q5, .inl (mcA X 0, 6, .inl (fun _ => 0))), (q6, .inl (mcA X 0, 6, .inl (fun _ => 0))), (q7, .inl (mcA X 0, 6, .inl (fun _ => 0))), (q8, .inl (mcA X 0, 8, .inl (fun _ => 0))), (q9, .inl (mcA X 0, 8, .inl (fun _ => 0))), (q10, .inl (mcA X 0, 8, .inl (fun _ => 0))), (q11, .inl (mcA X 0, 36, .inl (fun _ => 0)))] H := hP
  have hD : va_D (va_A (eW h0 3 fsX4) s.heap.size) [(h0, .inr (3, [.int (-1), .ref q1, .ref q2, .ref q3, .ref q4, .ref q5, .ref q6, .ref q7, .ref q8, .ref q9, .ref q10, .ref q11])), (q1, .inl (mcA X 0, 48, .inl (fun _ => 0))), (q2, .inl (mcA X 0, 48, .inl (fun _ => 0))), (q3, .inl (mcA X 0, 48, .inl (fun _ => 0))), (q4, .inl (mcA X 0, 48, .inl (fun _ => 0))), (q5, .inl (mcA X 0, 6, .inl (fun _ => 0))), (q6, .inl (mcA X 0, 6, .inl (fun _ => 0))), (q7, .inl (mcA X 0, 6, .inl (fun _ => 0))), (q8, .inl (mcA X 0, 8, .inl (fun _ => 0))), (q9, .inl (mcA X 0, 8, .inl (fun _ => 0))), (q10, .inl (mcA X 0, 8, .inl (fun _ => 0))), (q11, .inl (mcA X 0, 36, .inl (fun _ => 0)))] := hD
  exact ct_end (F := fun a => wG (mcA X) a vR uZ 0 shX4) (a := fun i => ([h0, q1, q2, q3, q4, q5, q6, q7, q8, q9, q10, q11] : List Nat).getD i 0) hC hr hlocks (Nat.le_of_ble_eq_true rfl) (Nat.le_of_ble_eq_true rfl) rfl hP hD hS dX4_init_97
theorem dX5_init_0 : decode cX5_init 0 = .ok (.aload_n 0, 1) := by decide +kernel
theorem dX5_init_1 : decode cX5_init 1 = .ok (.invokespecial 5, 3) := by decide +kernel
theorem dX5_init_4 : decode cX5_init 4 = .ok (.aload_n 0, 1) := by decide +kernel
theorem dX5_init_5 : decode cX5_init 5 = .ok (.bipush 40, 2) := by decide +kernel
theorem dX5_init_7 : decode cX5_init 7 = .ok (.newarray .int, 2) := by decide +kernel
theorem dX5_init_9 : decode cX5_init 9 = .ok (.putfield 11, 3) := by decide +kernel
theorem dX5_init_12 : decode cX5_init 12 = .ok (.aload_n 0, 1) := by decide +kernel
theorem dX5_init_13 : decode cX5_init 13 = .ok (.bipush 40, 2) := by decide +kernel
theorem dX5_init_15 : decode cX5_init 15 = .ok (.newarray .int, 2) := by decide +kernel
theorem dX5_init_17 : decode cX5_init 17 = .ok (.putfield 15, 3) := by decide +kernel
theorem dX5_init_20 : decode cX5_init 20 = .ok (.aload_n 0, 1) := by decide +kernel
theorem dX5_init_21 : decode cX5_init 21 = .ok (.bipush 40, 2) := by decide +kernel
theorem dX5_init_23 : decode cX5_init 23 = .ok (.newarray .int, 2) := by decide +kernel
theorem dX5_init_25 : decode cX5_init 25 = .ok (.putfield 18, 3) := by decide +kernel
theorem dX5_init_28 : decode cX5_init 28 = .ok (.return_, 1) := by decide +kernel
abbrev fsX5 : List Value := [.int 0, .int 0, .null, .null, .null]
abbrev shX5 : List (Nat × Nat) := [(4, 0), (16, 40), (16, 40), (16, 40)]
theorem lk_X5_super : Cond.methodLink RX5 5 Lib.objectInit ∈ mTb := by decide +kernel
theorem ck_X5_2 : ckF RX5 4 2 11 (.array .int) true = true := by decide +kernel
theorem ck_X5_3 : ckF RX5 4 3 15 (.array .int) true = true := by decide +kernel
theorem ck_X5_4 : ckF RX5 4 4 18 (.array .int) true = true := by decide +kernel
theorem ds_X5 : ∀ j, j < 5 → defaultValue (tyX5 j) = vp_V fsX5 j := by decide +kernel
set_option maxHeartbeats 4000000 in
set_option maxRecDepth 20000 in
theorem ct_X5 {X : mC} : CT X EX0 yX5_init cX5_init 1 4 fsX5 2 3 120 (fun a => wG (mcA X) a vZ uZ 0 shX5) := by
  refine ct_start (by decide) rfl (by decide) ?_
  intro p e s m below meth c h0 ls hC hr hin hlocks hE hP hl
  have hD : va_D (va_A (eW h0 4 fsX5) s.heap.size) (eW h0 4 fsX5) := eW_D
  have hA : ∀ q, s.heap.size ≤ q → va_A (eW h0 4 fsX5) s.heap.size q := fun q h => Or.inr h
  have hS : va_S (va_A (eW h0 4 fsX5) s.heap.size) s.heap s.heap [] := va_S.rf
  refine cs_super hC lk_X5_super ⟨(Nat.le_of_ble_eq_true rfl), (Nat.le_of_ble_eq_true rfl)⟩ hl dX5_init_0 dX5_init_1 ?_
  refine lv_aload_n hC.1 hC.2.1 dX5_init_4 rfl (lv_at hl 0 rfl) ?_
  refine lv_bipush (v := nI 40) hC.1 hC.2.1 dX5_init_5 (by decide) ?_
  refine cs_arrI (n := 40) (k := 2) (idx := 11) (ws := []) hC hin hP hD hS hA ck_X5_2 (Nat.le_of_ble_eq_true rfl) (Nat.le_of_ble_eq_true rfl) (Nat.le_of_ble_eq_true rfl) (Nat.le_of_ble_eq_true rfl) dX5_init_7 dX5_init_9 (fun q1 H locs hP hD hS => ?_)
  have hP : va_P (mcD X) vwCl [(h0, .inr (4, [.int 0, .int 0, .ref q1, .null, .null])), (q1, .inl (mcA X 0, 40, .inl (fun _ => 0)))] H := hP
  have hD : va_D (va_A (eW h0 4 fsX5) s.heap.size) [(h0, .inr (4, [.int 0, .int 0, .ref q1, .null, .null])), (q1, .inl (mcA X 0, 40, .inl (fun _ => 0)))] := hD
  refine lv_aload_n hC.1 hC.2.1 dX5_init_12 rfl (lv_at hl 0 rfl) ?_
  refine lv_bipush (v := nI 40) hC.1 hC.2.1 dX5_init_13 (by decide) ?_
  refine cs_arrI (n := 40) (k := 3) (idx := 15) (ws := [(q1, .inl (mcA X 0, 40, .inl (fun _ => 0)))]) hC hin hP hD hS hA ck_X5_3 (Nat.le_of_ble_eq_true rfl) (Nat.le_of_ble_eq_true rfl) (Nat.le_of_ble_eq_true rfl) (Nat.le_of_ble_eq_true rfl) dX5_init_15 dX5_init_17 (fun q2 H locs hP hD hS => ?_)
  have hP : va_P (mcD X) vwCl [(h0, .inr (4, [.int 0, .int 0, .ref q1, .ref q2, .null])), (q1, .inl (mcA X 0, 40, .inl (fun _ => 0))), (q2, .inl (mcA X 0, 40, .inl (fun _ => 0)))] H := hP
  have hD : va_D (va_A (eW h0 4 fsX5) s.heap.size) [(h0, .inr (4, [.int 0, .int 0, .ref q1, .ref q2, .null])), (q1, .inl (mcA X 0, 40, .inl (fun _ => 0))), (q2, .inl (mcA X 0, 40, .inl (fun _ => 0)))] := hD
  refine lv_aload_n hC.1 hC.2.1 dX5_init_20 rfl (lv_at hl 0 rfl) ?_
  refine lv_bipush (v := nI 40) hC.1 hC.2.1 dX5_init_21 (by decide) ?_
  refine cs_arrI (n := 40) (k := 4) (idx := 18) (ws := [(q1, .inl (mcA X 0, 40, .inl (fun _ => 0))), (q2, .inl (mcA X 0, 40, .inl (fun _ => 0)))]) hC hin hP hD hS hA ck_X5_4 (Nat.le_of_ble_eq_true rfl) (Nat.le_of_ble_eq_true rfl) (Nat.le_of_ble_eq_true rfl) (Nat.le_of_ble_eq_true rfl) dX5_init_23 dX5_init_25 (fun q3 H locs hP hD hS => ?_)
  have hP : va_P (mcD X) vwCl [(h0, .inr (4, [.int 0, .int 0, .ref q1, .ref q2, .ref q3])), (q1, .inl (mcA X 0, 40, .inl (fun _ => 0))), (q2, .inl (mcA X 0, 40, .inl (fun _ => 0))), (q3, .inl (mcA X 0, 40, .inl (fun _ => 0)))] H := hP
  have hD : va_D (va_A (eW h0 4 fsX5) s.heap.size) [(h0, .inr (4, [.int 0, .int 0, .ref q1, .ref q2, .ref q3])), (q1, .inl (mcA X 0, 40, .inl (fun _ => 0))), (q2, .inl (mcA X 0, 40, .inl (fun _ => 0))), (q3, .inl (mcA X 0, 40, .inl (fun _ => 0)))] := hD
  exact ct_end (F := fun a => wG (mcA X) a vZ uZ 0 shX5) (a := fun i => ([h0, q1, q2, q3] : List Nat).getD i 0) hC hr hlocks (Nat.le_of_ble_eq_true rfl) (Nat.le_of_ble_eq_true rfl) rfl hP hD hS dX5_init_28
theorem dX7_init_0 : decode cX7_init 0 = .ok (.aload_n 0, 1) := by decide +kernel
theorem dX7_init_1 : decode cX7_init 1 = .ok (.invokespecial 3, 3) := by decide +kernel
theorem dX7_init_4 : decode cX7_init 4 = .ok (.aload_n 0, 1) := by decide +kernel
theorem dX7_init_5 : decode cX7_init 5 = .ok (.sipush 136, 3) := by decide +kernel
theorem dX7_init_8 : decode cX7_init 8 = .ok (.newarray .int, 2) := by decide +kernel
theorem dX7_init_10 : decode cX7_init 10 = .ok (.putfield 11, 3) := by decide +kernel
theorem dX7_init_13 : decode cX7_init 13 = .ok (.return_, 1) := by decide +kernel
abbrev fsX7 : List Value := [.null, .int 0]
abbrev shX7 : List (Nat × Nat) := [(6, 0), (16, 136)]
theorem lk_X7_super : Cond.methodLink RX7 3 Lib.objectInit ∈ mTb := by decide +kernel
theorem ck_X7_0 : ckF RX7 6 0 11 (.array .int) true = true := by decide +kernel
theorem ds_X7 : ∀ j, j < 2 → defaultValue (tyX7 j) = vp_V fsX7 j := by decide +kernel
set_option maxHeartbeats 4000000 in
set_option maxRecDepth 20000 in
theorem ct_X7 {X : mC} : CT X EX0 yX7_init cX7_init 1 6 fsX7 2 1 136 (fun a => wG (mcA X) a vZ uZ 0 shX7) := by
  refine ct_start (by decide) rfl (by decide) ?_
  intro p e s m below meth c h0 ls hC hr hin hlocks hE hP hl
  have hD : va_D (va_A (eW h0 6 fsX7) s.heap.size) (eW h0 6 fsX7) := eW_D
  have hA : ∀ q, s.heap.size ≤ q → va_A (eW h0 6 fsX7) s.heap.size q := fun q h => Or.inr h
  have hS : va_S (va_A (eW h0 6 fsX7) s.heap.size) s.heap s.heap [] := va_S.rf
  refine cs_super hC lk_X7_super ⟨(Nat.le_of_ble_eq_true rfl), (Nat.le_of_ble_eq_true rfl)⟩ hl dX7_init_0 dX7_init_1 ?_
  refine lv_aload_n hC.1 hC.2.1 dX7_init_4 rfl (lv_at hl 0 rfl) ?_
  refine lv_sipush (v := nI 136) hC.1 hC.2.1 dX7_init_5 (by decide) ?_
  refine cs_arrI (n := 136) (k := 0) (idx := 11) (ws := []) hC hin hP hD hS hA ck_X7_0 (Nat.le_of_ble_eq_true rfl) (Nat.le_of_ble_eq_true rfl) (Nat.le_of_ble_eq_true rfl) (Nat.le_of_ble_eq_true rfl) dX7_init_8 dX7_init_10 (fun q1 H locs hP hD hS => ?_)
  have hP : va_P (mcD X) vwCl [(h0, .inr (6, [.ref q1, .int 0])), (q1, .inl (mcA X 0, 136, .inl (fun _ => 0)))] H := hP
  have hD : va_D (va_A (eW h0 6 fsX7) s.heap.size) [(h0, .inr (6, [.ref q1, .int 0])), (q1, .inl (mcA X 0, 136, .inl (fun _ => 0)))] := hD
  exact ct_end (F := fun a => wG (mcA X) a vZ uZ 0 shX7) (a := fun i => ([h0, q1] : List Nat).getD i 0) hC hr hlocks (Nat.le_of_ble_eq_true rfl) (Nat.le_of_ble_eq_true rfl) rfl hP hD hS dX7_init_13

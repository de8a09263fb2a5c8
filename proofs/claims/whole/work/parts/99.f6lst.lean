theorem dL_work_0 : decode cL_work 0 = .ok (.aload_n 3, 1) := by decide +kernel
theorem dL_work_1 : decode cL_work 1 = .ok (.iconst 0, 1) := by decide +kernel
theorem dL_work_2 : decode cL_work 2 = .ok (.aload_n 0, 1) := by decide +kernel
theorem dL_work_3 : decode cL_work 3 = .ok (.iload_n 1, 1) := by decide +kernel
theorem dL_work_4 : decode cL_work 4 = .ok (.iload_n 2, 1) := by decide +kernel
theorem dL_work_5 : decode cL_work 5 = .ok (.invokevirtual 7, 3) := by decide +kernel
theorem dL_work_8 : decode cL_work 8 = .ok (.i2l, 1) := by decide +kernel
theorem dL_work_9 : decode cL_work 9 = .ok (.lastore, 1) := by decide +kernel
theorem dL_work_10 : decode cL_work 10 = .ok (.goto 7, 3) := by decide +kernel
theorem dL_work_13 : decode cL_work 13 = .ok (.astore 4, 2) := by decide +kernel
theorem dL_work_15 : decode cL_work 15 = .ok (.iconst 1, 1) := by decide +kernel
theorem dL_work_16 : decode cL_work 16 = .ok (.ireturn, 1) := by decide +kernel
theorem dL_work_17 : decode cL_work 17 = .ok (.iconst 0, 1) := by decide +kernel
theorem dL_work_18 : decode cL_work 18 = .ok (.ireturn, 1) := by decide +kernel
theorem dL_worthOf_0 : decode cL_worthOf 0 = .ok (.aload_n 3, 1) := by decide +kernel
theorem dL_worthOf_1 : decode cL_worthOf 1 = .ok (.iconst 0, 1) := by decide +kernel
theorem dL_worthOf_2 : decode cL_worthOf 2 = .ok (.aload_n 0, 1) := by decide +kernel
theorem dL_worthOf_3 : decode cL_worthOf 3 = .ok (.iload_n 1, 1) := by decide +kernel
theorem dL_worthOf_4 : decode cL_worthOf 4 = .ok (.iload_n 2, 1) := by decide +kernel
theorem dL_worthOf_5 : decode cL_worthOf 5 = .ok (.invokevirtual 15, 3) := by decide +kernel
theorem dL_worthOf_8 : decode cL_worthOf 8 = .ok (.lastore, 1) := by decide +kernel
theorem dL_worthOf_9 : decode cL_worthOf 9 = .ok (.goto 7, 3) := by decide +kernel
theorem dL_worthOf_12 : decode cL_worthOf 12 = .ok (.astore 4, 2) := by decide +kernel
theorem dL_worthOf_14 : decode cL_worthOf 14 = .ok (.iconst 1, 1) := by decide +kernel
theorem dL_worthOf_15 : decode cL_worthOf 15 = .ok (.ireturn, 1) := by decide +kernel
theorem dL_worthOf_16 : decode cL_worthOf 16 = .ok (.iconst 0, 1) := by decide +kernel
theorem dL_worthOf_17 : decode cL_worthOf 17 = .ok (.ireturn, 1) := by decide +kernel
/-! the law's own work and worthOf: they catch what the class throws -/
theorem good_V {own : String} {idx a : Nat} (hm : mChkM a = true) (hs : mSc a = false) (hlink : Cond.methodLink own idx (mY a) ∈ mTb) : GoodIn mTb (wsV own idx (mY a).cls (mY a) (mWs a)) := by
  obtain ⟨m1, m2, m3, m4, m5, m6, m7, m8⟩ := mChkM_spec hm
  intro w hw
  unfold wsV at hw
  rcases List.mem_append.mp hw with z | z
  · simp only [List.mem_cons, List.not_mem_nil, or_false] at z
    rcases z with rfl | rfl | rfl | rfl
    · exact ⟨hlink, mTb_good hlink⟩
    · exact ⟨(m4 hs).1, mTb_good (m4 hs).1⟩
    · exact ⟨(m4 hs).2, mTb_good (m4 hs).2⟩
    · exact ⟨m2, mTb_good m2⟩
  · exact mGood hm w z
theorem th_w5 : Cond.classLink RL 13 nsE ∈ mTb := by decide +kernel
section MLw
variable {X : mC} {h x o sa sb : Nat} {μ : Mem} {K K8 : MV → Mem → Prop} {KX : Mem → Prop}
theorem mPt_at {s U : State} (hp : mPt X sa sb μ s) (hU : U.heap = s.heap) (hWm : s.WarmedH U.vm) : mPt X sa sb μ U := by
  obtain ⟨⟨hW, hK, hD, hSt⟩, hTh⟩ := hp
  refine ⟨⟨by rw [hU]; exact hW, va_K.moved hWm.alike hK, hD, mSt_move hSt hWm.alike (by rw [hU]; exact Nat.le_refl _) (fun _ _ _ => by rw [hU]) (fun _ z => z)⟩, mTh_move hTh hWm (fun _ _ _ => by rw [hU]) (fun _ z => z)⟩
theorem lk_Lwork : Cond.methodLink RL 7 (mY m_X8_work) ∈ mTb := by decide +kernel
abbrev hhL_work : List (Nat × Nat × Nat × Nat) := [(0, 10, 13, 13)]
abbrev wL_work : List Cond := Cond.codeWith yL_work cL_work 5 (some .int) hhL_work :: mTb
set_option maxHeartbeats 4000000 in
theorem cl_work {w t : Int32} (hsh : mSh[x]? = some (7, 0)) (hso : mSh[o]? = some (17, 1)) (hM : vx_Met (mcL X) (mY m_X8_work) (mWs m_X8_work) (rmX (h + 7)) (va_Pc ([.inr (.inr (7, 0, x)), .inl w, .inl t].map (mTr X)) (mPt X sa sb μ)) (mQ X m_X8_work K8) (mXC X KX) 1 6 (mA X)) (hK8 : ∀ y μ', K8 (.inl y) μ' → K (.inl (nI 0)) (upL μ' o 0 (y.toInt64))) (hKX : ∀ μ', KX μ' → K (.inl (nI 1)) μ') :
    Met (mcL X) yL_work wL_work (rmX (h + 8)) (va_Pc ([.inr (.inr (7, 0, x)), .inl w, .inl t, .inr (.inr (17, 1, o))].map (mTr X)) (mPt X sa sb μ)) (va_Qi (fun r u => K (.inl r) u) (mB X) (mA X)) 1 6 (mA X) := by
  refine va_MetW (cc := cL_work) (maxL := 5) (ret := some .int) (hh := hhL_work) (by decide) rfl ?_
  intro p e s m args below meth c s₁ B hml hv
  obtain ⟨rfl, hp⟩ := hv
  obtain ⟨⟨hW, hK, hD, hSt⟩, hTh⟩ := id hp
  have hx := B.exec
  have hb := B.bytes
  have hr := B.returns
  have hts0 := atoms_spec (ws := wL_work) B.pre
  have hts : ∀ w ∈ mTb, w.before _ s = true := fun w hw => hts0 w (List.mem_cons_of_mem _ hw)
  have hown : s.vm.findClass RL = some m.cls := findClass_of_methodNamed B.named
  have hlocks := B.notSynchronized
  have htab := vx_table (x := yL_work) B (hts0 _ List.mem_cons_self)
  have hQ : mQ X m_X8_work K8 = va_Qi (fun r u => K8 (.inl r) u) (mB X) (mA X) := mQ_int (ty := .int) rfl (by decide)
  rw [hQ] at hM
  have hl := lv_entry ([.ref (mAd X x), .int w, .int t, .ref (mAd X o)]) (n := 5) (Nat.le_of_ble_eq_true rfl)
  rw [lg_entry_eq]
  show W _ _ _ _ _ _ _ _ _ _ _ _ _ _ _ (F0 m 0 (lg_sl ([.ref (mAd X x), .int w, .int t, .ref (mAd X o)]) ++ List.replicate (5 - (lg_sl ([.ref (mAd X x), .int w, .int t, .ref (mAd X o)])).length) Slot.unset).toArray [])
  generalize (lg_sl ([.ref (mAd X x), .int w, .int t, .ref (mAd X o)]) ++ List.replicate (5 - (lg_sl ([.ref (mAd X x), .int w, .int t, .ref (mAd X o)])).length) Slot.unset).toArray = ls at hl ⊢
  have hl : lv_has ls 5 [(0, .ref (mAd X x)), (1, .int w), (2, .int t), (3, .ref (mAd X o))] := hl
  have hS : va_S (mA X) s.heap s.heap [] := va_S.rf
  have hgx := mW_get X μ hsh
  rw [mCell_obj X μ x (by decide)] at hgx
  refine lv_aload_n hx hb dL_work_0 rfl (lv_at hl 3 rfl) ?_
  refine lv_iconst (v := nI 0) hx hb dL_work_1 (by decide) ?_
  refine lv_aload_n hx hb dL_work_2 rfl (lv_at hl 0 rfl) ?_
  refine lv_iload_n hx hb dL_work_3 rfl (lv_at hl 1 rfl) ?_
  refine lv_iload_n hx hb dL_work_4 rfl (lv_at hl 2 rfl) ?_
  refine vx_calli (vx_runV (Ts := mTb) (own := RL) (C := RX8) (y := mY m_X8_work) (b := mAd X x) (As := [.int w, .int t]) (rest := [.int (nI 0), .ref (mAd X o)]) ⟨hx, hb, hml, hown, hts⟩ hM (cwV 2 hts (good_V (own := RL) (idx := 7) (a := m_X8_work) cm_X8_work rfl lk_Lwork) rfl rfl rfl ⟨rfl, by decide, by decide, by decide +kernel⟩ ⟨Nat.le_refl _, by show 8 + (3 + 11) + 64 * (h + 7 + 1) ≤ 64 * (h + 8 + 1); omega⟩) ⟨mPt_blind, va_recv hK hW (ci := 7) rfl hgx, fun U hU hWm => ⟨rfl, mPt_at hp hU hWm⟩⟩ rfl rfl hl.1 rfl (lv_room (Nat.le_of_ble_eq_true rfl)) dL_work_5 ⟨Nat.le_refl _, Nat.le_refl _⟩) hS (fun q _ z => z) (fun q z => z) (fun q _ z => z) ?_ ?_
  · intro E ce q9 u t1 H1 locs1 ht hvm hku hB hz hk1 hS1 hc1 hc2 hc3
    obtain ⟨rfl, hB1, hB2⟩ := hB
    rw [ht] at hB1
    refine vy_catch (own := RL) (name := nsE) (E := nsE) hown ⟨0, 10, 13, 13⟩ htab (by decide) (by decide) (hts _ th_w5) (va_Nw.use rfl hTh.1.1) hc1 hc2 hc3 ?_
    refine lv_astore (lv' := [(4, .ref q9), (0, .ref (mAd X x)), (1, .int w), (2, .int t), (3, .ref (mAd X o))]) hx hb dL_work_13 hl (by decide) rfl (fun ls hl => ?_)
    refine lv_iconst (v := nI 1) hx hb dL_work_15 (by decide) ?_
    exact W.iret (v := nI 1) hx hb hr (fun t ht hWm => ⟨⟨nI 1, u, rfl, hKX u hku, by rw [mB, ht]; exact ⟨hB1, va_K.moved hWm.alike hK⟩⟩, hS1.F ht⟩) hS1.2.2 dL_work_16 hlocks
  · intro r u t1 H1 locs1 ht hvm hku hB hz hk1 hS1
    obtain ⟨hB1, hB2⟩ := hB
    rw [ht] at hB1
    have hD1 := mD_any X hD u
    refine lv_i2l hx hb dL_work_8 rfl ?_
    obtain ⟨c1, c2⟩ := nI_cl (show 0 < 1 by decide) (mSh_lt hso)
    refine va_last hx hb hK hB1 hD1 hS1 o 1 (mW_get X u hso) rfl c1 dL_work_9 (fun H2 locs2 hP2 hD2 hS2 => ?_)
    rw [c2, mW_set X (μ := u) (μ' := upL u o 0 (r.toInt64)) hso (fun _ _ => rfl) (fun j' hj' => up_off j' hj') (by show _ = mCell X (upL u o 0 (r.toInt64)) o (17, 1); unfold mCell upL; simp [up_at])] at hP2 hD2
    refine lv_goto (tgt := 17) hx hb dL_work_10 (by decide) ?_
    refine lv_iconst (v := nI 0) hx hb dL_work_17 (by decide) ?_
    exact W.iret (v := nI 0) hx hb hr (fun t ht hWm => ⟨⟨nI 0, _, rfl, hK8 r u hku, by rw [mB, ht]; exact ⟨hP2, va_K.moved hWm.alike hK⟩⟩, hS2.F ht⟩) hS2.2.2 dL_work_18 hlocks
theorem lk_LworthOf : Cond.methodLink RL 15 (mY m_X8_worthOf) ∈ mTb := by decide +kernel
abbrev hhL_worthOf : List (Nat × Nat × Nat × Nat) := [(0, 9, 12, 13)]
abbrev wL_worthOf : List Cond := Cond.codeWith yL_worthOf cL_worthOf 5 (some .int) hhL_worthOf :: mTb
set_option maxHeartbeats 4000000 in
theorem cl_worthOf {w t : Int32} (hsh : mSh[x]? = some (7, 0)) (hso : mSh[o]? = some (17, 1)) (hM : vx_Met (mcL X) (mY m_X8_worthOf) (mWs m_X8_worthOf) (rmX (h + 7)) (va_Pc ([.inr (.inr (7, 0, x)), .inl w, .inl t].map (mTr X)) (mPt X sa sb μ)) (mQ X m_X8_worthOf K8) (mXC X KX) 1 6 (mA X)) (hK8 : ∀ y μ', K8 (.inr (.inl y)) μ' → K (.inl (nI 0)) (upL μ' o 0 (y))) (hKX : ∀ μ', KX μ' → K (.inl (nI 1)) μ') :
    Met (mcL X) yL_worthOf wL_worthOf (rmX (h + 8)) (va_Pc ([.inr (.inr (7, 0, x)), .inl w, .inl t, .inr (.inr (17, 1, o))].map (mTr X)) (mPt X sa sb μ)) (va_Qi (fun r u => K (.inl r) u) (mB X) (mA X)) 1 6 (mA X) := by
  refine va_MetW (cc := cL_worthOf) (maxL := 5) (ret := some .int) (hh := hhL_worthOf) (by decide) rfl ?_
  intro p e s m args below meth c s₁ B hml hv
  obtain ⟨rfl, hp⟩ := hv
  obtain ⟨⟨hW, hK, hD, hSt⟩, hTh⟩ := id hp
  have hx := B.exec
  have hb := B.bytes
  have hr := B.returns
  have hts0 := atoms_spec (ws := wL_worthOf) B.pre
  have hts : ∀ w ∈ mTb, w.before _ s = true := fun w hw => hts0 w (List.mem_cons_of_mem _ hw)
  have hown : s.vm.findClass RL = some m.cls := findClass_of_methodNamed B.named
  have hlocks := B.notSynchronized
  have htab := vx_table (x := yL_worthOf) B (hts0 _ List.mem_cons_self)
  have hQ : mQ X m_X8_worthOf K8 = va_Ql (fun r u => K8 (.inr (.inl r)) u) (mB X) (mA X) := rfl
  rw [hQ] at hM
  have hl := lv_entry ([.ref (mAd X x), .int w, .int t, .ref (mAd X o)]) (n := 5) (Nat.le_of_ble_eq_true rfl)
  rw [lg_entry_eq]
  show W _ _ _ _ _ _ _ _ _ _ _ _ _ _ _ (F0 m 0 (lg_sl ([.ref (mAd X x), .int w, .int t, .ref (mAd X o)]) ++ List.replicate (5 - (lg_sl ([.ref (mAd X x), .int w, .int t, .ref (mAd X o)])).length) Slot.unset).toArray [])
  generalize (lg_sl ([.ref (mAd X x), .int w, .int t, .ref (mAd X o)]) ++ List.replicate (5 - (lg_sl ([.ref (mAd X x), .int w, .int t, .ref (mAd X o)])).length) Slot.unset).toArray = ls at hl ⊢
  have hl : lv_has ls 5 [(0, .ref (mAd X x)), (1, .int w), (2, .int t), (3, .ref (mAd X o))] := hl
  have hS : va_S (mA X) s.heap s.heap [] := va_S.rf
  have hgx := mW_get X μ hsh
  rw [mCell_obj X μ x (by decide)] at hgx
  refine lv_aload_n hx hb dL_worthOf_0 rfl (lv_at hl 3 rfl) ?_
  refine lv_iconst (v := nI 0) hx hb dL_worthOf_1 (by decide) ?_
  refine lv_aload_n hx hb dL_worthOf_2 rfl (lv_at hl 0 rfl) ?_
  refine lv_iload_n hx hb dL_worthOf_3 rfl (lv_at hl 1 rfl) ?_
  refine lv_iload_n hx hb dL_worthOf_4 rfl (lv_at hl 2 rfl) ?_
  refine vx_calll (vx_runV (Ts := mTb) (own := RL) (C := RX8) (y := mY m_X8_worthOf) (b := mAd X x) (As := [.int w, .int t]) (rest := [.int (nI 0), .ref (mAd X o)]) ⟨hx, hb, hml, hown, hts⟩ hM (cwV 2 hts (good_V (own := RL) (idx := 15) (a := m_X8_worthOf) cm_X8_worthOf rfl lk_LworthOf) rfl rfl rfl ⟨rfl, by decide, by decide, by decide +kernel⟩ ⟨Nat.le_refl _, by show 8 + (3 + 11) + 64 * (h + 7 + 1) ≤ 64 * (h + 8 + 1); omega⟩) ⟨mPt_blind, va_recv hK hW (ci := 7) rfl hgx, fun U hU hWm => ⟨rfl, mPt_at hp hU hWm⟩⟩ rfl rfl hl.1 rfl (lv_room (Nat.le_of_ble_eq_true rfl)) dL_worthOf_5 ⟨Nat.le_refl _, Nat.le_refl _⟩) hS (fun q _ z => z) (fun q z => z) (fun q _ z => z) ?_ ?_
  · intro E ce q9 u t1 H1 locs1 ht hvm hku hB hz hk1 hS1 hc1 hc2 hc3
    obtain ⟨rfl, hB1, hB2⟩ := hB
    rw [ht] at hB1
    refine vy_catch (own := RL) (name := nsE) (E := nsE) hown ⟨0, 9, 12, 13⟩ htab (by decide) (by decide) (hts _ th_w5) (va_Nw.use rfl hTh.1.1) hc1 hc2 hc3 ?_
    refine lv_astore (lv' := [(4, .ref q9), (0, .ref (mAd X x)), (1, .int w), (2, .int t), (3, .ref (mAd X o))]) hx hb dL_worthOf_12 hl (by decide) rfl (fun ls hl => ?_)
    refine lv_iconst (v := nI 1) hx hb dL_worthOf_14 (by decide) ?_
    exact W.iret (v := nI 1) hx hb hr (fun t ht hWm => ⟨⟨nI 1, u, rfl, hKX u hku, by rw [mB, ht]; exact ⟨hB1, va_K.moved hWm.alike hK⟩⟩, hS1.F ht⟩) hS1.2.2 dL_worthOf_15 hlocks
  · intro r u t1 H1 locs1 ht hvm hku hB hz hk1 hS1
    obtain ⟨hB1, hB2⟩ := hB
    rw [ht] at hB1
    have hD1 := mD_any X hD u
    obtain ⟨c1, c2⟩ := nI_cl (show 0 < 1 by decide) (mSh_lt hso)
    refine va_last hx hb hK hB1 hD1 hS1 o 1 (mW_get X u hso) rfl c1 dL_worthOf_8 (fun H2 locs2 hP2 hD2 hS2 => ?_)
    rw [c2, mW_set X (μ := u) (μ' := upL u o 0 (r)) hso (fun _ _ => rfl) (fun j' hj' => up_off j' hj') (by show _ = mCell X (upL u o 0 (r)) o (17, 1); unfold mCell upL; simp [up_at])] at hP2 hD2
    refine lv_goto (tgt := 16) hx hb dL_worthOf_9 (by decide) ?_
    refine lv_iconst (v := nI 0) hx hb dL_worthOf_16 (by decide) ?_
    exact W.iret (v := nI 0) hx hb hr (fun t ht hWm => ⟨⟨nI 0, _, rfl, hK8 r u hku, by rw [mB, ht]; exact ⟨hP2, va_K.moved hWm.alike hK⟩⟩, hS2.F ht⟩) hS2.2.2 dL_worthOf_17 hlocks
end MLw

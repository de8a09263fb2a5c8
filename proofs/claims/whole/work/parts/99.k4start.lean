/-! from the law's entry to its end -/
theorem va_P_0 {D : va_G} {H : Heap} : va_P D vwCl [] H := fun k q h => by simp at h
theorem va_D_0 {A : Nat → Prop} : va_D A [] := ⟨fun i j p q h => by simp at h, fun k q h => by simp at h⟩
set_option maxHeartbeats 4000000 in
theorem whole_start {p : Program} {e : Env} {s : State} {m : MethodId} {below : List Frame} {meth : Method} {c : Code} (l : Launch) (hst : l.stackTraces = false) {b L : Nat} {xs : Nat → Int32} (hL : L ≤ 3072) (C0 : lw_At p s m meth c b L xs) : W p l e room_1 s m #[Value.ref b] below meth c s.heap [] 0 0 (lw_Z below #[Value.ref b] s) (entryFrame m ([Value.ref b] : List Value).toArray 8) := by
  obtain ⟨hx, hb, hr, hml, hown, hts, hX, hbl, hlocks, hgv⟩ := C0
  have hs := flat_of_before _ hgv
  have hTb : ∀ w ∈ mTb, w.before #[Value.ref b] s = true := fun w hw => hts w (List.mem_filter.mp hw).1
  have hao : va_AO "WasteBrook$Image" s := va_AO.of (hts _ sxt.2.2.2.2.2)
  obtain ⟨D, cA, hK⟩ := st_K hTb hao
  obtain ⟨t, hZ, hT⟩ := st_F hts hs
  obtain ⟨ak, av, hSx⟩ := st_S hts hs
  obtain ⟨sa, sc, hTh⟩ := st_T hts hs
  have hC : CX ((l, D, cA, (fun _ => 0), t, b, L, xs) : mC) R_law code 8 p s m #[Value.ref b] meth c := ⟨hx, hb, hml, hown, hTb, hK⟩
  have hl := lv_entry ([Value.ref b]) (n := 8) (by show 1 ≤ 8; omega)
  have hA : ∀ q, s.heap.size ≤ q → lAA s q := fun q h => h
  rw [lg_entry_eq]
  refine cs_new (X := ((l, D, cA, (fun _ => 0), t, b, L, xs) : mC)) (EX := EX8 ak av s.heap.size) (A := lAA s) (ws := []) (cj := 7) (ik := 8) (ic := 19) (fs2 := fsX8) (F2 := fun a => wG cA a vB uZ 0 shX8) (C := RX8) (T := TX8) (N := 18) (ty := tyX8) (f2 := 8) (mc2 := 163) (ms2 := 5007) (rest := []) hC va_P_0 va_D_0 va_S.rf hA rfl tyX8_ok ds_X8 cn_L_X8 ct_X8 EX8_ok (fun q H1 locs1 U hq hS hU hW => ⟨⟨hq, hS.1, by rw [hU]; exact mSx_move hSx hW (fun a ha hna => hS.2.1 a ha hna) (fun _ z => z)⟩, va_AO.moved hW.alike hao⟩) hl.1 ⟨by decide, by decide⟩ (Nat.le_of_ble_eq_true rfl) (Nat.le_of_ble_eq_true rfl) (Nat.le_of_ble_eq_true rfl) dL_law_0 dL_law_3 dL_law_4 (fun aX H1 locs1 hP1 hD1 hS1 => ?_)
  refine lv_astore_n (k := 1) (i := 1) (x := aX 0) (lv' := [(1, .ref (aX 0)), (0, .ref b)]) hx hb dL_law_7 rfl hl (by decide) rfl (fun ls1 hl1 => ?_)
  refine cs_new (X := ((l, D, cA, (fun _ => 0), t, b, L, xs) : mC)) (EX := EX0) (A := lAA s) (ws := [] ++ wG cA aX vB uZ 0 shX8) (cj := 8) (ik := 20) (ic := 22) (fs2 := fsX9) (F2 := fun a => wG cA a vM uZ 0 shX9) (C := RX9) (T := TX9) (N := 45) (ty := tyX9) (f2 := 2) (mc2 := 20) (ms2 := 16413) (rest := []) hC hP1 hD1 hS1 hA rfl tyX9_ok ds_X9 cn_L_X9 ct_X9 EX0_ok (fun q H1 locs1 U hq hS hU hW => trivial) hl1.1 ⟨by decide, by decide⟩ (Nat.le_of_ble_eq_true rfl) (Nat.le_of_ble_eq_true rfl) (Nat.le_of_ble_eq_true rfl) dL_law_8 dL_law_11 dL_law_12 (fun aM H2 locs2 hP2 hD2 hS2 => ?_)
  refine lv_astore_n (k := 2) (i := 2) (x := aM 0) (lv' := [(2, .ref (aM 0)), (1, .ref (aX 0)), (0, .ref b)]) hx hb dL_law_15 rfl hl1 (by decide) rfl (fun ls2 hl2 => ?_)
  refine lv_iconst (v := nI 1) hx hb dL_law_16 (by decide) ?_
  refine cs_newa (X := ((l, D, cA, (fun _ => 0), t, b, L, xs) : mC)) (A := lAA s) (ws := ([] ++ wG cA aX vB uZ 0 shX8) ++ wG cA aM vM uZ 0 shX9) (t0 := 1) (ty := .long) (atype := .long) (n := 1) (cA0 := cA 1) (a0 := (1, .inr (.inl (fun _ => 0)))) hC ar_words.2.1 rfl (fun _ => rfl) rfl hP2 hD2 hS2 hA (fun _ => rfl) (by omega) (by decide) (Nat.le_of_ble_eq_true rfl) (Nat.le_of_ble_eq_true rfl) dL_law_17 (fun qo H3 hP3 hD3 hS3 => ?_)
  refine lv_astore_n (k := 3) (i := 3) (x := qo) (lv' := [(3, .ref qo), (2, .ref (aM 0)), (1, .ref (aX 0)), (0, .ref b)]) hx hb dL_law_19 rfl hl2 (by decide) rfl (fun ls3 hl3 => ?_)
  refine lv_iconst (v := nI 0) hx hb dL_law_20 (by decide) ?_
  refine lv_istore (i := 4) (x := nI 0) (lv' := [(4, .int (nI 0)), (3, .ref qo), (2, .ref (aM 0)), (1, .ref (aX 0)), (0, .ref b)]) hx hb dL_law_21 hl3 (by decide) rfl (fun ls4 hl4 => ?_)
  refine W.widen (k := 1000 + 0) (n := 40000 + 0) (Nat.le_of_ble_eq_true rfl) (Nat.le_of_ble_eq_true rfl) ?_
  obtain ⟨X, hXe⟩ : ∃ X : mC, X = (l, D, cA, adL aX aM qo, t, b, L, xs) := ⟨_, rfl⟩
  have x1 : mcL X = l := by rw [hXe]; rfl
  have x2 : mcD X = D := by rw [hXe]; rfl
  have x3 : mcA X = cA := by rw [hXe]; rfl
  have x4 : mAd X = adL aX aM qo := by rw [hXe]; rfl
  have x5 : mcF X = t := by rw [hXe]; rfl
  have x6 : mcB X = b := by rw [hXe]; rfl
  have x7 : mcN X = L := by rw [hXe]; rfl
  have x8 : mcX X = xs := by rw [hXe]; rfl
  have hWe := mW_0 x4
  rw [x3] at hWe
  have hDw : va_D (lAA s) (mW X mu0) := by rw [hWe]; exact hD3
  have hPw : mWd X mu0 H3 := by unfold mWd; rw [hWe, x2]; exact hP3
  have hKw : va_K (mcD X) vwCl (mTy X) s := by unfold mTy; rw [x2, x3]; exact hK
  have hSt : mSt X (lAA s) s s.heap := by unfold mSt; rw [x5, x6, x7, x8]; exact ⟨hZ, hT, hX, hbl, lAA_lt b hbl⟩
  have hF0 : mFx X m_L_law 60 (lAA s) p room_1 s m #[Value.ref b] c 0 0 := ⟨hx, hb.trans mL_cd.1.symm, hml.trans mL_cd.2.1.symm, by rw [mL_cd.2.2]; exact hown, hTb, ⟨by decide, by decide, Nat.zero_le _, Nat.zero_le _⟩, hSt, hKw, mA_0 hDw⟩
  have hlf : lv_has ls4 (mMx m_L_law) (mLs X (lsL 0)) := by
    have e : mLs X (lsL 0) = [(4, .int (nI 0)), (0, .ref b), (1, .ref (aX 0)), (2, .ref (aM 0)), (3, .ref qo)] := by
      show [(4, Value.int (nI 0)), (0, Value.ref (mcB X)), (1, Value.ref (mAd X 0)), (2, Value.ref (mAd X 164)), (3, Value.ref (mAd X 185))] = _
      rw [x6, x4]
      rfl
    rw [e, mL_cd.2.1]
    exact lv_sub hl4 [0, 4, 3, 2, 1] rfl
  have hgo := law_loop (e := e) (below := below) hx hb hr hlocks hF0 hTh (by rw [x1]; exact hst) (by rw [x7]; exact hL) L 0 mu0 (by rw [x7]; omega) (by omega) Rel_mu0 H3 locs2 ls4 hPw hDw hS3 lsL_ok (fun v hv => by cases hv) hlf
  rw [x1] at hgo
  exact hgo

/-! the JDK's charAt on the one text that the class reads -/
abbrev cJ0c : ByteArray := prog_19_method_56_code
def yJ0c : MethodName := ⟨"java/lang/String", "charAt", "(I)C"⟩
abbrev cJ0l : ByteArray := prog_19_method_154_code
def yJ0l : MethodName := ⟨"java/lang/String", "isLatin1", "()Z"⟩
abbrev cJ0x : ByteArray := prog_19_method_155_code
def yJ0x : MethodName := ⟨"java/lang/String", "checkIndex", "(II)V"⟩
abbrev cJ1c : ByteArray := prog_20_method_2_code
def yJ1c : MethodName := ⟨"java/lang/StringLatin1", "charAt", "([BI)C"⟩
abbrev cJ3x : ByteArray := prog_28_method_11_code
def yJ3x : MethodName := ⟨"jdk/internal/util/Preconditions", "checkIndex", "(IILjava/util/function/BiFunction;)I"⟩
theorem dJ0c_0 : decode cJ0c 0 = .ok (.aload_n 0, 1) := by decide +kernel
theorem dJ0c_1 : decode cJ0c 1 = .ok (.invokevirtual 492, 3) := by decide +kernel
theorem dJ0c_4 : decode cJ0c 4 = .ok (.ifCond .eq 12, 3) := by decide +kernel
theorem dJ0c_7 : decode cJ0c 7 = .ok (.aload_n 0, 1) := by decide +kernel
theorem dJ0c_8 : decode cJ0c 8 = .ok (.getfield 9, 3) := by decide +kernel
theorem dJ0c_11 : decode cJ0c 11 = .ok (.iload_n 1, 1) := by decide +kernel
theorem dJ0c_12 : decode cJ0c 12 = .ok (.invokestatic 495, 3) := by decide +kernel
theorem dJ0c_15 : decode cJ0c 15 = .ok (.ireturn, 1) := by decide +kernel
theorem dJ0c_16 : decode cJ0c 16 = .ok (.aload_n 0, 1) := by decide +kernel
theorem dJ0c_17 : decode cJ0c 17 = .ok (.getfield 9, 3) := by decide +kernel
theorem dJ0c_20 : decode cJ0c 20 = .ok (.iload_n 1, 1) := by decide +kernel
theorem dJ0c_21 : decode cJ0c 21 = .ok (.invokestatic 498, 3) := by decide +kernel
theorem dJ0c_24 : decode cJ0c 24 = .ok (.ireturn, 1) := by decide +kernel
theorem dJ0l_0 : decode cJ0l 0 = .ok (.getstatic 38, 3) := by decide +kernel
theorem dJ0l_3 : decode cJ0l 3 = .ok (.ifCond .eq 14, 3) := by decide +kernel
theorem dJ0l_6 : decode cJ0l 6 = .ok (.aload_n 0, 1) := by decide +kernel
theorem dJ0l_7 : decode cJ0l 7 = .ok (.getfield 15, 3) := by decide +kernel
theorem dJ0l_10 : decode cJ0l 10 = .ok (.ifCond .ne 7, 3) := by decide +kernel
theorem dJ0l_13 : decode cJ0l 13 = .ok (.iconst 1, 1) := by decide +kernel
theorem dJ0l_14 : decode cJ0l 14 = .ok (.goto 4, 3) := by decide +kernel
theorem dJ0l_17 : decode cJ0l 17 = .ok (.iconst 0, 1) := by decide +kernel
theorem dJ0l_18 : decode cJ0l 18 = .ok (.ireturn, 1) := by decide +kernel
theorem dJ0x_0 : decode cJ0x 0 = .ok (.iload_n 0, 1) := by decide +kernel
theorem dJ0x_1 : decode cJ0x 1 = .ok (.iload_n 1, 1) := by decide +kernel
theorem dJ0x_2 : decode cJ0x 2 = .ok (.getstatic 1053, 3) := by decide +kernel
theorem dJ0x_5 : decode cJ0x 5 = .ok (.invokestatic 1059, 3) := by decide +kernel
theorem dJ0x_8 : decode cJ0x 8 = .ok (.pop, 1) := by decide +kernel
theorem dJ0x_9 : decode cJ0x 9 = .ok (.return_, 1) := by decide +kernel
theorem dJ1c_0 : decode cJ1c 0 = .ok (.iload_n 1, 1) := by decide +kernel
theorem dJ1c_1 : decode cJ1c 1 = .ok (.aload_n 0, 1) := by decide +kernel
theorem dJ1c_2 : decode cJ1c 2 = .ok (.arraylength, 1) := by decide +kernel
theorem dJ1c_3 : decode cJ1c 3 = .ok (.invokestatic 9, 3) := by decide +kernel
theorem dJ1c_6 : decode cJ1c 6 = .ok (.aload_n 0, 1) := by decide +kernel
theorem dJ1c_7 : decode cJ1c 7 = .ok (.iload_n 1, 1) := by decide +kernel
theorem dJ1c_8 : decode cJ1c 8 = .ok (.baload, 1) := by decide +kernel
theorem dJ1c_9 : decode cJ1c 9 = .ok (.sipush 255, 3) := by decide +kernel
theorem dJ1c_12 : decode cJ1c 12 = .ok (.iand, 1) := by decide +kernel
theorem dJ1c_13 : decode cJ1c 13 = .ok (.i2c, 1) := by decide +kernel
theorem dJ1c_14 : decode cJ1c 14 = .ok (.ireturn, 1) := by decide +kernel
theorem dJ3x_0 : decode cJ3x 0 = .ok (.iload_n 0, 1) := by decide +kernel
theorem dJ3x_1 : decode cJ3x 1 = .ok (.ifCond .lt 8, 3) := by decide +kernel
theorem dJ3x_4 : decode cJ3x 4 = .ok (.iload_n 0, 1) := by decide +kernel
theorem dJ3x_5 : decode cJ3x 5 = .ok (.iload_n 1, 1) := by decide +kernel
theorem dJ3x_6 : decode cJ3x 6 = .ok (.if_icmp .lt 10, 3) := by decide +kernel
theorem dJ3x_9 : decode cJ3x 9 = .ok (.aload_n 2, 1) := by decide +kernel
theorem dJ3x_10 : decode cJ3x 10 = .ok (.iload_n 0, 1) := by decide +kernel
theorem dJ3x_11 : decode cJ3x 11 = .ok (.iload_n 1, 1) := by decide +kernel
theorem dJ3x_12 : decode cJ3x 12 = .ok (.invokestatic 95, 3) := by decide +kernel
theorem dJ3x_15 : decode cJ3x 15 = .ok (.athrow, 1) := by decide +kernel
theorem dJ3x_16 : decode cJ3x 16 = .ok (.iload_n 0, 1) := by decide +kernel
theorem dJ3x_17 : decode cJ3x 17 = .ok (.ireturn, 1) := by decide +kernel
def kwB : List Int32 := [103, 111, 111, 100, 32, 32, 119, 111, 114, 107, 32, 32, 116, 97, 107, 101, 115, 32, 103, 105, 118, 101, 115, 32, 109, 97, 107, 101, 115, 32, 102, 101, 101, 100, 115, 32, 106, 111, 105, 110, 101, 100, 115, 116, 111, 112, 115, 32, 98, 114, 105, 110, 103, 115, 111, 114, 32, 32, 32, 32, 97, 110, 100, 32, 32, 32, 110, 111, 116, 32, 32, 32, 119, 97, 110, 116, 115, 32, 108, 101, 116, 115, 32, 32, 102, 105, 110, 100, 115, 32, 119, 101, 110, 116, 32, 32, 115, 116, 111, 111, 100, 32, 109, 97, 100, 101, 32, 32, 112, 108, 97, 99, 101, 32]
abbrev kwTx : String := "good  work  takes gives makes feeds joinedstops bringsor    and   not   wants lets  finds went  stood made  place "
theorem kw_b : ∀ k, k < 114 → (((kwB.getD k 0) &&& 255).toUInt32 % 65536).toInt32 = kwB.getD k 0 ∧ narrow .char (.int (kwB.getD k 0)) = .int (kwB.getD k 0) := by decide +kernel
abbrev sNo : Nat → Prop := fun _ => False
/-- what is known of the text -/
def mSx (ak av : Nat) (A : Nat → Prop) (U : State) (H : Heap) : Prop := va_Z "java/lang/String" "COMPACT_STRINGS" "Z" (.int 1) A U H ∧ va_O "java/lang/String" ak A U H ∧ va_OF "java/lang/String" "coder" "B" (.int 0) ak A U H ∧ va_OF "java/lang/String" "value" "[B" (.ref av) ak A U H ∧ va_T .byte av 114 (fun j => .int (kwB.getD j 0)) A U H ∧ va_Zq "jdk/internal/util/Preconditions" "SIOOBE_FORMATTER" "Ljava/util/function/BiFunction;" A U H ∧ vk_R RX6 20 kwTx ak U
theorem mSx_move {ak av : Nat} {A B : Nat → Prop} {s U : State} {H H1 : Heap} (h : mSx ak av A s H) (hW : s.WarmedH U.vm) (hq : ∀ a : Nat, a < H.size → ¬ A a → H1[a]? = H[a]?) (hAB : ∀ q, B q → A q) : mSx ak av B U H1 :=
  ⟨va_Z.narrow (va_Z.moved hW.alike (va_Z.kept h.1 hq)) hAB, va_O.narrow (va_O.moved hW.alike (va_O.kept h.2.1 hq)) hAB, va_OF.narrow (va_OF.moved hW.alike (va_OF.kept h.2.2.1 hq)) hAB, va_OF.narrow (va_OF.moved hW.alike (va_OF.kept h.2.2.2.1 hq)) hAB, va_T.narrow (va_T.moved hW.alike (va_T.kept h.2.2.2.2.1 hq)) hAB, va_Zq.narrow (va_Zq.moved hW.alike (va_Zq.kept h.2.2.2.2.2.1 hq)) hAB, vk_R.warm hW h.2.2.2.2.2.2⟩
theorem mSx_blind {ak av : Nat} {as : List Value} : FrameBlind (va_Pc as (fun U => mSx ak av sNo U U.heap)) := by
  intro a' U g mk hq
  exact ⟨hq.1, mSx_move (U := U.calling g mk a') hq.2 (State.WarmedH.refl U) (fun _ _ _ => rfl) (fun _ h => h)⟩
abbrev qJ (v : Int32) : Array Value → State → Outcome → State → Prop := va_Qi (S := Unit) (fun r _ => r = v) (fun _ _ => True) sNo
theorem good_S {own : String} {idx mx : Nat} {y : MethodName} {cc : ByteArray} {rt : Option FieldType} (h1 : Cond.methodLink own idx y ∈ mTb) (h2 : Cond.static y ∈ mTb) (h3 : Cond.initialized y.cls ∈ mTb) (h4 : Cond.code y cc mx rt ∈ mTb) : GoodIn mTb (va_wsS own idx y (Cond.code y cc mx rt :: mTb)) := by
  intro w hw
  unfold va_wsS at hw
  rcases List.mem_append.mp hw with z | z
  · simp only [List.mem_cons, List.not_mem_nil, or_false] at z
    rcases z with rfl | rfl | rfl
    · exact ⟨h1, mTb_good h1⟩
    · exact ⟨h2, mTb_good h2⟩
    · exact ⟨h3, mTb_good h3⟩
  · rcases List.mem_cons.mp z with rfl | z
    · exact ⟨h4, mTb_good h4⟩
    · exact ⟨z, mTb_good z⟩
theorem wJ3x : Cond.methodLink "java/lang/String" 1059 yJ3x ∈ mTb ∧ Cond.static yJ3x ∈ mTb ∧ Cond.initialized yJ3x.cls ∈ mTb ∧ Cond.code yJ3x cJ3x 3 (some .int) ∈ mTb ∧ Cond.fieldLink "java/lang/String" 1053 "jdk/internal/util/Preconditions" "SIOOBE_FORMATTER" "Ljava/util/function/BiFunction;" ∈ mTb := by decide +kernel
theorem wJ0x : Cond.methodLink "java/lang/StringLatin1" 9 yJ0x ∈ mTb ∧ Cond.static yJ0x ∈ mTb ∧ Cond.initialized yJ0x.cls ∈ mTb ∧ Cond.code yJ0x cJ0x 2 none ∈ mTb := by decide +kernel
theorem wJ1c : Cond.methodLink "java/lang/String" 495 yJ1c ∈ mTb ∧ Cond.static yJ1c ∈ mTb ∧ Cond.initialized yJ1c.cls ∈ mTb ∧ Cond.code yJ1c cJ1c 2 (some .char) ∈ mTb := by decide +kernel
theorem wJ0l : Cond.methodLink "java/lang/String" 492 yJ0l ∈ mTb ∧ Cond.instanceMethod yJ0l ∈ mTb ∧ Cond.selects "java/lang/String" yJ0l yJ0l ∈ mTb ∧ Cond.initialized yJ0l.cls ∈ mTb ∧ Cond.code yJ0l cJ0l 1 (some .boolean) ∈ mTb ∧ Cond.fieldLink "java/lang/String" 38 "java/lang/String" "COMPACT_STRINGS" "Z" ∈ mTb ∧ Cond.fieldLink "java/lang/String" 15 "java/lang/String" "coder" "B" ∈ mTb ∧ Cond.fieldLink "java/lang/String" 9 "java/lang/String" "value" "[B" ∈ mTb := by decide +kernel
theorem wJ0c : Cond.methodLink RX6 22 yJ0c ∈ mTb ∧ Cond.instanceMethod yJ0c ∈ mTb ∧ Cond.selects "java/lang/String" yJ0c yJ0c ∈ mTb ∧ Cond.initialized yJ0c.cls ∈ mTb ∧ Cond.code yJ0c cJ0c 2 (some .char) ∈ mTb := by decide +kernel
theorem good_W {own : String} {idx mx : Nat} {y : MethodName} {cc : ByteArray} {rt : Option FieldType} (h1 : Cond.methodLink own idx y ∈ mTb) (h2 : Cond.instanceMethod y ∈ mTb) (h3 : Cond.selects y.cls y y ∈ mTb) (h5 : Cond.initialized y.cls ∈ mTb) (h4 : Cond.code y cc mx rt ∈ mTb) : GoodIn mTb (wsV own idx y.cls y (Cond.code y cc mx rt :: mTb)) := by
  intro w hw
  unfold wsV at hw
  rcases List.mem_append.mp hw with z | z
  · simp only [List.mem_cons, List.not_mem_nil, or_false] at z
    rcases z with rfl | rfl | rfl | rfl
    · exact ⟨h1, mTb_good h1⟩
    · exact ⟨h2, mTb_good h2⟩
    · exact ⟨h3, mTb_good h3⟩
    · exact ⟨h5, mTb_good h5⟩
  · rcases List.mem_cons.mp z with rfl | z
    · exact ⟨h4, mTb_good h4⟩
    · exact ⟨z, mTb_good z⟩
section MJ
variable {l : Launch} {ak av k n : Nat}
theorem c_J3x {v3 : Value} (hv : v3 = .null ∨ ∃ t, v3 = .ref t) (hk : k < n) (hn : n < 2 ^ 31) : Met l yJ3x (Cond.code yJ3x cJ3x 3 (some .int) :: mTb) (rmC 1 0 0) (va_Pc [.int (nI k), .int (nI n), v3] (fun _ => True)) (qJ (nI k)) 0 0 sNo := by
  refine Met.ofW (cc := cJ3x) (maxL := 3) (ret := some .int) (by decide) rfl ?_
  intro p e s m args below meth c s₁ B hml hv9
  obtain ⟨rfl, -⟩ := hv9
  have hx := B.exec
  have hb := B.bytes
  have hr := B.returns
  have hlocks := B.notSynchronized
  have hlen : (lg_sl ([.int (nI k), .int (nI n), v3])).length ≤ 3 := by
    rcases hv with rfl | ⟨t, rfl⟩ <;> exact Nat.le_of_ble_eq_true rfl
  have hl := lv_entry ([.int (nI k), .int (nI n), v3]) (n := 3) hlen
  rw [lg_entry_eq]
  generalize (lg_sl ([.int (nI k), .int (nI n), v3]) ++ List.replicate (3 - (lg_sl ([.int (nI k), .int (nI n), v3])).length) Slot.unset).toArray = ls at hl ⊢
  have h0 : ls[0]? = some (.val (.int (nI k))) := lv_at hl 0 rfl
  have h1 : ls[1]? = some (.val (.int (nI n))) := lv_at hl 1 rfl
  refine lv_iload_n hx hb dJ3x_0 rfl h0 ?_
  refine lv_if_lt (tgt := 9) hx hb dJ3x_1 (by decide) (fun z => absurd z (nI_pos (by omega))) (fun _ => ?_)
  refine lv_iload_n hx hb dJ3x_4 rfl h0 ?_
  refine lv_iload_n hx hb dJ3x_5 rfl h1 ?_
  refine lv_icmp_lt (tgt := 16) hx hb dJ3x_6 (by decide) (fun _ => ?_) (fun z => absurd (nI_lt hk hn) z)
  refine lv_iload_n hx hb dJ3x_16 rfl h0 ?_
  exact W.iret (v := nI k) hx hb hr (fun t ht hW => ⟨⟨nI k, (), rfl, rfl, trivial⟩, by rw [ht]; exact Nat.le_refl _, fun q _ _ => by rw [ht]⟩) (fun _ h => by cases h) dJ3x_17 hlocks
theorem c_J0x (hk : k < n) (hn : n < 2 ^ 31) : Met l yJ0x (Cond.code yJ0x cJ0x 2 none :: mTb) (rmC 2 0 0) (va_Pc [.int (nI k), .int (nI n)] (fun U => mSx ak av sNo U U.heap)) (va_Qv (S := Unit) (fun _ => True) (fun _ _ => True) sNo) 0 0 sNo := by
  refine Met.ofW (cc := cJ0x) (maxL := 2) (ret := none) (by decide) rfl ?_
  intro p e s m args below meth c s₁ B hml hv9
  obtain ⟨rfl, hM⟩ := hv9
  have hx := B.exec
  have hb := B.bytes
  have hr := B.returns
  have hlocks := B.notSynchronized
  have hts0 := atoms_spec (ws := Cond.code yJ0x cJ0x 2 none :: mTb) B.pre
  have hts : ∀ w ∈ mTb, w.before _ s = true := fun w hw => hts0 w (List.mem_cons_of_mem _ hw)
  have hown : s.vm.findClass "java/lang/String" = some m.cls := findClass_of_methodNamed B.named
  have hl := lv_entry ([.int (nI k), .int (nI n)]) (n := 2) (Nat.le_of_ble_eq_true rfl)
  rw [lg_entry_eq]
  generalize (lg_sl ([.int (nI k), .int (nI n)]) ++ List.replicate (2 - (lg_sl ([.int (nI k), .int (nI n)])).length) Slot.unset).toArray = ls at hl ⊢
  have hl : lv_has ls 2 [(0, .int (nI k)), (1, .int (nI n))] := hl
  have hS : va_S sNo s.heap s.heap [] := va_S.rf
  refine lv_iload_n hx hb dJ0x_0 rfl (lv_at hl 0 rfl) ?_
  refine lv_iload_n hx hb dJ0x_1 rfl (lv_at hl 1 rfl) ?_
  have key : ∀ v3 : Value, (v3 = .null ∨ ∃ t, v3 = .ref t) → W p l e (headSpec (Cond.code yJ0x cJ0x 2 none :: mTb) (rmC 2 0 0)).room s m [Value.int (nI k), Value.int (nI n)].toArray below meth c s.heap [] 0 0 (MQ below (va_Qv (S := Unit) (fun _ => True) (fun _ _ => True) sNo) [Value.int (nI k), Value.int (nI n)].toArray s 0 0 sNo) (F0 m 5 ls [v3, .int (nI n), .int (nI k)]) := by
    intro v3 hv3
    refine va_calli (va_runS (Ts := mTb) (own := "java/lang/String") (y := yJ3x) (As := [.int (nI k), .int (nI n), v3]) (rest := []) ⟨hx, hb, hml, hown, hts⟩ (c_J3x hv3 hk hn) (va_cwS 3 hts (good_S wJ3x.1 wJ3x.2.1 wJ3x.2.2.1 wJ3x.2.2.2.1) rfl rfl rfl (by decide +kernel) ⟨Nat.le_of_ble_eq_true rfl, Nat.le_of_ble_eq_true rfl⟩) ⟨fun a U g mk q => q, fun U hU hW => ⟨rfl, trivial⟩⟩ rfl rfl hl.1 rfl (lv_room (Nat.le_of_ble_eq_true rfl)) dJ0x_5 ⟨Nat.le_refl _, Nat.le_refl _⟩) hS (fun q _ z => z.elim) (fun q z => z.elim) (fun r u t H1 locs1 ht hvm hw hB hz hk1 hS1 => ?_)
    refine lv_pop hx hb dJ0x_8 rfl ?_
    exact W.vret hx hb hr (fun t ht hW => ⟨⟨(), rfl, trivial, trivial⟩, hS1.F ht⟩) hS1.2.2 dJ0x_9 hlocks
  rcases hM.2.2.2.2.2.1 with hz | ⟨t, hz⟩
  · exact va_gets hx hb hz hS hown (hts _ wJ3x.2.2.2.2) (fun _ h9 => h9) dJ0x_2 (key _ (Or.inl rfl))
  · exact va_gets hx hb hz hS hown (hts _ wJ3x.2.2.2.2) (fun _ h9 => h9) dJ0x_2 (key _ (Or.inr ⟨t, rfl⟩))
theorem c_J1c (hk : k < 114) : Met l yJ1c (Cond.code yJ1c cJ1c 2 (some .char) :: mTb) (rmC 3 0 0) (va_Pc [.ref av, .int (nI k)] (fun U => mSx ak av sNo U U.heap)) (qJ (kwB.getD k 0)) 0 0 sNo := by
  refine Met.ofW (cc := cJ1c) (maxL := 2) (ret := some .char) (by decide) rfl ?_
  intro p e s m args below meth c s₁ B hml hv9
  obtain ⟨rfl, hM⟩ := hv9
  have hx := B.exec
  have hb := B.bytes
  have hr := B.returns
  have hlocks := B.notSynchronized
  have hts0 := atoms_spec (ws := Cond.code yJ1c cJ1c 2 (some .char) :: mTb) B.pre
  have hts : ∀ w ∈ mTb, w.before _ s = true := fun w hw => hts0 w (List.mem_cons_of_mem _ hw)
  have hown : s.vm.findClass "java/lang/StringLatin1" = some m.cls := findClass_of_methodNamed B.named
  have hl := lv_entry ([.ref av, .int (nI k)]) (n := 2) (Nat.le_of_ble_eq_true rfl)
  rw [lg_entry_eq]
  generalize (lg_sl ([.ref av, .int (nI k)]) ++ List.replicate (2 - (lg_sl ([.ref av, .int (nI k)])).length) Slot.unset).toArray = ls at hl ⊢
  have hl : lv_has ls 2 [(0, .ref av), (1, .int (nI k))] := hl
  have hS : va_S sNo s.heap s.heap [] := va_S.rf
  have hT := hM.2.2.2.2.1
  obtain ⟨b1, b2⟩ := kw_b k hk
  refine lv_iload_n hx hb dJ1c_0 rfl (lv_at hl 1 rfl) ?_
  refine lv_aload_n hx hb dJ1c_1 rfl (lv_at hl 0 rfl) ?_
  refine va_tlen hx hb hT hS (v := nI 114) rfl dJ1c_2 ?_
  refine va_callv (va_runS (Ts := mTb) (own := "java/lang/StringLatin1") (y := yJ0x) (As := [.int (nI k), .int (nI 114)]) (rest := []) ⟨hx, hb, hml, hown, hts⟩ (c_J0x (ak := ak) (av := av) hk (by decide)) (va_cwS 2 hts (good_S wJ0x.1 wJ0x.2.1 wJ0x.2.2.1 wJ0x.2.2.2) rfl rfl rfl (by decide +kernel) ⟨Nat.le_of_ble_eq_true rfl, Nat.le_of_ble_eq_true rfl⟩) ⟨mSx_blind, fun U hU hW => ⟨rfl, mSx_move hM hW (fun _ _ _ => by rw [hU]) (fun _ h => h)⟩⟩ rfl rfl hl.1 rfl (lv_room (Nat.le_of_ble_eq_true rfl)) dJ1c_3 ⟨Nat.le_refl _, Nat.le_refl _⟩) hS (fun q _ z => z.elim) (fun q z => z.elim) (fun u t H1 locs1 ht hvm hw hB hz hk1 hS1 => ?_)
  refine lv_aload_n hx hb dJ1c_6 rfl (lv_at hl 0 rfl) ?_
  refine lv_iload_n hx hb dJ1c_7 rfl (lv_at hl 1 rfl) ?_
  refine va_tb hx hb hT hS1 (vp_in_nI hk (by decide)) (v := .int (kwB.getD k 0)) (by rw [nI_clamp (by omega)]) dJ1c_8 ?_
  refine lv_sipush (v := 255) hx hb dJ1c_9 (by decide) ?_
  refine lv_iand hx hb dJ1c_12 ?_
  refine lv_i2c hx hb dJ1c_13 b1 ?_
  exact W.zret (v := kwB.getD k 0) hx hb hr b2 (fun t ht hW => ⟨⟨_, (), rfl, rfl, trivial⟩, hS1.F ht⟩) hS1.2.2 dJ1c_14 hlocks
theorem c_J0l : Met l yJ0l (Cond.code yJ0l cJ0l 1 (some .boolean) :: mTb) (rmC 1 0 0) (va_Pc [.ref ak] (fun U => mSx ak av sNo U U.heap)) (qJ 1) 0 0 sNo := by
  refine Met.ofW (cc := cJ0l) (maxL := 1) (ret := some .boolean) (by decide) rfl ?_
  intro p e s m args below meth c s₁ B hml hv9
  obtain ⟨rfl, hM⟩ := hv9
  have hx := B.exec
  have hb := B.bytes
  have hr := B.returns
  have hlocks := B.notSynchronized
  have hts0 := atoms_spec (ws := Cond.code yJ0l cJ0l 1 (some .boolean) :: mTb) B.pre
  have hts : ∀ w ∈ mTb, w.before _ s = true := fun w hw => hts0 w (List.mem_cons_of_mem _ hw)
  have hown : s.vm.findClass "java/lang/String" = some m.cls := findClass_of_methodNamed B.named
  have hl := lv_entry ([.ref ak]) (n := 1) (Nat.le_of_ble_eq_true rfl)
  rw [lg_entry_eq]
  generalize (lg_sl ([.ref ak]) ++ List.replicate (1 - (lg_sl ([.ref ak])).length) Slot.unset).toArray = ls at hl ⊢
  have hl : lv_has ls 1 [(0, .ref ak)] := hl
  have hS : va_S sNo s.heap s.heap [] := va_S.rf
  refine va_gets hx hb hM.1 hS hown (hts _ wJ0l.2.2.2.2.2.1) (fun _ h9 => h9) dJ0l_0 ?_
  refine lv_if_eq (tgt := 17) hx hb dJ0l_3 (by decide) (fun z => absurd z (by decide)) (fun _ => ?_)
  refine lv_aload_n hx hb dJ0l_6 rfl (lv_at hl 0 rfl) ?_
  refine vk_getf hx hb hM.2.2.1 hS hown (hts _ wJ0l.2.2.2.2.2.2.1) (fun _ h9 => h9) dJ0l_7 ?_
  refine lv_if_ne (tgt := 17) hx hb dJ0l_10 (by decide) (fun z => absurd rfl z) (fun _ => ?_)
  refine lv_iconst (v := 1) hx hb dJ0l_13 (by decide) ?_
  refine lv_goto (tgt := 18) hx hb dJ0l_14 (by decide) ?_
  exact W.zret (v := 1) hx hb hr (by decide) (fun t ht hW => ⟨⟨1, (), rfl, rfl, trivial⟩, hS.F ht⟩) hS.2.2 dJ0l_18 hlocks
theorem c_J0c (hk : k < 114) : Met l yJ0c (Cond.code yJ0c cJ0c 2 (some .char) :: mTb) (rmC 4 0 0) (va_Pc [.ref ak, .int (nI k)] (fun U => mSx ak av sNo U U.heap)) (qJ (kwB.getD k 0)) 0 0 sNo := by
  refine Met.ofW (cc := cJ0c) (maxL := 2) (ret := some .char) (by decide) rfl ?_
  intro p e s m args below meth c s₁ B hml hv9
  obtain ⟨rfl, hM⟩ := hv9
  have hx := B.exec
  have hb := B.bytes
  have hr := B.returns
  have hlocks := B.notSynchronized
  have hts0 := atoms_spec (ws := Cond.code yJ0c cJ0c 2 (some .char) :: mTb) B.pre
  have hts : ∀ w ∈ mTb, w.before _ s = true := fun w hw => hts0 w (List.mem_cons_of_mem _ hw)
  have hown : s.vm.findClass "java/lang/String" = some m.cls := findClass_of_methodNamed B.named
  have hl := lv_entry ([.ref ak, .int (nI k)]) (n := 2) (Nat.le_of_ble_eq_true rfl)
  rw [lg_entry_eq]
  generalize (lg_sl ([.ref ak, .int (nI k)]) ++ List.replicate (2 - (lg_sl ([.ref ak, .int (nI k)])).length) Slot.unset).toArray = ls at hl ⊢
  have hl : lv_has ls 2 [(0, .ref ak), (1, .int (nI k))] := hl
  have hS : va_S sNo s.heap s.heap [] := va_S.rf
  obtain ⟨b1, b2⟩ := kw_b k hk
  obtain ⟨cell, g1, g2, g3, -⟩ := id hM.2.1
  refine lv_aload_n hx hb dJ0c_0 rfl (lv_at hl 0 rfl) ?_
  refine va_calli (va_runV (Ts := mTb) (own := "java/lang/String") (C := "java/lang/String") (y := yJ0l) (b := ak) (As := []) (rest := []) ⟨hx, hb, hml, hown, hts⟩ (c_J0l (ak := ak) (av := av)) (cwV 0 hts (good_W wJ0l.1 wJ0l.2.1 wJ0l.2.2.1 wJ0l.2.2.2.1 wJ0l.2.2.2.2.1) rfl rfl rfl (by decide +kernel) ⟨Nat.le_of_ble_eq_true rfl, Nat.le_of_ble_eq_true rfl⟩) ⟨mSx_blind, ⟨cell, g1, g2, g3⟩, fun U hU hW => ⟨rfl, mSx_move hM hW (fun _ _ _ => by rw [hU]) (fun _ h => h)⟩⟩ rfl rfl hl.1 rfl (lv_room (Nat.le_of_ble_eq_true rfl)) dJ0c_1 ⟨Nat.le_refl _, Nat.le_refl _⟩) hS (fun q _ z => z.elim) (fun q z => z.elim) (fun r u t H1 locs1 ht hvm hw hB hz hk1 hS1 => ?_)
  subst hw
  refine lv_if_eq (tgt := 16) hx hb dJ0c_4 (by decide) (fun z => absurd z (by decide)) (fun _ => ?_)
  refine lv_aload_n hx hb dJ0c_7 rfl (lv_at hl 0 rfl) ?_
  refine vk_getf hx hb hM.2.2.2.1 hS1 hown (hts _ wJ0l.2.2.2.2.2.2.2) (fun _ h9 => h9) dJ0c_8 ?_
  refine lv_iload_n hx hb dJ0c_11 rfl (lv_at hl 1 rfl) ?_
  refine va_calli (va_runS (Ts := mTb) (own := "java/lang/String") (y := yJ1c) (As := [.ref av, .int (nI k)]) (rest := []) ⟨hx, hb, hml, hown, hts⟩ (c_J1c (ak := ak) (av := av) hk) (va_cwS 2 hts (good_S wJ1c.1 wJ1c.2.1 wJ1c.2.2.1 wJ1c.2.2.2) rfl rfl rfl (by decide +kernel) ⟨Nat.le_of_ble_eq_true rfl, Nat.le_of_ble_eq_true rfl⟩) ⟨mSx_blind, fun U hU hW => ⟨rfl, mSx_move hM hW (by rw [hU]; exact hS1.2.1) (fun _ h => h)⟩⟩ rfl rfl hl.1 rfl (lv_room (Nat.le_of_ble_eq_true rfl)) dJ0c_12 ⟨Nat.le_refl _, Nat.le_refl _⟩) hS1 (fun q _ z => z.elim) (fun q z => z.elim) (fun r u2 t2 H2 locs2 ht2 hvm2 hw2 hB2 hz2 hk2 hS2 => ?_)
  subst hw2
  exact W.zret (v := kwB.getD k 0) hx hb hr b2 (fun t ht hW => ⟨⟨_, (), rfl, rfl, trivial⟩, hS2.F ht⟩) hS2.2.2 dJ0c_15 hlocks
end MJ

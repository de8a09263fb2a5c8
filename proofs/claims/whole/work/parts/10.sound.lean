section MMB
variable {X : mC} {P : mP} {M h : Nat} {K : MV → Mem → Prop} {J : mJ}
theorem take_rev {b : Nat} (st : List MV) : (st.take b).reverse.reverse ++ st.drop b = st := by rw [List.reverse_reverse, List.take_append_drop]
theorem swt_mono {x : Int32} {J J2 : Nat → Prop} (hj : ∀ t, J t → J2 t) : ∀ {ts : List Nat} {lo : Nat}, swt x lo ts J → swt x lo ts J2 := by
  intro ts
  induction ts with
  | nil => intro lo _; trivial
  | cons t ts ih => intro lo hs; exact ⟨fun z => hj t (hs.1 z), ih hs.2⟩
theorem lkw_mono {x : Int32} {J J2 : Nat → Prop} {D D2 : Prop} (hj : ∀ t, J t → J2 t) (hd : D → D2) {ts : List Nat} (hs : lkw x ts J D) : lkw x ts J2 D2 := by
  fun_induction lkw x ts J D with
  | case1 k t ts J D ih => exact ⟨fun z => hj t (hs.1 z), fun z => ih hj hd (hs.2 z)⟩
  | case2 ts J D h1 => unfold lkw; split <;> first | exact hd hs | (exfalso; exact h1 _ _ _ rfl)
set_option maxHeartbeats 4000000 in
theorem bb_sound (hP : mPok X P h) (hJ : ∀ t ls st μ, J t ls st μ → mAt X M h K t ls st μ) : ∀ (cs : List mE), mOkF M cs = true → ∀ (q : Nat) (i : Instr) (len a b c : Nat) (v : MV) (ts : List Nat) (cs' : List mE), cs = (q, i, len, a, b, c, v, ts) :: cs' → ∀ (ls : List (Nat × MV)) (st : List MV) (μ : Mem), bb X P M h K J cs ls st μ → mAt X M h K q ls st μ := by
  intro cs
  induction cs with
  | nil => intro _ q i len a b c v ts cs' he; cases he
  | cons e0 cs ih =>
    intro hok q i len a b c v ts cs1 he ls st μ hbb
    cases he
    have hok2 : (mChk M (q, i, len, a, b, c, v, ts) && (mNf i || mNx cs (q + len)) && mOkF M cs) = true := hok
    rw [Bool.and_eq_true, Bool.and_eq_true] at hok2
    obtain ⟨⟨hchk, hfall⟩, hrest⟩ := hok2
    have nx : mNf i = false → ∀ ls st μ, bb X P M h K J cs ls st μ → mAt X M h K (q + len) ls st μ := by
      intro hnf ls st μ hb
      rw [hnf, Bool.false_or] at hfall
      cases cs with
      | nil => exact hb.elim
      | cons e1 cs2 =>
        obtain ⟨q', i', len', a', b', c', v', ts'⟩ := e1
        have hq : q' = q + len := decide_eq_true_eq.mp hfall
        rw [← hq]
        exact ih hrest q' i' len' a' b' c' v' ts' cs2 rfl ls st μ hb
    clear ih hfall hrest hok
    unfold mChk at hchk
    unfold bb at hbb
    rw [Bool.and_eq_true, decide_eq_true_eq] at hchk
    obtain ⟨hdg, hch⟩ := hchk
    cases i
    case iconst n =>
      simp only [Bool.and_eq_true, decide_eq_true_eq] at hch
      obtain ⟨rfl, rfl⟩ := hch
      exact at_iconst hdg (nx rfl _ _ _ hbb)
    case bipush n =>
      simp only [Bool.and_eq_true, decide_eq_true_eq] at hch
      obtain ⟨rfl, rfl⟩ := hch
      exact at_bipush hdg (nx rfl _ _ _ hbb)
    case sipush n =>
      simp only [Bool.and_eq_true, decide_eq_true_eq] at hch
      obtain ⟨rfl, rfl⟩ := hch
      exact at_sipush hdg (nx rfl _ _ _ hbb)
    case lconst n =>
      simp only [Bool.and_eq_true, decide_eq_true_eq] at hch
      obtain ⟨rfl, rfl⟩ := hch
      exact at_lconst hdg (nx rfl _ _ _ hbb)
    case ldc n =>
      rcases v with x | x
      · simp only [Bool.and_eq_true, decide_eq_true_eq] at hch
        obtain ⟨h1, rfl⟩ := hch
        exact at_ldc hdg (wAt_mem h1) (nx rfl _ _ _ hbb)
      · exact hbb
    case ldc_w n =>
      rcases v with x | x
      · simp only [Bool.and_eq_true, decide_eq_true_eq] at hch
        obtain ⟨h1, rfl⟩ := hch
        exact at_ldcw hdg (wAt_mem h1) (nx rfl _ _ _ hbb)
      · exact hbb
    case ldc2_w n =>
      rcases v with x | x | x
      · simp at hch
      · simp only [Bool.and_eq_true, decide_eq_true_eq] at hch
        obtain ⟨h1, rfl⟩ := hch
        exact at_ldc2 hdg (wAt_mem h1) (nx rfl _ _ _ hbb)
      · simp at hch
    case getstatic n =>
      simp only [Bool.and_eq_true, decide_eq_true_eq] at hch
      obtain ⟨⟨h1, rfl⟩, rfl⟩ := hch
      exact at_getstatic hdg (wAt_mem h1) (nx rfl _ _ _ hbb)
    case iload n =>
      simp only [Bool.and_eq_true, decide_eq_true_eq] at hch
      obtain ⟨rfl, rfl⟩ := hch
      simp only at hbb
      split at hbb
      · exact at_iload hdg (by assumption) (nx rfl _ _ _ hbb)
      · exact hbb.elim
    case lload n =>
      simp only [Bool.and_eq_true, decide_eq_true_eq] at hch
      obtain ⟨rfl, rfl⟩ := hch
      simp only at hbb
      split at hbb
      · exact at_lload hdg (by assumption) (nx rfl _ _ _ hbb)
      · exact hbb.elim
    case aload n =>
      simp only [Bool.and_eq_true, decide_eq_true_eq] at hch
      obtain ⟨rfl, rfl⟩ := hch
      simp only at hbb
      split at hbb
      · exact at_aload hdg (by assumption) (nx rfl _ _ _ hbb)
      · exact hbb.elim
    case iload_n n =>
      simp only [Bool.and_eq_true, decide_eq_true_eq] at hch
      obtain ⟨hn, rfl⟩ := hch
      simp only at hbb
      split at hbb
      · exact at_iload_n hdg hn (by assumption) (nx rfl _ _ _ hbb)
      · exact hbb.elim
    case lload_n n =>
      simp only [Bool.and_eq_true, decide_eq_true_eq] at hch
      obtain ⟨hn, rfl⟩ := hch
      simp only at hbb
      split at hbb
      · exact at_lload_n hdg hn (by assumption) (nx rfl _ _ _ hbb)
      · exact hbb.elim
    case aload_n n =>
      simp only [Bool.and_eq_true, decide_eq_true_eq] at hch
      obtain ⟨hn, rfl⟩ := hch
      simp only at hbb
      split at hbb
      · exact at_aload_n hdg hn (by assumption) (nx rfl _ _ _ hbb)
      · exact hbb.elim
    case istore n =>
      simp only [Bool.and_eq_true, decide_eq_true_eq] at hch
      obtain ⟨⟨rfl, rfl⟩, h3⟩ := hch
      simp only at hbb
      split at hbb
      · exact at_istore hdg h3 (nx rfl _ _ _ (hbb _ rfl))
      · exact hbb.elim
    case lstore n =>
      simp only [Bool.and_eq_true, decide_eq_true_eq] at hch
      obtain ⟨⟨rfl, rfl⟩, h3⟩ := hch
      simp only at hbb
      split at hbb
      · exact at_lstore hdg h3 (nx rfl _ _ _ (hbb _ rfl))
      · exact hbb.elim
    case astore n =>
      simp only [Bool.and_eq_true, decide_eq_true_eq] at hch
      obtain ⟨⟨rfl, rfl⟩, h3⟩ := hch
      simp only at hbb
      split at hbb
      · exact at_astore hdg h3 (nx rfl _ _ _ hbb)
      · exact hbb.elim
    case istore_n n =>
      simp only [Bool.and_eq_true, decide_eq_true_eq] at hch
      obtain ⟨⟨hn, rfl⟩, h3⟩ := hch
      simp only at hbb
      split at hbb
      · exact at_istore_n hdg hn h3 (nx rfl _ _ _ (hbb _ rfl))
      · exact hbb.elim
    case lstore_n n =>
      simp only [Bool.and_eq_true, decide_eq_true_eq] at hch
      obtain ⟨⟨hn, rfl⟩, h3⟩ := hch
      simp only at hbb
      split at hbb
      · exact at_lstore_n hdg hn h3 (nx rfl _ _ _ (hbb _ rfl))
      · exact hbb.elim
    case astore_n n =>
      simp only [Bool.and_eq_true, decide_eq_true_eq] at hch
      obtain ⟨⟨hn, rfl⟩, h3⟩ := hch
      simp only at hbb
      split at hbb
      · exact at_astore_n hdg hn h3 (nx rfl _ _ _ hbb)
      · exact hbb.elim
    case iinc n d =>
      simp only [Bool.and_eq_true, decide_eq_true_eq] at hch
      obtain ⟨⟨⟨rfl, rfl⟩, rfl⟩, h3⟩ := hch
      simp only at hbb
      split at hbb
      · rename_i x d2 hg hd2
        cases hd2
        exact at_iinc hdg rfl hg h3 (nx rfl _ _ _ (hbb _ rfl))
      · exact hbb.elim
    case getfield n =>
      simp only [Bool.and_eq_true, decide_eq_true_eq] at hch
      obtain ⟨h1, rfl⟩ := hch
      obtain ⟨r, t, g1, g2, g3, g4, g5, g6, g7, -⟩ := mLk_spec h1
      simp only at hbb
      split at hbb
      · rename_i c0 n0 i0 st2
        split at hbb
        · rename_i hc0
          subst hc0
          subst g5
          obtain ⟨t1, tc, tn, to⟩ := t
          split at hbb
          · rename_i v2 c1 n1 off hc3 
            have e := g6 hc3
            cases e
            have hc3' : t1 = 3 := hc3
            subst hc3'
            refine at_getf hdg g1 g2 g3 g4 g7 (w := .inr (.inr (tc, tn, i0 + to))) (fun hs => ?_) ?_ (nx rfl _ _ _ hbb)
            · obtain ⟨z1, z2, z3⟩ := mLay_f hs g7 g2 rfl
              exact mOk_cell z2 z3 z1
            · intro hs
              obtain ⟨z1, z2, z3⟩ := mLay_f hs g7 g2 rfl
              have z4 := (mTr_cell (X := X) (mOk_cell z2 z3 z1) z2 z3).2
              exact z4
          · rename_i hc3
            have hc3' : t1 = 1 := hc3
            subst hc3'
            exact at_getf hdg g1 g2 g3 g4 g7 (w := .inr (.inl (μ.2 i0 b))) (fun hs => trivial) (fun _ => rfl) (nx rfl _ _ _ hbb)
          · rename_i hc3
            have hc3' : t1 = 0 := hc3
            subst hc3'
            exact at_getf hdg g1 g2 g3 g4 g7 (w := .inl (μ.1 i0 b)) (fun hs => trivial) (fun _ => rfl) (nx rfl _ _ _ hbb)
          · rename_i hc3
            have hc3' : t1 = 2 := hc3
            subst hc3'
            exact at_getf hdg g1 g2 g3 g4 g7 (w := .inl (μ.1 i0 b)) (fun hs => trivial) (fun _ => rfl) (nx rfl _ _ _ hbb)
          · exact hbb.elim
        · exact hbb.elim
      · exact hbb.elim
    case putfield n =>
      simp only [Bool.and_eq_true, decide_eq_true_eq] at hch
      obtain ⟨h1, rfl⟩ := hch
      obtain ⟨r, t, g1, g2, g3, g4, g5, g6, g7, g8⟩ := mLk_spec h1
      obtain ⟨f1, f2, f3, f4⟩ := g8 rfl
      simp only at hbb
      subst g5
      obtain ⟨t1, tc, tn, to⟩ := t
      split at hbb
      · rename_i x c0 n0 i0 st2
        split at hbb
        · rename_i hc0
          subst hc0
          split at hbb
          · rename_i hc
            have hc' : t1 = 0 := hc
            subst hc'
            exact at_putf (w := .inl x) (μ' := upI μ i0 b x) hdg g1 g2 g3 g4 g7 f1 (f2 rfl) rfl rfl (by show Value.int x = Value.int (va_up μ.1 i0 (upd (μ.1 i0) b x) i0 b); rw [up_at]; unfold upd; rw [if_pos rfl]) (fun j hj => up_off j hj) (fun _ _ => rfl) (fun k hk => by show va_up μ.1 i0 (upd (μ.1 i0) b x) i0 k = _; rw [up_at]; exact upd_off k hk) (fun _ _ => rfl) (nx rfl _ _ _ hbb)
          · rename_i hc
            have hc' : t1 = 2 := hc
            subst hc'
            obtain ⟨hx, hbb⟩ := hbb
            exact at_putf (w := .inl x) (μ' := upI μ i0 b x) hdg g1 g2 g3 g4 g7 f1 (f4 rfl) (by rcases hx with rfl | rfl <;> rfl) (by rcases hx with rfl | rfl <;> rfl) (by show Value.int x = Value.int (va_up μ.1 i0 (upd (μ.1 i0) b x) i0 b); rw [up_at]; unfold upd; rw [if_pos rfl]) (fun j hj => up_off j hj) (fun _ _ => rfl) (fun k hk => by show va_up μ.1 i0 (upd (μ.1 i0) b x) i0 k = _; rw [up_at]; exact upd_off k hk) (fun _ _ => rfl) (nx rfl _ _ _ hbb)
          · exact hbb.elim
        · exact hbb.elim
      · rename_i x c0 n0 i0 st2
        split at hbb
        · rename_i hc0
          subst hc0
          split at hbb
          · rename_i hc
            have hc' : t1 = 1 := hc
            subst hc'
            exact at_putf (w := .inr (.inl x)) (μ' := upL μ i0 b x) hdg g1 g2 g3 g4 g7 f1 (f3 rfl) rfl rfl (by show Value.long x = Value.long (va_up μ.2 i0 (vp_updL (μ.2 i0) b x) i0 b); rw [up_at]; unfold vp_updL; rw [if_pos rfl]) (fun _ _ => rfl) (fun j hj => up_off j hj) (fun _ _ => rfl) (fun k hk => by show va_up μ.2 i0 (vp_updL (μ.2 i0) b x) i0 k = _; rw [up_at]; exact updL_off k hk) (nx rfl _ _ _ hbb)
          · exact hbb.elim
        · exact hbb.elim
      · exact hbb.elim
    case iaload =>
      simp only [decide_eq_true_eq] at hch
      subst hch
      simp only at hbb
      split at hbb
      · split at hbb
        · rename_i hc; subst hc
          obtain ⟨j, rfl, hj, hbb⟩ := hbb
          exact at_iald hdg hj (nx rfl _ _ _ hbb)
        · split at hbb
          · rename_i hc; subst hc
            obtain ⟨j, rfl, hj, hbb⟩ := hbb
            exact at_tald hdg hj (nx rfl _ _ _ hbb)
          · split at hbb
            · rename_i hc; subst hc
              obtain ⟨j, rfl, hj, hj2, hbb⟩ := hbb
              exact at_xald hdg hj hj2 (nx rfl _ _ _ hbb)
            · exact hbb.elim
      · exact hbb.elim
    case baload =>
      simp only [decide_eq_true_eq] at hch
      subst hch
      simp only at hbb
      split at hbb
      · split at hbb
        · rename_i hc; subst hc
          obtain ⟨j, rfl, hj, hbb⟩ := hbb
          exact at_zald hdg hj (nx rfl _ _ _ hbb)
        · exact hbb.elim
      · exact hbb.elim
    case laload =>
      simp only [decide_eq_true_eq] at hch
      subst hch
      simp only at hbb
      split at hbb
      · split at hbb
        · rename_i hc; subst hc
          obtain ⟨j, rfl, hj, hbb⟩ := hbb
          exact at_lald hdg hj (nx rfl _ _ _ hbb)
        · exact hbb.elim
      · exact hbb.elim
    case aaload =>
      simp only [decide_eq_true_eq] at hch
      subst hch
      simp only at hbb
      split at hbb
      · split at hbb
        · rename_i hc; subst hc
          obtain ⟨j, rfl, hj, hbb⟩ := hbb
          exact at_aald hdg hj (nx rfl _ _ _ hbb)
        · exact hbb.elim
      · exact hbb.elim
    case iastore =>
      simp only [decide_eq_true_eq] at hch
      subst hch
      simp only at hbb
      split at hbb
      · split at hbb
        · rename_i hc; subst hc
          obtain ⟨j, rfl, hj, hbb⟩ := hbb
          exact at_iast hdg hj (nx rfl _ _ _ hbb)
        · exact hbb.elim
      · exact hbb.elim
    case bastore =>
      simp only [decide_eq_true_eq] at hch
      subst hch
      simp only at hbb
      split at hbb
      · split at hbb
        · rename_i hc; subst hc
          obtain ⟨j, rfl, hj, hy, hbb⟩ := hbb
          exact at_zast hdg hj hy (nx rfl _ _ _ hbb)
        · exact hbb.elim
      · exact hbb.elim
    case lastore =>
      simp only [decide_eq_true_eq] at hch
      subst hch
      simp only at hbb
      split at hbb
      · split at hbb
        · rename_i hc; subst hc
          obtain ⟨j, rfl, hj, hbb⟩ := hbb
          exact at_last hdg hj (nx rfl _ _ _ hbb)
        · exact hbb.elim
      · exact hbb.elim
    case arraylength =>
      simp only [decide_eq_true_eq] at hch
      subst hch
      simp only at hbb
      split at hbb
      · split at hbb
        · rename_i hc; subst hc
          exact at_alen hdg (nx rfl _ _ _ hbb)
        · split at hbb
          · rename_i hc; subst hc
            exact at_xlen hdg (nx rfl _ _ _ hbb)
          · exact hbb.elim
      · exact hbb.elim
    case dup =>
      simp only [decide_eq_true_eq] at hch
      subst hch
      simp only at hbb
      split at hbb
      · split at hbb
        · exact at_dup hdg (by assumption) (nx rfl _ _ _ hbb)
        · exact hbb.elim
      · exact hbb.elim
    case dup2 =>
      simp only [decide_eq_true_eq] at hch
      subst hch
      simp only at hbb
      split at hbb
      · split at hbb
        · rename_i hc
          exact at_dup2 hdg hc.1 hc.2 (nx rfl _ _ _ hbb)
        · exact hbb.elim
      · exact hbb.elim
    case pop =>
      simp only [decide_eq_true_eq] at hch
      subst hch
      simp only at hbb
      split at hbb
      · split at hbb
        · exact at_pop hdg (by assumption) (nx rfl _ _ _ hbb)
        · exact hbb.elim
      · exact hbb.elim
    case iadd =>
      simp only [decide_eq_true_eq] at hch
      subst hch
      simp only at hbb
      split at hbb
      · exact at_iadd hdg (nx rfl _ _ _ hbb)
      · exact hbb.elim
    case isub =>
      simp only [decide_eq_true_eq] at hch
      subst hch
      simp only at hbb
      split at hbb
      · exact at_isub hdg (nx rfl _ _ _ hbb)
      · exact hbb.elim
    case imul =>
      simp only [decide_eq_true_eq] at hch
      subst hch
      simp only at hbb
      split at hbb
      · exact at_imul hdg (nx rfl _ _ _ hbb)
      · exact hbb.elim
    case iand =>
      simp only [decide_eq_true_eq] at hch
      subst hch
      simp only at hbb
      split at hbb
      · exact at_iand hdg (nx rfl _ _ _ hbb)
      · exact hbb.elim
    case ior =>
      simp only [decide_eq_true_eq] at hch
      subst hch
      simp only at hbb
      split at hbb
      · exact at_ior hdg (nx rfl _ _ _ hbb)
      · exact hbb.elim
    case ixor =>
      simp only [decide_eq_true_eq] at hch
      subst hch
      simp only at hbb
      split at hbb
      · exact at_ixor hdg (nx rfl _ _ _ hbb)
      · exact hbb.elim
    case ishl =>
      simp only [decide_eq_true_eq] at hch
      subst hch
      simp only at hbb
      split at hbb
      · exact at_ishl hdg (nx rfl _ _ _ hbb)
      · exact hbb.elim
    case ishr =>
      simp only [decide_eq_true_eq] at hch
      subst hch
      simp only at hbb
      split at hbb
      · exact at_ishr hdg (nx rfl _ _ _ hbb)
      · exact hbb.elim
    case iushr =>
      simp only [decide_eq_true_eq] at hch
      subst hch
      simp only at hbb
      split at hbb
      · exact at_iushr hdg (nx rfl _ _ _ hbb)
      · exact hbb.elim
    case ladd =>
      simp only [decide_eq_true_eq] at hch
      subst hch
      simp only at hbb
      split at hbb
      · exact at_ladd hdg (nx rfl _ _ _ hbb)
      · exact hbb.elim
    case lsub =>
      simp only [decide_eq_true_eq] at hch
      subst hch
      simp only at hbb
      split at hbb
      · exact at_lsub hdg (nx rfl _ _ _ hbb)
      · exact hbb.elim
    case lmul =>
      simp only [decide_eq_true_eq] at hch
      subst hch
      simp only at hbb
      split at hbb
      · exact at_lmul hdg (nx rfl _ _ _ hbb)
      · exact hbb.elim
    case lneg =>
      simp only [decide_eq_true_eq] at hch
      subst hch
      simp only at hbb
      split at hbb
      · exact at_lneg hdg (nx rfl _ _ _ hbb)
      · exact hbb.elim
    case lcmp =>
      simp only [decide_eq_true_eq] at hch
      subst hch
      simp only at hbb
      split at hbb
      · exact at_lcmp hdg (nx rfl _ _ _ hbb)
      · exact hbb.elim
    case i2l =>
      simp only [decide_eq_true_eq] at hch
      subst hch
      simp only at hbb
      split at hbb
      · exact at_i2l hdg (nx rfl _ _ _ hbb)
      · exact hbb.elim
    case l2i =>
      simp only [decide_eq_true_eq] at hch
      subst hch
      simp only at hbb
      split at hbb
      · exact at_l2i hdg (nx rfl _ _ _ hbb)
      · exact hbb.elim
    case idiv =>
      simp only [decide_eq_true_eq] at hch
      subst hch
      simp only at hbb
      split at hbb
      · exact at_idiv hdg hbb.1 (nx rfl _ _ _ hbb.2)
      · exact hbb.elim
    case irem =>
      simp only [decide_eq_true_eq] at hch
      subst hch
      simp only at hbb
      split at hbb
      · exact at_irem hdg hbb.1 (nx rfl _ _ _ hbb.2)
      · exact hbb.elim
    case ldiv =>
      simp only [decide_eq_true_eq] at hch
      subst hch
      simp only at hbb
      split at hbb
      · exact at_ldiv hdg hbb.1 (nx rfl _ _ _ hbb.2)
      · exact hbb.elim
    case lrem =>
      simp only [decide_eq_true_eq] at hch
      subst hch
      simp only at hbb
      split at hbb
      · exact at_lrem hdg hbb.1 (nx rfl _ _ _ hbb.2)
      · exact hbb.elim
    case ifCond cd o =>
      simp only [Bool.and_eq_true, decide_eq_true_eq] at hch
      obtain ⟨ht, rfl⟩ := hch
      simp only at hbb
      split at hbb
      · cases cd
        case eq => exact at_if_eq hdg ht (fun z => hJ _ _ _ _ (hbb.1 z)) (fun z => nx rfl _ _ _ (hbb.2 z))
        case ne => exact at_if_ne hdg ht (fun z => hJ _ _ _ _ (hbb.1 z)) (fun z => nx rfl _ _ _ (hbb.2 z))
        case lt => exact at_if_lt hdg ht (fun z => hJ _ _ _ _ (hbb.1 z)) (fun z => nx rfl _ _ _ (hbb.2 z))
        case ge => exact at_if_ge hdg ht (fun z => hJ _ _ _ _ (hbb.1 z)) (fun z => nx rfl _ _ _ (hbb.2 z))
        case gt => exact at_if_gt hdg ht (fun z => hJ _ _ _ _ (hbb.1 z)) (fun z => nx rfl _ _ _ (hbb.2 z))
        case le => exact at_if_le hdg ht (fun z => hJ _ _ _ _ (hbb.1 z)) (fun z => nx rfl _ _ _ (hbb.2 z))
      · exact hbb.elim
    case if_icmp cd o =>
      simp only [Bool.and_eq_true, decide_eq_true_eq] at hch
      obtain ⟨ht, rfl⟩ := hch
      simp only at hbb
      split at hbb
      · cases cd
        case eq => exact at_icmp_eq hdg ht (fun z => hJ _ _ _ _ (hbb.1 z)) (fun z => nx rfl _ _ _ (hbb.2 z))
        case ne => exact at_icmp_ne hdg ht (fun z => hJ _ _ _ _ (hbb.1 z)) (fun z => nx rfl _ _ _ (hbb.2 z))
        case lt => exact at_icmp_lt hdg ht (fun z => hJ _ _ _ _ (hbb.1 z)) (fun z => nx rfl _ _ _ (hbb.2 z))
        case ge => exact at_icmp_ge hdg ht (fun z => hJ _ _ _ _ (hbb.1 z)) (fun z => nx rfl _ _ _ (hbb.2 z))
        case gt => exact at_icmp_gt hdg ht (fun z => hJ _ _ _ _ (hbb.1 z)) (fun z => nx rfl _ _ _ (hbb.2 z))
        case le => exact at_icmp_le hdg ht (fun z => hJ _ _ _ _ (hbb.1 z)) (fun z => nx rfl _ _ _ (hbb.2 z))
      · exact hbb.elim
    case goto o =>
      simp only [Bool.and_eq_true, decide_eq_true_eq] at hch
      exact at_goto (by rw [hch.2] at hdg; exact hdg) hch.1 (hJ _ _ _ _ hbb)
    case tableswitch d lo hi offs =>
      simp only [Bool.and_eq_true, decide_eq_true_eq] at hch
      obtain ⟨⟨⟨⟨h1, h2⟩, h3⟩, h4⟩, h5⟩ := hch
      simp only at hbb
      split at hbb
      · refine at_tsw hdg h1 h2 h3 h4 h5 (fun z => hJ _ _ _ _ (hbb.1 z)) (swt_mono (fun t z => hJ _ _ _ _ z) hbb.2)
      · exact hbb.elim
    case lookupswitch d ps =>
      simp only [Bool.and_eq_true, decide_eq_true_eq] at hch
      obtain ⟨⟨⟨h1, h2⟩, h3⟩, h4⟩ := hch
      simp only at hbb
      split at hbb
      · exact at_lsw hdg h1 h2 h3 (fun k hk => decide_eq_true_eq.mp (List.all_eq_true.mp h4 k hk)) (lkw_mono (fun t z => hJ _ _ _ _ z) (hJ _ _ _ _) hbb)
      · exact hbb.elim
    case ireturn =>
      simp only [Bool.and_eq_true, decide_eq_true_eq] at hch
      obtain ⟨h1, rfl⟩ := hch
      simp only at hbb
      split at hbb
      · split at h1
        · rename_i hr
          exact at_iret hdg hr (by decide) rfl hbb.2
        · rename_i hr
          have h1 := decide_eq_true_eq.mp h1
          refine at_iret hdg hr (by decide) ?_ hbb.2
          rcases hbb.1 with z | z
          · omega
          · rcases z with rfl | rfl <;> rfl
        · cases h1
      · exact hbb.elim
    case lreturn =>
      simp only [Bool.and_eq_true, decide_eq_true_eq] at hch
      obtain ⟨h1, rfl⟩ := hch
      simp only at hbb
      split at hbb
      · exact at_lret hdg h1 hbb
      · exact hbb.elim
    case return_ =>
      simp only [Bool.and_eq_true, decide_eq_true_eq] at hch
      obtain ⟨h1, rfl⟩ := hch
      simp only at hbb
      split at hbb
      · exact at_vret hdg h1 hbb
      · exact hbb.elim
    case invokevirtual n =>
      simp only [Bool.and_eq_true, decide_eq_true_eq, Bool.not_eq_true'] at hch
      obtain ⟨⟨⟨⟨⟨⟨⟨h1, h2⟩, h3⟩, h4⟩, rfl⟩, h5⟩, h6⟩, h7⟩ := hch
      simp only at hbb
      split at hbb
      · rename_i hc
        have hme := mCall_met hP hbb
        have hst := take_rev (b := b) st
        generalize hva : (List.take b st).reverse = va at hme hst hc
        generalize List.drop b st = rest at hme hst hc
        obtain ⟨d, hd, hdn⟩ : ∃ d, parseMethodDescriptor (mY a).desc = some d ∧ d.parameters.length + 1 = b := by
          cases hz : parseMethodDescriptor (mY a).desc with
          | none => rw [hz] at h4; cases h4
          | some d => rw [hz] at h4; exact ⟨d, rfl, Option.some.inj h4⟩
        match va, hme, hst, hc, hva with
        | [], _, _, hc, _ => exact absurd hc.2.2 (by intro z; rw [← z] at h7; exact absurd h7 (show ¬ (98 : Nat) < 16 by decide))
        | .inl x :: _, _, _, hc, _ => exact absurd hc.2.2 (by intro z; rw [← z] at h7; exact absurd h7 (show ¬ (98 : Nat) < 16 by decide))
        | .inr (.inl x) :: _, _, _, hc, _ => exact absurd hc.2.2 (by intro z; rw [← z] at h7; exact absurd h7 (show ¬ (98 : Nat) < 16 by decide))
        | .inr (.inr (ci, n0, i0)) :: as, hme, hst, hc, hva =>
          have hci : ci = ts.getD 1 99 := hc.2.2
          subst hci
          have hlen : as.length = d.parameters.length := by
            have z1 := congrArg List.length hva
            simp only [List.length_reverse, List.length_take, List.length_cons] at z1
            have z3 := hc.2.1
            omega
          rw [← hst, List.reverse_cons, List.append_assoc]
          exact at_invV hdg h1 h2 (wAt_mem h3) (by rw [hd, hlen]; rfl) h6 h7 h5 hc.1 hme (fun r μ' z => nx rfl _ _ _ z)
      · exact hbb.elim
    case invokestatic n =>
      simp only [Bool.and_eq_true, decide_eq_true_eq] at hch
      obtain ⟨h1, rfl⟩ := hch
      simp only at hbb
      split at hbb
      · rename_i hcat
        split at hbb
        · simp only [if_neg (show ¬ (9 : Nat) = 8 by decide), if_pos, Bool.and_eq_true, decide_eq_true_eq] at h1
          obtain ⟨h1, rfl⟩ := h1
          split at hbb
          · split at hbb
            · rename_i hc
              obtain ⟨rfl, rfl⟩ := hc
              obtain ⟨sj, dj, nj, rfl, rfl, rfl, l1, l2, hbb⟩ := hbb
              exact at_copy hdg (wAt_mem h1) hcat.1 l1 l2 (nx rfl _ _ _ hbb)
            · exact hbb.elim
          · exact hbb.elim
        · exact hbb
        · simp only [if_neg (show ¬ (10 : Nat) = 8 by decide), if_neg (show ¬ (10 : Nat) = 9 by decide), if_pos, Bool.and_eq_true, decide_eq_true_eq] at h1
          obtain ⟨h1, rfl⟩ := h1
          split at hbb
          · exact at_min hdg (wAt_mem h1) hcat.1 (nx rfl _ _ _ hbb)
          · exact hbb.elim
        · simp only [if_neg (show ¬ (11 : Nat) = 8 by decide), if_neg (show ¬ (11 : Nat) = 9 by decide), if_neg (show ¬ (11 : Nat) = 10 by decide), if_pos, Bool.and_eq_true, decide_eq_true_eq] at h1
          obtain ⟨h1, rfl⟩ := h1
          split at hbb
          · exact at_max hdg (wAt_mem h1) hcat.1 (nx rfl _ _ _ hbb)
          · exact hbb.elim
        · simp only [if_neg (show ¬ (12 : Nat) = 8 by decide), if_neg (show ¬ (12 : Nat) = 9 by decide), if_neg (show ¬ (12 : Nat) = 10 by decide), if_neg (show ¬ (12 : Nat) = 11 by decide), if_pos, Bool.and_eq_true, decide_eq_true_eq] at h1
          obtain ⟨h1, rfl⟩ := h1
          split at hbb
          · exact at_maxl hdg (wAt_mem h1) hcat.1 (nx rfl _ _ _ hbb)
          · exact hbb.elim
        · simp only [if_neg (show ¬ (13 : Nat) = 8 by decide), if_neg (show ¬ (13 : Nat) = 9 by decide), if_neg (show ¬ (13 : Nat) = 10 by decide), if_neg (show ¬ (13 : Nat) = 11 by decide), if_neg (show ¬ (13 : Nat) = 12 by decide), if_pos, Bool.and_eq_true, decide_eq_true_eq] at h1
          obtain ⟨h1, rfl⟩ := h1
          split at hbb
          · exact at_absl hdg (wAt_mem h1) hcat.1 (nx rfl _ _ _ hbb)
          · exact hbb.elim
        · rename_i hc9 hc8 hc10 hc11 hc12 hc13
          rw [if_neg hc8, if_neg hc9, if_neg hc10, if_neg hc11, if_neg hc12, if_neg hc13] at h1
          simp only [Bool.and_eq_true, decide_eq_true_eq] at h1
          obtain ⟨⟨⟨⟨g1, g2⟩, g3⟩, g4⟩, g5⟩ := h1
          have hme := mCall_met hP hbb
          have hst := take_rev (b := b) st
          have hlen : (List.take b st).reverse.length = b := by
            rw [List.length_reverse, List.length_take]
            have := hcat.2
            omega
          rw [← hst]
          exact at_invS hdg g1 g2 (wAt_mem g3) (by rw [hlen]; exact g4) g5 hcat.1 hme (fun r μ' z => nx rfl _ _ _ z)
      · exact hbb.elim
    all_goals exact hbb
theorem dropTo_ok {t : Nat} : ∀ {F : List mE}, mOkF M F = true → mOkF M (dropTo t F) = true ∧ (dropTo t F = [] ∨ ∃ e cs, dropTo t F = e :: cs ∧ e.1 = t) := by
  intro F
  induction F with
  | nil => intro h; exact ⟨h, Or.inl rfl⟩
  | cons e cs ih =>
    intro h
    unfold dropTo
    split
    · rename_i he
      exact ⟨h, Or.inr ⟨e, cs, rfl, he⟩⟩
    · obtain ⟨q, i, len, a, b, c, v, ts⟩ := e
      have h2 : (mChk M (q, i, len, a, b, c, v, ts) && (mNf i || mNx cs (q + len)) && mOkF M cs) = true := h
      rw [Bool.and_eq_true] at h2
      exact ih h2.2
theorem bb_at (hP : mPok X P h) (hJ : ∀ t ls st μ, J t ls st μ → mAt X M h K t ls st μ) {F : List mE} (hF : mOkF M F = true) {t : Nat} {ls : List (Nat × MV)} {st : List MV} {μ : Mem} (hb : bb X P M h K J (dropTo t F) ls st μ) : mAt X M h K t ls st μ := by
  obtain ⟨h1, h2⟩ := dropTo_ok (t := t) hF
  rcases h2 with h2 | ⟨e, cs, h2, h3⟩
  · rw [h2] at hb; exact hb.elim
  · obtain ⟨q, i, len, a, b, c, v, ts⟩ := e
    have h3' : q = t := h3
    subst h3'
    exact bb_sound hP hJ _ h1 q i len a b c v ts cs h2 ls st μ hb
theorem vc_sound (hP : mPok X P h) {F : List mE} (hF : mOkF M F = true) (S : List Nat) : ∀ (n : Nat) (t : Nat) (ls : List (Nat × MV)) (st : List MV) (μ : Mem), vc X P M h K F S n t ls st μ → mAt X M h K t ls st μ := by
  intro n
  induction n with
  | zero => intro t ls st μ hv; exact hv
  | succ n ih =>
    intro t ls st μ hv
    unfold vc at hv
    split at hv
    · exact hv
    · exact bb_at hP ih hF hv
/-- from place t on, though it be one of S -/
theorem vc_from (hP : mPok X P h) {F : List mE} (hF : mOkF M F = true) (S : List Nat) (n : Nat) {t : Nat} {ls : List (Nat × MV)} {st : List MV} {μ : Mem} (hv : bb X P M h K (vc X P M h K F S n) (dropTo t F) ls st μ) : mAt X M h K t ls st μ :=
  bb_at hP (vc_sound hP hF S n) hF hv
/-- a method's contract out of its code -/
theorem vc_met (hP : mPok X P h) {F : List mE} (hF : mOkF M F = true) (hm : mChkM M = true) (S : List Nat) (n : Nat) {a : List MV} {μ : Mem} (ha : mCat a ≤ mMx M) (hv : bb X P M h K (vc X P M h K F S n) (dropTo 0 F) (mArg 0 a) [] μ) : mMet X (h + 1) M a μ K :=
  at_met hm ha (vc_from hP hF S n hv)
def P0 : mP := fun _ _ _ => none
theorem P0_ok : mPok X P0 h := fun _ _ _ _ hr => by cases hr
end MMB

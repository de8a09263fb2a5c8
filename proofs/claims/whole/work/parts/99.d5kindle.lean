/-! kindled: a RUN with some vats filled -/
section MKi
variable {G W n : Nat} {B R V : Bk} {f : Nat → Int32} {who set : Int32}
def kcF (G : Nat) (B : Bk) (who : Int32) (w : Nat) (a : Int32) : Int32 := if who >>> (nI w &&& 31) &&& nI 1 = nI 1 then fo G (fun g a => a + B 7 (w * 6 + g)) a else a
theorem kin_in {w : Nat} {p : Bk × Int32} : ∀ g, g ≤ 6 → (fo g (fun g p => ((u2 p.1 1 (w * 6 + g) (B 7 (w * 6 + g)), p.2 + B 7 (w * 6 + g)) : Bk × Int32)) p).2 = fo g (fun g a => a + B 7 (w * 6 + g)) p.2 ∧ (∀ k, k ≠ 1 → (fo g (fun g p => ((u2 p.1 1 (w * 6 + g) (B 7 (w * 6 + g)), p.2 + B 7 (w * 6 + g)) : Bk × Int32)) p).1 k = p.1 k) ∧ ∀ c, (fo g (fun g p => ((u2 p.1 1 (w * 6 + g) (B 7 (w * 6 + g)), p.2 + B 7 (w * 6 + g)) : Bk × Int32)) p).1 1 c = if w * 6 ≤ c ∧ c < w * 6 + g then B 7 c else p.1 1 c := by
  intro g
  induction g with
  | zero => intro _; exact ⟨rfl, fun _ _ => rfl, fun c => by rw [if_neg (by omega)]; rfl⟩
  | succ g ih =>
    intro hg
    obtain ⟨i1, i2, i3⟩ := ih (by omega)
    rw [fo_s, fo_s]
    generalize fo g (fun g p => ((u2 p.1 1 (w * 6 + g) (B 7 (w * 6 + g)), p.2 + B 7 (w * 6 + g)) : Bk × Int32)) p = r at i1 i2 i3 ⊢
    dsimp only
    refine ⟨by rw [i1], fun k hk => by rw [u2_row hk]; exact i2 k hk, fun c => ?_⟩
    rw [u2_at]
    by_cases e : c = w * 6 + g
    · rw [e, upd_at, if_pos (by omega)]
    · rw [upd_ne e, i3 c]
      by_cases z : w * 6 ≤ c ∧ c < w * 6 + g
      · rw [if_pos z, if_pos (by omega)]
      · rw [if_neg z, if_neg (by omega)]
/-- the class's start: vats of the set are filled with what is taken, the others empty -/
theorem kin_at (g6 : G ≤ 6) : ∀ w, w ≤ 8 → (fo w (kinF G B who) (emptyF R, nI 0)).2 = fo w (kcF G B who) (nI 0) ∧ (∀ k, k ≠ 1 → (fo w (kinF G B who) (emptyF R, nI 0)).1 k = emptyF R k) ∧ ∀ c, c < 48 → (fo w (kinF G B who) (emptyF R, nI 0)).1 1 c = if c / 6 < w ∧ c % 6 < G ∧ who >>> (nI (c / 6) &&& 31) &&& nI 1 = nI 1 then B 7 c else nI 0 := by
  intro w
  induction w with
  | zero => intro _; exact ⟨rfl, fun _ _ => rfl, fun c hc => by rw [if_neg (fun z => Nat.not_lt_zero _ z.1)]; exact (emptyF_at.2.1 c hc).1⟩
  | succ w ih =>
    intro hw
    obtain ⟨i1, i2, i3⟩ := ih (by omega)
    rw [fo_s, fo_s]
    generalize fo w (kinF G B who) (emptyF R, nI 0) = p at i1 i2 i3 ⊢
    generalize fo w (kcF G B who) (nI 0) = a at i1 ⊢
    unfold kinF kcF
    by_cases hb : who >>> (nI w &&& 31) &&& nI 1 = nI 1
    · rw [if_pos hb, if_pos hb]
      obtain ⟨j1, j2, j3⟩ := kin_in (B := B) (w := w) (p := p) G g6
      refine ⟨by rw [j1, i1], fun k hk => (j2 k hk).trans (i2 k hk), fun c hc => ?_⟩
      rw [j3 c, i3 c hc]
      by_cases z : w * 6 ≤ c ∧ c < w * 6 + G
      · have e : c / 6 = w := by omega
        rw [if_pos z, if_pos ⟨by omega, by omega, by rw [e]; exact hb⟩]
      · rw [if_neg z]
        by_cases y : c / 6 < w ∧ c % 6 < G ∧ who >>> (nI (c / 6) &&& 31) &&& nI 1 = nI 1
        · rw [if_pos y, if_pos ⟨by omega, y.2⟩]
        · rw [if_neg y, if_neg (fun k => y ⟨by omega, k.2⟩)]
    · rw [if_neg hb, if_neg hb]
      refine ⟨i1, i2, fun c hc => ?_⟩
      rw [i3 c hc]
      by_cases y : c / 6 < w ∧ c % 6 < G ∧ who >>> (nI (c / 6) &&& 31) &&& nI 1 = nI 1
      · rw [if_pos y, if_pos ⟨by omega, y.2⟩]
      · rw [if_neg y, if_neg (fun k => y ⟨by
          by_cases e : c / 6 = w
          · rw [e] at k
            exact absurd k.2.2 hb
          · omega, k.2⟩)]
/-- what is in the vats does not matter to what else holds at the start -/
theorem HB_vats {S S' : Bk} (h : HB G W 0 0 B S (startF B R)) (hk : ∀ k, k ≠ 1 → k ≠ 5 → k ≠ 6 → k ≠ 7 → k ≤ 18 → ∀ j, S' k j = S k j) (h1 : ∀ c, c < 48 → S' 1 c = (startKF G W B who R).1 1 c) (g6 : G ≤ 6) (w8 : W ≤ 8) (hcb : ∀ c, c < 48 → ∃ t s, t ≤ s ∧ s ≤ 200 ∧ B 7 c = nI t ∧ B 8 c = nI s) : HB G W 0 0 B S' (startKF G W B who R).1 := by
  obtain ⟨a1, a2, a3⟩ := kin_at (B := B) (who := who) (R := R) g6 W w8
  obtain ⟨h1', h2, h3, h4, h5, h6, h7, h8, h9⟩ := h
  have e : ∀ k, k ≠ 1 → (startKF G W B who R).1 k = startF B R k := fun k hk => by
    rw [startF_k hk]; exact a2 k hk
  refine ⟨fun k j hk' hj => ?_, fun g hg => ?_, fun g hg hg2 => ?_, ⟨fun g hg => ?_, fun c hc => ?_⟩, ?_, ?_, ?_, fun w a b => ?_, fun w hw => ?_⟩
  · by_cases k1 : k = 1
    · subst k1
      exact h1 j (by rw [show szR 6 1 = 48 by decide] at hj; exact hj)
    · rw [e k k1, hk k k1 (by omega) (by omega) (by omega) (by omega)]; exact h1' k j hk' hj
  · rw [hk 15 (by decide) (by decide) (by decide) (by decide) (by decide), hk 16 (by decide) (by decide) (by decide) (by decide) (by decide), hk 17 (by decide) (by decide) (by decide) (by decide) (by decide), e 5 (by decide), e 6 (by decide), e 7 (by decide)]; exact h2 g hg
  · rw [hk 15 (by decide) (by decide) (by decide) (by decide) (by decide), e 5 (by decide)]; exact h3 g hg hg2
  · rw [e 5 (by decide)]; exact h4.1 g hg
  · obtain ⟨t, s, t1, t2, t3, t4⟩ := hcb c hc
    have e1 : (startKF G W B who R).1 1 c = _ := a3 c hc
    have e2 : (startKF G W B who R).1 2 c = nI 0 := by rw [e 2 (by decide), startF_k (by decide)]; exact (emptyF_at.2.1 c hc).2.1
    rw [e1]
    by_cases y : c / 6 < W ∧ c % 6 < G ∧ who >>> (nI (c / 6) &&& 31) &&& nI 1 = nI 1
    · rw [if_pos y]
      exact ⟨t, s, t1, t2, t3, t4, fun _ => e2⟩
    · rw [if_neg y]
      exact ⟨0, s, by omega, t2, rfl, t4, fun _ => e2⟩
  · rw [e 0 (by decide)]; exact h5
  · rw [hk 0 (by decide) (by decide) (by decide) (by decide) (by decide)]; exact h6
  · rw [hk 18 (by decide) (by decide) (by decide) (by decide) (by decide)]; exact h7
  · rw [hk 13 (by decide) (by decide) (by decide) (by decide) (by decide)]; exact h8 w a b
  · have z := h9 w hw
    unfold HBw at z ⊢
    rw [hk 13 (by decide) (by decide) (by decide) (by decide) (by decide), hk 12 (by decide) (by decide) (by decide) (by decide) (by decide), hk 14 (by decide) (by decide) (by decide) (by decide) (by decide), e 8 (by decide), e 9 (by decide), e 0 (by decide)]
    exact z
/-- the class looks HOUR by HOUR who has gone: all of the set, in the end -/
theorem allGo_iff {V0 : Bk} (g6 : G ≤ 6) (w8 : W ≤ 8) (hW : B 0 1 = nI W) (hF : FB G W f B) (hs : ∀ v, W ≤ v → v < 32 → set.toBitVec.getLsbD v = false) : ∀ n k R (V : Bk) g, k + n ≤ 48 → HB G W (864 * k) k B V R → (∀ v, v < 8 → ((g >>> (nI v &&& 31) &&& nI 1 = nI 1) ↔ v < W ∧ 0 < R 8 v)) → (set &&& ((allGoF G W B set n (R, g)).2 ^^^ -1) = 0 ↔ ∀ w, w < W → set >>> (nI w &&& 31) &&& nI 1 = nI 1 → 0 < fo n (fun _ => passF G W B (nI 1 <<< (nI W &&& 31) - nI 1)) R 8 w) := by
  have sub : ∀ g : Int32, (∀ v, v < 8 → ((g >>> (nI v &&& 31) &&& nI 1 = nI 1) → v < W)) → (set &&& (g ^^^ -1) = 0 ↔ ∀ w, w < W → set >>> (nI w &&& 31) &&& nI 1 = nI 1 → g >>> (nI w &&& 31) &&& nI 1 = nI 1) := by
    intro g hg
    have m1 : ∀ i, i < 32 → (-1 : Int32).toBitVec.getLsbD i = true := fun i hi => by
      show (BitVec.allOnes 32).getLsbD i = true
      rw [BitVec.getLsbD_allOnes]
      exact decide_eq_true hi
    constructor
    · intro h w hw hb
      have h' : (set.toBitVec &&& (g.toBitVec ^^^ (-1 : Int32).toBitVec)).getLsbD w = (0 : Int32).toBitVec.getLsbD w := by rw [← h]; rfl
      have z0 : (0 : Int32).toBitVec.getLsbD w = false := by
        show (0#32).getLsbD w = false
        exact BitVec.getLsbD_zero
      rw [bit_iff (by omega)] at hb ⊢
      rw [BitVec.getLsbD_and, BitVec.getLsbD_xor, m1 w (by omega), z0, hb] at h'
      cases hc : g.toBitVec.getLsbD w
      · rw [hc] at h'; exact absurd h' (by decide)
      · rfl
    · intro h
      have key : set.toBitVec &&& (g.toBitVec ^^^ (-1 : Int32).toBitVec) = 0#32 := by
        apply BitVec.eq_of_getLsbD_eq
        intro i hi
        rw [BitVec.getLsbD_and, BitVec.getLsbD_xor, m1 i hi, BitVec.getLsbD_zero]
        by_cases hw : i < W
        · have hi' := h i hw
          rw [bit_iff (by omega), bit_iff (by omega)] at hi'
          cases hc : set.toBitVec.getLsbD i
          · rfl
          · rw [hi' hc]; rfl
        · rw [hs i (by omega) hi]; rfl
      show Int32.ofBitVec (set.toBitVec &&& (g.toBitVec ^^^ (-1 : Int32).toBitVec)) = 0
      rw [key]; rfl
  have gone : ∀ (R' : Bk) (g : Int32) w, w ≤ W → ∀ v, v < 8 → ((fo w (goneF R') g >>> (nI v &&& 31) &&& nI 1 = nI 1) ↔ (g >>> (nI v &&& 31) &&& nI 1 = nI 1) ∨ v < w ∧ wlP R' v) := by
    intro R' g w
    induction w with
    | zero => intro _ v hv; exact ⟨Or.inl, fun z => z.elim id (fun y => absurd y.1 (Nat.not_lt_zero v))⟩
    | succ w ih =>
      intro hw v hv
      have ihv := ih (by omega) v hv
      rw [fo_s]
      generalize fo w (goneF R') g = a at ihv ⊢
      by_cases c : 0 < R' 8 w ∧ R' 9 w = R' 0 0 - nI 1
      · rw [goneF_pos c, bit_or hv (by omega), ihv]
        constructor
        · rintro (rfl | z | z)
          · exact Or.inr ⟨by omega, c⟩
          · exact Or.inl z
          · exact Or.inr ⟨by omega, z.2⟩
        · rintro (z | z)
          · exact Or.inr (Or.inl z)
          · by_cases e : v = w
            · exact Or.inl e
            · exact Or.inr (Or.inr ⟨by omega, z.2⟩)
      · rw [goneF_neg c, ihv]
        constructor
        · rintro (z | z)
          · exact Or.inl z
          · exact Or.inr ⟨by omega, z.2⟩
        · rintro (z | z)
          · exact Or.inl z
          · by_cases e : v = w
            · rw [e] at z; exact absurd z.2 c
            · exact Or.inr ⟨by omega, z.2⟩
  have mono : ∀ n k R (V : Bk), k + n ≤ 48 → HB G W (864 * k) k B V R → ∀ w, w < W → 0 < R 8 w → 0 < fo n (fun _ => passF G W B (nI 1 <<< (nI W &&& 31) - nI 1)) R 8 w := by
    intro n
    induction n with
    | zero => intro k R V _ _ w _ h; exact h
    | succ n ih =>
      intro k R V hk hH w hw h0
      have sh : ∀ n (R : Bk), fo (n + 1) (fun _ => passF G W B (nI 1 <<< (nI W &&& 31) - nI 1)) R = fo n (fun _ => passF G W B (nI 1 <<< (nI W &&& 31) - nI 1)) (passF G W B (nI 1 <<< (nI W &&& 31) - nI 1) R) := by
        intro n
        induction n with
        | zero => intro R; rfl
        | succ n ih2 => intro R; rw [fo_s, ih2, ← fo_s (f := fun _ => passF G W B (nI 1 <<< (nI W &&& 31) - nI 1))]
      rw [sh]
      have hH2 := hour_rel (free := nI 1 <<< (nI W &&& 31) - nI 1) hF (by omega) g6 w8 (by omega) hH
      rw [show 864 * k + 864 = 864 * (k + 1) by omega] at hH2
      refine ih (k + 1) _ _ (by omega) hH2 w hw ?_
      rw [wl_new (by omega) hH hw]
      exact Or.inl h0
  have al : allW B = nI 1 <<< (nI W &&& 31) - nI 1 := by unfold allW; rw [hW]
  intro n
  induction n with
  | zero =>
    intro k R V g hk hH hg
    show set &&& (g ^^^ -1) = 0 ↔ _
    rw [sub g (fun v hv z => ((hg v hv).mp z).1)]
    exact ⟨fun h w hw hb => ((hg w (by omega)).mp (h w hw hb)).2, fun h w hw hb => (hg w (by omega)).mpr ⟨hw, h w hw hb⟩⟩
  | succ n ih =>
    intro k R V g hk hH hg
    unfold allGoF
    by_cases hc : set &&& (g ^^^ -1) = 0
    · rw [if_pos hc]
      dsimp only
      refine ⟨fun _ w hw hb => mono (n + 1) k R V hk hH w hw ?_, fun _ => hc⟩
      exact ((hg w (by omega)).mp ((sub g (fun v hv z => ((hg v hv).mp z).1)).mp hc w hw hb)).2
    · rw [if_neg hc]
      unfold allGoS
      dsimp only
      rw [al]
      have hH2 := hour_rel (free := nI 1 <<< (nI W &&& 31) - nI 1) hF (by omega) g6 w8 (by omega) hH
      rw [show 864 * k + 864 = 864 * (k + 1) by omega] at hH2
      have r := ih (k + 1) _ _ (fo W (goneF (passF G W B (nI 1 <<< (nI W &&& 31) - nI 1) R)) g) (by omega) hH2 (fun v hv => by
        rw [gone _ g W (Nat.le_refl W) v hv, hg v hv]
        by_cases hv2 : v < W
        · rw [wl_new (by omega) hH hv2]
          exact ⟨fun z => ⟨hv2, z.elim (fun y => Or.inl y.2) (fun y => Or.inr y.2)⟩, fun z => z.2.elim (fun y => Or.inl ⟨hv2, y⟩) (fun y => Or.inr ⟨hv2, y⟩)⟩
        · exact ⟨fun z => z.elim (fun y => absurd y.1 hv2) (fun y => absurd y.1 hv2), fun z => absurd z.1 hv2⟩)
      rw [r]
      have sh : ∀ n (R : Bk), fo (n + 1) (fun _ => passF G W B (nI 1 <<< (nI W &&& 31) - nI 1)) R = fo n (fun _ => passF G W B (nI 1 <<< (nI W &&& 31) - nI 1)) (passF G W B (nI 1 <<< (nI W &&& 31) - nI 1) R) := by
        intro n
        induction n with
        | zero => intro R; rfl
        | succ n ih2 => intro R; rw [fo_s, ih2, ← fo_s (f := fun _ => passF G W B (nI 1 <<< (nI W &&& 31) - nI 1))]
      rw [sh]
end MKi

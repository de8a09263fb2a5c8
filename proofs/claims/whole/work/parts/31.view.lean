/-! a segment of a row of the reference, as rows of a RUN: 18 IS, 0 HOUR, 1 VAT, 2 MARK, 3 COMES, 4 LACKS, 15 WAY, 16 WAY_MARK, 17 WAY_FROM, 8 WENT, 12 STOOD, 13 MADE, 10 FOUND, 9 LATEST, 14 NOW, 11 tallies; 5, 6, 7 are its rows stream, mark, whose -/
def dk (j : Nat) : Nat × Nat := if j < 1 then (18, j - 0) else if j < 2 then (0, j - 1) else if j < 50 then (1, j - 2) else if j < 98 then (2, j - 50) else if j < 146 then (3, j - 98) else if j < 194 then (4, j - 146) else if j < 200 then (15, j - 194) else if j < 206 then (16, j - 200) else if j < 212 then (17, j - 206) else if j < 220 then (8, j - 212) else if j < 228 then (12, j - 220) else if j < 236 then (13, j - 228) else if j < 244 then (10, j - 236) else if j < 252 then (9, j - 244) else if j < 260 then (14, j - 252) else (11, j - 260)
def ek (k i : Nat) : Nat := if k = 18 then 0 + i else if k = 0 then 1 + i else if k = 1 then 2 + i else if k = 2 then 50 + i else if k = 3 then 98 + i else if k = 4 then 146 + i else if k = 15 then 194 + i else if k = 16 then 200 + i else if k = 17 then 206 + i else if k = 8 then 212 + i else if k = 12 then 220 + i else if k = 13 then 228 + i else if k = 10 then 236 + i else if k = 9 then 244 + i else if k = 14 then 252 + i else 260 + i
theorem dkI_18 {j : Nat} (h1 : 0 ≤ j) (h2 : j < 1) : dk j = (18, j - 0) := by unfold dk; rw [if_pos (by omega)]
theorem ekI_18 {i : Nat} : ek 18 i = 0 + i := rfl
theorem dkI_0 {j : Nat} (h1 : 1 ≤ j) (h2 : j < 2) : dk j = (0, j - 1) := by unfold dk; rw [if_neg (by omega), if_pos (by omega)]
theorem ekI_0 {i : Nat} : ek 0 i = 1 + i := rfl
theorem dkI_1 {j : Nat} (h1 : 2 ≤ j) (h2 : j < 50) : dk j = (1, j - 2) := by unfold dk; rw [if_neg (by omega), if_neg (by omega), if_pos (by omega)]
theorem ekI_1 {i : Nat} : ek 1 i = 2 + i := rfl
theorem dkI_2 {j : Nat} (h1 : 50 ≤ j) (h2 : j < 98) : dk j = (2, j - 50) := by unfold dk; rw [if_neg (by omega), if_neg (by omega), if_neg (by omega), if_pos (by omega)]
theorem ekI_2 {i : Nat} : ek 2 i = 50 + i := rfl
theorem dkI_3 {j : Nat} (h1 : 98 ≤ j) (h2 : j < 146) : dk j = (3, j - 98) := by unfold dk; rw [if_neg (by omega), if_neg (by omega), if_neg (by omega), if_neg (by omega), if_pos (by omega)]
theorem ekI_3 {i : Nat} : ek 3 i = 98 + i := rfl
theorem dkI_4 {j : Nat} (h1 : 146 ≤ j) (h2 : j < 194) : dk j = (4, j - 146) := by unfold dk; rw [if_neg (by omega), if_neg (by omega), if_neg (by omega), if_neg (by omega), if_neg (by omega), if_pos (by omega)]
theorem ekI_4 {i : Nat} : ek 4 i = 146 + i := rfl
theorem dkI_15 {j : Nat} (h1 : 194 ≤ j) (h2 : j < 200) : dk j = (15, j - 194) := by unfold dk; rw [if_neg (by omega), if_neg (by omega), if_neg (by omega), if_neg (by omega), if_neg (by omega), if_neg (by omega), if_pos (by omega)]
theorem ekI_15 {i : Nat} : ek 15 i = 194 + i := rfl
theorem dkI_16 {j : Nat} (h1 : 200 ≤ j) (h2 : j < 206) : dk j = (16, j - 200) := by unfold dk; rw [if_neg (by omega), if_neg (by omega), if_neg (by omega), if_neg (by omega), if_neg (by omega), if_neg (by omega), if_neg (by omega), if_pos (by omega)]
theorem ekI_16 {i : Nat} : ek 16 i = 200 + i := rfl
theorem dkI_17 {j : Nat} (h1 : 206 ≤ j) (h2 : j < 212) : dk j = (17, j - 206) := by unfold dk; rw [if_neg (by omega), if_neg (by omega), if_neg (by omega), if_neg (by omega), if_neg (by omega), if_neg (by omega), if_neg (by omega), if_neg (by omega), if_pos (by omega)]
theorem ekI_17 {i : Nat} : ek 17 i = 206 + i := rfl
theorem dkI_8 {j : Nat} (h1 : 212 ≤ j) (h2 : j < 220) : dk j = (8, j - 212) := by unfold dk; rw [if_neg (by omega), if_neg (by omega), if_neg (by omega), if_neg (by omega), if_neg (by omega), if_neg (by omega), if_neg (by omega), if_neg (by omega), if_neg (by omega), if_pos (by omega)]
theorem ekI_8 {i : Nat} : ek 8 i = 212 + i := rfl
theorem dkI_12 {j : Nat} (h1 : 220 ≤ j) (h2 : j < 228) : dk j = (12, j - 220) := by unfold dk; rw [if_neg (by omega), if_neg (by omega), if_neg (by omega), if_neg (by omega), if_neg (by omega), if_neg (by omega), if_neg (by omega), if_neg (by omega), if_neg (by omega), if_neg (by omega), if_pos (by omega)]
theorem ekI_12 {i : Nat} : ek 12 i = 220 + i := rfl
theorem dkI_13 {j : Nat} (h1 : 228 ≤ j) (h2 : j < 236) : dk j = (13, j - 228) := by unfold dk; rw [if_neg (by omega), if_neg (by omega), if_neg (by omega), if_neg (by omega), if_neg (by omega), if_neg (by omega), if_neg (by omega), if_neg (by omega), if_neg (by omega), if_neg (by omega), if_neg (by omega), if_pos (by omega)]
theorem ekI_13 {i : Nat} : ek 13 i = 228 + i := rfl
theorem dkI_10 {j : Nat} (h1 : 236 ≤ j) (h2 : j < 244) : dk j = (10, j - 236) := by unfold dk; rw [if_neg (by omega), if_neg (by omega), if_neg (by omega), if_neg (by omega), if_neg (by omega), if_neg (by omega), if_neg (by omega), if_neg (by omega), if_neg (by omega), if_neg (by omega), if_neg (by omega), if_neg (by omega), if_pos (by omega)]
theorem ekI_10 {i : Nat} : ek 10 i = 236 + i := rfl
theorem dkI_9 {j : Nat} (h1 : 244 ≤ j) (h2 : j < 252) : dk j = (9, j - 244) := by unfold dk; rw [if_neg (by omega), if_neg (by omega), if_neg (by omega), if_neg (by omega), if_neg (by omega), if_neg (by omega), if_neg (by omega), if_neg (by omega), if_neg (by omega), if_neg (by omega), if_neg (by omega), if_neg (by omega), if_neg (by omega), if_pos (by omega)]
theorem ekI_9 {i : Nat} : ek 9 i = 244 + i := rfl
theorem dkI_14 {j : Nat} (h1 : 252 ≤ j) (h2 : j < 260) : dk j = (14, j - 252) := by unfold dk; rw [if_neg (by omega), if_neg (by omega), if_neg (by omega), if_neg (by omega), if_neg (by omega), if_neg (by omega), if_neg (by omega), if_neg (by omega), if_neg (by omega), if_neg (by omega), if_neg (by omega), if_neg (by omega), if_neg (by omega), if_neg (by omega), if_pos (by omega)]
theorem ekI_14 {i : Nat} : ek 14 i = 252 + i := rfl
theorem dkI_11 {j : Nat} (h1 : 260 ≤ j) : dk j = (11, j - 260) := by unfold dk; rw [if_neg (by omega), if_neg (by omega), if_neg (by omega), if_neg (by omega), if_neg (by omega), if_neg (by omega), if_neg (by omega), if_neg (by omega), if_neg (by omega), if_neg (by omega), if_neg (by omega), if_neg (by omega), if_neg (by omega), if_neg (by omega), if_neg (by omega)]
theorem ekI_11 {i : Nat} : ek 11 i = 260 + i := rfl
theorem dk_or (j : Nat) : (0 ≤ j ∧ j < 1) ∨ (1 ≤ j ∧ j < 2) ∨ (2 ≤ j ∧ j < 50) ∨ (50 ≤ j ∧ j < 98) ∨ (98 ≤ j ∧ j < 146) ∨ (146 ≤ j ∧ j < 194) ∨ (194 ≤ j ∧ j < 200) ∨ (200 ≤ j ∧ j < 206) ∨ (206 ≤ j ∧ j < 212) ∨ (212 ≤ j ∧ j < 220) ∨ (220 ≤ j ∧ j < 228) ∨ (228 ≤ j ∧ j < 236) ∨ (236 ≤ j ∧ j < 244) ∨ (244 ≤ j ∧ j < 252) ∨ (252 ≤ j ∧ j < 260) ∨ 260 ≤ j := by omega
theorem ek_dk (j : Nat) : ek (dk j).1 (dk j).2 = j := by
  rcases dk_or j with ⟨h1, h2⟩ | ⟨h1, h2⟩ | ⟨h1, h2⟩ | ⟨h1, h2⟩ | ⟨h1, h2⟩ | ⟨h1, h2⟩ | ⟨h1, h2⟩ | ⟨h1, h2⟩ | ⟨h1, h2⟩ | ⟨h1, h2⟩ | ⟨h1, h2⟩ | ⟨h1, h2⟩ | ⟨h1, h2⟩ | ⟨h1, h2⟩ | ⟨h1, h2⟩ | h1
  · rw [dkI_18 h1 h2]; show ek 18 (j - 0) = j; rw [ekI_18]; omega
  · rw [dkI_0 h1 h2]; show ek 0 (j - 1) = j; rw [ekI_0]; omega
  · rw [dkI_1 h1 h2]; show ek 1 (j - 2) = j; rw [ekI_1]; omega
  · rw [dkI_2 h1 h2]; show ek 2 (j - 50) = j; rw [ekI_2]; omega
  · rw [dkI_3 h1 h2]; show ek 3 (j - 98) = j; rw [ekI_3]; omega
  · rw [dkI_4 h1 h2]; show ek 4 (j - 146) = j; rw [ekI_4]; omega
  · rw [dkI_15 h1 h2]; show ek 15 (j - 194) = j; rw [ekI_15]; omega
  · rw [dkI_16 h1 h2]; show ek 16 (j - 200) = j; rw [ekI_16]; omega
  · rw [dkI_17 h1 h2]; show ek 17 (j - 206) = j; rw [ekI_17]; omega
  · rw [dkI_8 h1 h2]; show ek 8 (j - 212) = j; rw [ekI_8]; omega
  · rw [dkI_12 h1 h2]; show ek 12 (j - 220) = j; rw [ekI_12]; omega
  · rw [dkI_13 h1 h2]; show ek 13 (j - 228) = j; rw [ekI_13]; omega
  · rw [dkI_10 h1 h2]; show ek 10 (j - 236) = j; rw [ekI_10]; omega
  · rw [dkI_9 h1 h2]; show ek 9 (j - 244) = j; rw [ekI_9]; omega
  · rw [dkI_14 h1 h2]; show ek 14 (j - 252) = j; rw [ekI_14]; omega
  · rw [dkI_11 h1]; show ek 11 (j - 260) = j; rw [ekI_11]; omega
theorem dk_inj {j j' : Nat} (h : dk j = dk j') : j = j' := by
  have h1 := ek_dk j
  rw [h, ek_dk j'] at h1
  exact h1.symm
theorem dk_5 (j : Nat) : (dk j).1 ≠ 5 ∧ (dk j).1 ≠ 6 ∧ (dk j).1 ≠ 7 := by
  rcases dk_or j with ⟨h1, h2⟩ | ⟨h1, h2⟩ | ⟨h1, h2⟩ | ⟨h1, h2⟩ | ⟨h1, h2⟩ | ⟨h1, h2⟩ | ⟨h1, h2⟩ | ⟨h1, h2⟩ | ⟨h1, h2⟩ | ⟨h1, h2⟩ | ⟨h1, h2⟩ | ⟨h1, h2⟩ | ⟨h1, h2⟩ | ⟨h1, h2⟩ | ⟨h1, h2⟩ | h1
  · rw [dkI_18 h1 h2]; exact ⟨by show (18 : Nat) ≠ 5; decide, by show (18 : Nat) ≠ 6; decide, by show (18 : Nat) ≠ 7; decide⟩
  · rw [dkI_0 h1 h2]; exact ⟨by show (0 : Nat) ≠ 5; decide, by show (0 : Nat) ≠ 6; decide, by show (0 : Nat) ≠ 7; decide⟩
  · rw [dkI_1 h1 h2]; exact ⟨by show (1 : Nat) ≠ 5; decide, by show (1 : Nat) ≠ 6; decide, by show (1 : Nat) ≠ 7; decide⟩
  · rw [dkI_2 h1 h2]; exact ⟨by show (2 : Nat) ≠ 5; decide, by show (2 : Nat) ≠ 6; decide, by show (2 : Nat) ≠ 7; decide⟩
  · rw [dkI_3 h1 h2]; exact ⟨by show (3 : Nat) ≠ 5; decide, by show (3 : Nat) ≠ 6; decide, by show (3 : Nat) ≠ 7; decide⟩
  · rw [dkI_4 h1 h2]; exact ⟨by show (4 : Nat) ≠ 5; decide, by show (4 : Nat) ≠ 6; decide, by show (4 : Nat) ≠ 7; decide⟩
  · rw [dkI_15 h1 h2]; exact ⟨by show (15 : Nat) ≠ 5; decide, by show (15 : Nat) ≠ 6; decide, by show (15 : Nat) ≠ 7; decide⟩
  · rw [dkI_16 h1 h2]; exact ⟨by show (16 : Nat) ≠ 5; decide, by show (16 : Nat) ≠ 6; decide, by show (16 : Nat) ≠ 7; decide⟩
  · rw [dkI_17 h1 h2]; exact ⟨by show (17 : Nat) ≠ 5; decide, by show (17 : Nat) ≠ 6; decide, by show (17 : Nat) ≠ 7; decide⟩
  · rw [dkI_8 h1 h2]; exact ⟨by show (8 : Nat) ≠ 5; decide, by show (8 : Nat) ≠ 6; decide, by show (8 : Nat) ≠ 7; decide⟩
  · rw [dkI_12 h1 h2]; exact ⟨by show (12 : Nat) ≠ 5; decide, by show (12 : Nat) ≠ 6; decide, by show (12 : Nat) ≠ 7; decide⟩
  · rw [dkI_13 h1 h2]; exact ⟨by show (13 : Nat) ≠ 5; decide, by show (13 : Nat) ≠ 6; decide, by show (13 : Nat) ≠ 7; decide⟩
  · rw [dkI_10 h1 h2]; exact ⟨by show (10 : Nat) ≠ 5; decide, by show (10 : Nat) ≠ 6; decide, by show (10 : Nat) ≠ 7; decide⟩
  · rw [dkI_9 h1 h2]; exact ⟨by show (9 : Nat) ≠ 5; decide, by show (9 : Nat) ≠ 6; decide, by show (9 : Nat) ≠ 7; decide⟩
  · rw [dkI_14 h1 h2]; exact ⟨by show (14 : Nat) ≠ 5; decide, by show (14 : Nat) ≠ 6; decide, by show (14 : Nat) ≠ 7; decide⟩
  · rw [dkI_11 h1]; exact ⟨by show (11 : Nat) ≠ 5; decide, by show (11 : Nat) ≠ 6; decide, by show (11 : Nat) ≠ 7; decide⟩
/-- the reference's rows Q, with the segment at base of row r, stream, mark and whose as V has them -/
def rb (r base : Nat) (Q V : Bk) : Bk := fun k j =>
  if k = r then (if base ≤ j ∧ j < base + 296 then V (dk (j - base)).1 (dk (j - base)).2 else Q r j) else if k = 12 then V 5 j else if k = 13 then V 6 j else if k = 14 then V 7 j else Q k j
def vw (r base : Nat) (Q : Bk) : Bk := fun k i => if k = 5 then Q 12 i else if k = 6 then Q 13 i else if k = 7 then Q 14 i else Q r (base + ek k i)
section MVw
variable {r base : Nat} {Q V : Bk} {x : Int32}
theorem rb_self (hr : r ≠ 12 ∧ r ≠ 13 ∧ r ≠ 14) : rb r base Q (vw r base Q) = Q := by
  funext k j
  unfold rb
  by_cases h1 : k = r
  · subst h1
    rw [if_pos rfl]
    split
    · rename_i hc
      have h5 := dk_5 (j - base)
      unfold vw
      rw [if_neg h5.1, if_neg h5.2.1, if_neg h5.2.2, ek_dk, show base + (j - base) = j by omega]
    · rfl
  · rw [if_neg h1]
    unfold vw
    by_cases h2 : k = 12
    · subst h2; simp
    · by_cases h3 : k = 13
      · subst h3; simp
      · by_cases h4 : k = 14
        · subst h4; simp
        · simp [h2, h3, h4]
theorem rb_seg {o : Nat} (ho : o < 296) : rb r base Q V r (base + o) = V (dk o).1 (dk o).2 := by
  unfold rb
  rw [if_pos rfl, if_pos ⟨by omega, by omega⟩, show base + o - base = o by omega]
theorem rb_up {o : Nat} (ho : o < 296) : u2 (rb r base Q V) r (base + o) x = rb r base Q (u2 V (dk o).1 (dk o).2 x) := by
  funext k j
  by_cases h1 : k = r
  · subst h1
    rw [u2_at]
    by_cases h2 : j = base + o
    · subst h2
      rw [upd_at, rb_seg ho, u2_at, upd_at]
    · rw [upd_ne h2]
      unfold rb
      rw [if_pos rfl, if_pos rfl]
      split
      · rename_i hc
        by_cases h3 : (dk (j - base)).1 = (dk o).1
        · rw [h3, u2_at]
          by_cases h4 : (dk (j - base)).2 = (dk o).2
          · exfalso
            have := dk_inj (Prod.ext h3 h4)
            omega
          · rw [upd_ne h4]
        · rw [u2_row h3]
      · rfl
  · rw [u2_row h1]
    have h5 := dk_5 o
    unfold rb
    rw [if_neg h1, if_neg h1, u2_row h5.1.symm, u2_row h5.2.1.symm, u2_row h5.2.2.symm]
theorem rb_12 (h : 12 ≠ r) : rb r base Q V 12 = V 5 := by
  funext j
  unfold rb
  rw [if_neg h, if_pos rfl]
theorem rb_13 (h : 13 ≠ r) : rb r base Q V 13 = V 6 := by
  funext j
  unfold rb
  rw [if_neg h, if_neg (by decide), if_pos rfl]
theorem rb_14 (h : 14 ≠ r) : rb r base Q V 14 = V 7 := by
  funext j
  unfold rb
  rw [if_neg h, if_neg (by decide), if_neg (by decide), if_pos rfl]
theorem rb_else {k : Nat} (h : k ≠ r) (h2 : k ≠ 12) (h3 : k ≠ 13) (h4 : k ≠ 14) : rb r base Q V k = Q k := by
  funext j
  unfold rb
  rw [if_neg h, if_neg h2, if_neg h3, if_neg h4]
theorem rb_lo {j : Nat} (h : j < base) : rb r base Q V r j = Q r j := by
  unfold rb
  rw [if_pos rfl, if_neg (by omega)]
theorem rb_up12 {g : Nat} (h : r ≠ 12) : u2 (rb r base Q V) 12 g x = rb r base Q (u2 V 5 g x) := by
  funext k j
  by_cases h1 : k = 12
  · subst h1
    rw [u2_at, rb_12 h.symm, rb_12 h.symm, u2_at]
  · rw [u2_row h1]
    unfold rb
    have e : ∀ l : Nat, u2 V 5 g x (dk l).1 = V (dk l).1 := fun l => u2_row (dk_5 l).1
    rw [e, u2_row (show (6 : Nat) ≠ 5 by decide), u2_row (show (7 : Nat) ≠ 5 by decide), if_neg h1, if_neg h1]
theorem rb_up13 {g : Nat} (h : r ≠ 13) : u2 (rb r base Q V) 13 g x = rb r base Q (u2 V 6 g x) := by
  funext k j
  by_cases h1 : k = 13
  · subst h1
    rw [u2_at, rb_13 h.symm, rb_13 h.symm, u2_at]
  · rw [u2_row h1]
    unfold rb
    have e : ∀ l : Nat, u2 V 6 g x (dk l).1 = V (dk l).1 := fun l => u2_row (dk_5 l).2.1
    rw [e, u2_row (show (5 : Nat) ≠ 6 by decide), u2_row (show (7 : Nat) ≠ 6 by decide), if_neg h1, if_neg h1]
theorem rb_up14 {g : Nat} (h : r ≠ 14) : u2 (rb r base Q V) 14 g x = rb r base Q (u2 V 7 g x) := by
  funext k j
  by_cases h1 : k = 14
  · subst h1
    rw [u2_at, rb_14 h.symm, rb_14 h.symm, u2_at]
  · rw [u2_row h1]
    unfold rb
    have e : ∀ l : Nat, u2 V 7 g x (dk l).1 = V (dk l).1 := fun l => u2_row (dk_5 l).2.2
    rw [e, u2_row (show (5 : Nat) ≠ 7 by decide), u2_row (show (6 : Nat) ≠ 7 by decide), if_neg h1, if_neg h1]
theorem rb_upq {k j : Nat} (h : k ≠ r) (h2 : k ≠ 12) (h3 : k ≠ 13) (h4 : k ≠ 14) : u2 (rb r base Q V) k j x = rb r base (u2 Q k j x) V := by
  funext k' j'
  by_cases h1 : k' = k
  · subst h1
    rw [u2_at, rb_else h h2 h3 h4, rb_else h h2 h3 h4, u2_at]
  · rw [u2_row h1]
    unfold rb
    rw [u2_row h1, u2_row h.symm]
theorem rd_is : rb r base Q V r (base + 0) = V 18 0 := rb_seg (o := 0) (by decide)
theorem ru_is : u2 (rb r base Q V) r (base + 0) x = rb r base Q (u2 V 18 0 x) := rb_up (o := 0) (by decide)
theorem rd_hour : rb r base Q V r (base + 1) = V 0 0 := rb_seg (o := 1) (by decide)
theorem ru_hour : u2 (rb r base Q V) r (base + 1) x = rb r base Q (u2 V 0 0 x) := rb_up (o := 1) (by decide)
theorem dk_vat {c : Nat} (hc : c < 48) : dk (2 + c) = (1, c) := by
  rw [dkI_1 (by omega) (by omega), show 2 + c - 2 = c by omega]
theorem rd_vat {c : Nat} (hc : c < 48) : rb r base Q V r (base + 2 + c) = V 1 (c) := by rw [Nat.add_assoc, rb_seg (by omega), dk_vat hc]
theorem ru_vat {c : Nat} (hc : c < 48) : u2 (rb r base Q V) r (base + 2 + c) x = rb r base Q (u2 V 1 (c) x) := by rw [Nat.add_assoc, rb_up (by omega), dk_vat hc]
theorem dk_mark {c : Nat} (hc : c < 48) : dk (50 + c) = (2, c) := by
  rw [dkI_2 (by omega) (by omega), show 50 + c - 50 = c by omega]
theorem rd_mark {c : Nat} (hc : c < 48) : rb r base Q V r (base + 50 + c) = V 2 (c) := by rw [Nat.add_assoc, rb_seg (by omega), dk_mark hc]
theorem ru_mark {c : Nat} (hc : c < 48) : u2 (rb r base Q V) r (base + 50 + c) x = rb r base Q (u2 V 2 (c) x) := by rw [Nat.add_assoc, rb_up (by omega), dk_mark hc]
theorem dk_comes {c : Nat} (hc : c < 48) : dk (98 + c) = (3, c) := by
  rw [dkI_3 (by omega) (by omega), show 98 + c - 98 = c by omega]
theorem rd_comes {c : Nat} (hc : c < 48) : rb r base Q V r (base + 98 + c) = V 3 (c) := by rw [Nat.add_assoc, rb_seg (by omega), dk_comes hc]
theorem ru_comes {c : Nat} (hc : c < 48) : u2 (rb r base Q V) r (base + 98 + c) x = rb r base Q (u2 V 3 (c) x) := by rw [Nat.add_assoc, rb_up (by omega), dk_comes hc]
theorem dk_lacks {c : Nat} (hc : c < 48) : dk (146 + c) = (4, c) := by
  rw [dkI_4 (by omega) (by omega), show 146 + c - 146 = c by omega]
theorem rd_lacks {c : Nat} (hc : c < 48) : rb r base Q V r (base + 146 + c) = V 4 (c) := by rw [Nat.add_assoc, rb_seg (by omega), dk_lacks hc]
theorem ru_lacks {c : Nat} (hc : c < 48) : u2 (rb r base Q V) r (base + 146 + c) x = rb r base Q (u2 V 4 (c) x) := by rw [Nat.add_assoc, rb_up (by omega), dk_lacks hc]
theorem dk_way {c : Nat} (hc : c < 6) : dk (194 + c) = (15, c) := by
  rw [dkI_15 (by omega) (by omega), show 194 + c - 194 = c by omega]
theorem rd_way {c : Nat} (hc : c < 6) : rb r base Q V r (base + 194 + c) = V 15 (c) := by rw [Nat.add_assoc, rb_seg (by omega), dk_way hc]
theorem ru_way {c : Nat} (hc : c < 6) : u2 (rb r base Q V) r (base + 194 + c) x = rb r base Q (u2 V 15 (c) x) := by rw [Nat.add_assoc, rb_up (by omega), dk_way hc]
theorem dk_wmark {c : Nat} (hc : c < 6) : dk (200 + c) = (16, c) := by
  rw [dkI_16 (by omega) (by omega), show 200 + c - 200 = c by omega]
theorem rd_wmark {c : Nat} (hc : c < 6) : rb r base Q V r (base + 200 + c) = V 16 (c) := by rw [Nat.add_assoc, rb_seg (by omega), dk_wmark hc]
theorem ru_wmark {c : Nat} (hc : c < 6) : u2 (rb r base Q V) r (base + 200 + c) x = rb r base Q (u2 V 16 (c) x) := by rw [Nat.add_assoc, rb_up (by omega), dk_wmark hc]
theorem dk_wfrom {c : Nat} (hc : c < 6) : dk (206 + c) = (17, c) := by
  rw [dkI_17 (by omega) (by omega), show 206 + c - 206 = c by omega]
theorem rd_wfrom {c : Nat} (hc : c < 6) : rb r base Q V r (base + 206 + c) = V 17 (c) := by rw [Nat.add_assoc, rb_seg (by omega), dk_wfrom hc]
theorem ru_wfrom {c : Nat} (hc : c < 6) : u2 (rb r base Q V) r (base + 206 + c) x = rb r base Q (u2 V 17 (c) x) := by rw [Nat.add_assoc, rb_up (by omega), dk_wfrom hc]
theorem dk_went {c : Nat} (hc : c < 8) : dk (212 + c) = (8, c) := by
  rw [dkI_8 (by omega) (by omega), show 212 + c - 212 = c by omega]
theorem rd_went {c : Nat} (hc : c < 8) : rb r base Q V r (base + 212 + c) = V 8 (c) := by rw [Nat.add_assoc, rb_seg (by omega), dk_went hc]
theorem ru_went {c : Nat} (hc : c < 8) : u2 (rb r base Q V) r (base + 212 + c) x = rb r base Q (u2 V 8 (c) x) := by rw [Nat.add_assoc, rb_up (by omega), dk_went hc]
theorem dk_stood {c : Nat} (hc : c < 8) : dk (220 + c) = (12, c) := by
  rw [dkI_12 (by omega) (by omega), show 220 + c - 220 = c by omega]
theorem rd_stood {c : Nat} (hc : c < 8) : rb r base Q V r (base + 220 + c) = V 12 (c) := by rw [Nat.add_assoc, rb_seg (by omega), dk_stood hc]
theorem ru_stood {c : Nat} (hc : c < 8) : u2 (rb r base Q V) r (base + 220 + c) x = rb r base Q (u2 V 12 (c) x) := by rw [Nat.add_assoc, rb_up (by omega), dk_stood hc]
theorem dk_made {c : Nat} (hc : c < 8) : dk (228 + c) = (13, c) := by
  rw [dkI_13 (by omega) (by omega), show 228 + c - 228 = c by omega]
theorem rd_made {c : Nat} (hc : c < 8) : rb r base Q V r (base + 228 + c) = V 13 (c) := by rw [Nat.add_assoc, rb_seg (by omega), dk_made hc]
theorem ru_made {c : Nat} (hc : c < 8) : u2 (rb r base Q V) r (base + 228 + c) x = rb r base Q (u2 V 13 (c) x) := by rw [Nat.add_assoc, rb_up (by omega), dk_made hc]
theorem dk_found {c : Nat} (hc : c < 8) : dk (236 + c) = (10, c) := by
  rw [dkI_10 (by omega) (by omega), show 236 + c - 236 = c by omega]
theorem rd_found {c : Nat} (hc : c < 8) : rb r base Q V r (base + 236 + c) = V 10 (c) := by rw [Nat.add_assoc, rb_seg (by omega), dk_found hc]
theorem ru_found {c : Nat} (hc : c < 8) : u2 (rb r base Q V) r (base + 236 + c) x = rb r base Q (u2 V 10 (c) x) := by rw [Nat.add_assoc, rb_up (by omega), dk_found hc]
theorem dk_latest {c : Nat} (hc : c < 8) : dk (244 + c) = (9, c) := by
  rw [dkI_9 (by omega) (by omega), show 244 + c - 244 = c by omega]
theorem rd_latest {c : Nat} (hc : c < 8) : rb r base Q V r (base + 244 + c) = V 9 (c) := by rw [Nat.add_assoc, rb_seg (by omega), dk_latest hc]
theorem ru_latest {c : Nat} (hc : c < 8) : u2 (rb r base Q V) r (base + 244 + c) x = rb r base Q (u2 V 9 (c) x) := by rw [Nat.add_assoc, rb_up (by omega), dk_latest hc]
theorem dk_now {c : Nat} (hc : c < 8) : dk (252 + c) = (14, c) := by
  rw [dkI_14 (by omega) (by omega), show 252 + c - 252 = c by omega]
theorem rd_now {c : Nat} (hc : c < 8) : rb r base Q V r (base + 252 + c) = V 14 (c) := by rw [Nat.add_assoc, rb_seg (by omega), dk_now hc]
theorem ru_now {c : Nat} (hc : c < 8) : u2 (rb r base Q V) r (base + 252 + c) x = rb r base Q (u2 V 14 (c) x) := by rw [Nat.add_assoc, rb_up (by omega), dk_now hc]
theorem dk_fed {c : Nat} (hc : c < 6) : dk (260 + c) = (11, c) := by
  rw [dkI_11 (by omega), show 260 + c - 260 = c by omega]
theorem rd_fed {c : Nat} (hc : c < 6) : rb r base Q V r (base + 260 + c) = V 11 (c) := by rw [Nat.add_assoc, rb_seg (by omega), dk_fed hc]
theorem ru_fed {c : Nat} (hc : c < 6) : u2 (rb r base Q V) r (base + 260 + c) x = rb r base Q (u2 V 11 (c) x) := by rw [Nat.add_assoc, rb_up (by omega), dk_fed hc]
theorem dk_brought {c : Nat} (hc : c < 6) : dk (266 + c) = (11, 6 + c) := by
  rw [dkI_11 (by omega), show 266 + c - 260 = 6 + c by omega]
theorem rd_brought {c : Nat} (hc : c < 6) : rb r base Q V r (base + 266 + c) = V 11 (6 + c) := by rw [Nat.add_assoc, rb_seg (by omega), dk_brought hc]
theorem ru_brought {c : Nat} (hc : c < 6) : u2 (rb r base Q V) r (base + 266 + c) x = rb r base Q (u2 V 11 (6 + c) x) := by rw [Nat.add_assoc, rb_up (by omega), dk_brought hc]
theorem dk_given {c : Nat} (hc : c < 6) : dk (272 + c) = (11, 12 + c) := by
  rw [dkI_11 (by omega), show 272 + c - 260 = 12 + c by omega]
theorem rd_given {c : Nat} (hc : c < 6) : rb r base Q V r (base + 272 + c) = V 11 (12 + c) := by rw [Nat.add_assoc, rb_seg (by omega), dk_given hc]
theorem ru_given {c : Nat} (hc : c < 6) : u2 (rb r base Q V) r (base + 272 + c) x = rb r base Q (u2 V 11 (12 + c) x) := by rw [Nat.add_assoc, rb_up (by omega), dk_given hc]
theorem dk_used {c : Nat} (hc : c < 6) : dk (278 + c) = (11, 18 + c) := by
  rw [dkI_11 (by omega), show 278 + c - 260 = 18 + c by omega]
theorem rd_used {c : Nat} (hc : c < 6) : rb r base Q V r (base + 278 + c) = V 11 (18 + c) := by rw [Nat.add_assoc, rb_seg (by omega), dk_used hc]
theorem ru_used {c : Nat} (hc : c < 6) : u2 (rb r base Q V) r (base + 278 + c) x = rb r base Q (u2 V 11 (18 + c) x) := by rw [Nat.add_assoc, rb_up (by omega), dk_used hc]
theorem dk_lost {c : Nat} (hc : c < 6) : dk (284 + c) = (11, 24 + c) := by
  rw [dkI_11 (by omega), show 284 + c - 260 = 24 + c by omega]
theorem rd_lost {c : Nat} (hc : c < 6) : rb r base Q V r (base + 284 + c) = V 11 (24 + c) := by rw [Nat.add_assoc, rb_seg (by omega), dk_lost hc]
theorem ru_lost {c : Nat} (hc : c < 6) : u2 (rb r base Q V) r (base + 284 + c) x = rb r base Q (u2 V 11 (24 + c) x) := by rw [Nat.add_assoc, rb_up (by omega), dk_lost hc]
theorem dk_out {c : Nat} (hc : c < 6) : dk (290 + c) = (11, 30 + c) := by
  rw [dkI_11 (by omega), show 290 + c - 260 = 30 + c by omega]
theorem rd_out {c : Nat} (hc : c < 6) : rb r base Q V r (base + 290 + c) = V 11 (30 + c) := by rw [Nat.add_assoc, rb_seg (by omega), dk_out hc]
theorem ru_out {c : Nat} (hc : c < 6) : u2 (rb r base Q V) r (base + 290 + c) x = rb r base Q (u2 V 11 (30 + c) x) := by rw [Nat.add_assoc, rb_up (by omega), dk_out hc]
end MVw

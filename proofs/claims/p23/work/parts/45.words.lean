/-! ===== Words, Forms: what they answer ===== -/
theorem has_iff {n : Nat} (hn : n < 2 ^ 31) (x : Int32) : (if x < 0 then some 0 else (if nI n ≤ x then some 0 else some 1) : Option Int32) = some (if 0 ≤ x.toInt ∧ x.toInt < n then 1 else 0) := by
  have h1 : (x < 0) ↔ x.toInt < 0 := by rw [Int32.lt_iff_toInt_lt, pz0]
  have h2 : (nI n ≤ x) ↔ (n : Int) ≤ x.toInt := by rw [Int32.le_iff_toInt_le, nI_toInt hn]
  by_cases c1 : x < 0
  · rw [if_pos c1, if_neg (by rw [h1] at c1; omega)]
  · rw [if_neg c1]
    by_cases c2 : nI n ≤ x
    · rw [if_pos c2, if_neg (by rw [h2] at c2; omega)]
    · rw [if_neg c2, if_pos (by rw [h1] at c1; rw [h2] at c2; omega)]
theorem whas_t (s : S10) {n : Nat} (hn : n < 2 ^ 31) (hs : s10_size s = nI n) (x : Int32) : F_X10_has s x = some (if 0 ≤ x.toInt ∧ x.toInt < n then 1 else 0) := by
  unfold F_X10_has; rw [hs]; exact has_iff hn x
theorem fhas_t (s : S1) {n : Nat} (hn : n < 2 ^ 31) (hs : s1_size s = nI n) (x : Int32) : F_X1_has s x = some (if 0 ≤ x.toInt ∧ x.toInt < n then 1 else 0) := by
  unfold F_X1_has; rw [hs]; exact has_iff hn x
theorem sound_t (s : S10) (x y : Int32) : F_X10_sound s x y = some (atv 48 (s10_sounds s) (x * 16 + y)) := by
  unfold F_X10_sound; rw [at_total (by decide)]; rfl
theorem meaning_t (s : S10) (x : Int32) : F_X10_meaning s x = some (atv 16 (s10_meanings s) x) := by
  unfold F_X10_meaning; rw [at_total (by decide)]; rfl
theorem syll_t (s : S10) (x : Int32) : F_X10_syllables s x = some (atv 16 (s10_syllables s) x) := by
  unfold F_X10_syllables; rw [at_total (by decide)]; rfl
theorem rhyme_t (s : S10) (x a b : Int32) : F_X10_rhyme s x a b = some (if a = b then 0 else if atv 48 (s10_sounds s) (x * 16 + a) = atv 48 (s10_sounds s) (x * 16 + b) then 1 else 0) := by
  unfold F_X10_rhyme
  by_cases h : a = b
  · rw [if_pos h, if_pos h]
  · rw [if_neg h, if_neg h, sound_t, sound_t]
    simp only [Option.bind_some]
    by_cases h2 : atv 48 (s10_sounds s) (x * 16 + a) = atv 48 (s10_sounds s) (x * 16 + b)
    · rw [if_pos h2, if_pos h2]
    · rw [if_neg h2, if_neg h2]
theorem metreOf_t (s : S7) (x : Int32) : F_X7_metreOf s x = some (atv 8 (s7_metres s) x) := by
  unfold F_X7_metreOf; rw [at_total (by decide)]; rfl
theorem setMetre_t (s : S7) (x v : Int32) : F_X7_setMetre s x v = some (u7_metres s (setv 8 (s7_metres s) x v)) := by
  unfold F_X7_setMetre; rw [set_total (by decide)]; rfl

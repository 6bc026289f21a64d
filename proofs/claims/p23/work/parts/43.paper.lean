/-! ===== Paper: every method answers ===== -/
theorem wordAt_t (s : S4) (x : Int32) : F_X4_wordAt s x = some (atv 8 (s4_words s) x) := by
  unfold F_X4_wordAt; rw [at_total (by decide)]; rfl
theorem thingAt_t (s : S4) (x : Int32) : F_X4_thingAt s x = some (atv 8 (s4_things s) x) := by
  unfold F_X4_thingAt; rw [at_total (by decide)]; rfl
theorem beforeAt_t (s : S4) (x : Int32) : F_X4_beforeAt s x = some (atv 8 (s4_befores s) x) := by
  unfold F_X4_beforeAt; rw [at_total (by decide)]; rfl
def laid (s : S4) (x a b c : Int32) : S4 := (setv 8 (s4_words s) x a, setv 8 (s4_things s) x b, setv 8 (s4_befores s) x c, s4_most s, s4_size s)
theorem lay_t (s : S4) (x a b c : Int32) : F_X4_lay s x a b c = some (laid s x a b c) := by
  unfold F_X4_lay
  rw [set_total (by decide)]; simp only [Option.bind_some]
  rw [set_total (by decide)]; simp only [Option.bind_some]
  rw [set_total (by decide)]; rfl
theorem has_t (s : S4) {n : Nat} (hn : n < 2 ^ 31) (hs : s4_size s = nI n) (x : Int32) : F_X4_has s x = some (if 0 ≤ x.toInt ∧ x.toInt < n then 1 else 0) := by
  unfold F_X4_has
  rw [hs]
  have h1 : (x < 0) ↔ x.toInt < 0 := by rw [Int32.lt_iff_toInt_lt, pz0]
  have h2 : (nI n ≤ x) ↔ (n : Int) ≤ x.toInt := by rw [Int32.le_iff_toInt_le, nI_toInt hn]
  by_cases c1 : x < 0
  · rw [if_pos c1, if_neg (by rw [h1] at c1; omega)]
  · rw [if_neg c1]
    by_cases c2 : nI n ≤ x
    · rw [if_pos c2, if_neg (by rw [h2] at c2; omega)]
    · rw [if_neg c2, if_pos (by rw [h1] at c1; rw [h2] at c2; omega)]
/-- a paper's line as three numbers; laying one -/
def ln (s : S4) (j : Nat) : Int32 × Int32 × Int32 := (s4_words s j, s4_things s j, s4_befores s j)
theorem lay_ln (s : S4) {k : Nat} (hk : k < 8) (a b c : Int32) (j : Nat) : ln (laid s (nI k) a b c) j = if j = k then (a, b, c) else ln s j := by
  unfold ln laid s4_words s4_things s4_befores
  simp only []
  rw [setvN hk (by decide), setvN hk (by decide), setvN hk (by decide)]
  unfold upd
  by_cases h : j = k
  · rw [if_pos h, if_pos h, if_pos h, if_pos h]
  · rw [if_neg h, if_neg h, if_neg h, if_neg h]
theorem lay_size (s : S4) (x a b c : Int32) : s4_size (laid s x a b c) = s4_size s := rfl
theorem lay_most (s : S4) (x a b c : Int32) : s4_most (laid s x a b c) = s4_most s := rfl
theorem ln_at (s : S4) {k : Nat} (hk : k < 8) : (atv 8 (s4_words s) (nI k), atv 8 (s4_things s) (nI k), atv 8 (s4_befores s) (nI k)) = ln s k := by
  rw [atvN hk (by decide), atvN hk (by decide), atvN hk (by decide)]; rfl
/-- s holds n lines, the lines p -/
def PP (s : S4) (n : Nat) (p : Nat → Int32 × Int32 × Int32) : Prop := s4_size s = nI n ∧ ∀ j, j < n → ln s j = p j
def insP {A : Type} (p : Nat → A) (k : Nat) (v : A) : Nat → A := fun j => if j < k then p j else if j = k then v else p (j - 1)
def remP {A : Type} (p : Nat → A) (k : Nat) : Nat → A := fun j => if j < k then p j else p (j + 1)

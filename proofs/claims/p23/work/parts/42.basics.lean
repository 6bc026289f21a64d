/-! ===== numbers, rows: what is total ===== -/
theorem pz0 : ((0 : Int32)).toInt = 0 := by decide
theorem pzm1 : ((-1 : Int32)).toInt = -1 := by decide
theorem vp_of {a : Int32} {n : Nat} (hn : n < 2 ^ 31) (h0 : ¬ a < 0) (h1 : ¬ nI n ≤ a) : vp_in a n := by
  rw [vp_in_iff]
  rw [Int32.lt_iff_toInt_lt] at h0
  rw [Int32.le_iff_toInt_le, nI_toInt hn] at h1
  have h2 := pz0
  omega
theorem aget_ok {n : Nat} {f : Nat → Int32} {i : Int32} (h : vp_in i n) : aget n f i = some (f i.toNatClampNeg) := by
  unfold aget
  exact if_neg h
theorem aset_ok {n : Nat} {f : Nat → Int32} {i : Int32} (x : Int32) (h : vp_in i n) : aset n f i x = some (upd f i.toNatClampNeg x) := by
  unfold aset
  exact if_neg h
theorem agetL_ok {n : Nat} {f : Nat → Int64} {i : Int32} (h : vp_in i n) : agetL n f i = some (f i.toNatClampNeg) := by
  unfold agetL
  exact if_neg h
theorem asetL_ok {n : Nat} {f : Nat → Int64} {i : Int32} (x : Int64) (h : vp_in i n) : asetL n f i x = some (vp_updL f i.toNatClampNeg x) := by
  unfold asetL
  exact if_neg h
theorem agN {n k : Nat} {f : Nat → Int32} (h : k < n) (hn : n < 2 ^ 31) : aget n f (nI k) = some (f k) := by
  rw [aget_ok (vp_in_nI h hn), nI_clamp (by omega)]
theorem asN {n k : Nat} {f : Nat → Int32} (x : Int32) (h : k < n) (hn : n < 2 ^ 31) : aset n f (nI k) x = some (upd f k x) := by
  rw [aset_ok x (vp_in_nI h hn), nI_clamp (by omega)]
theorem agLN {n k : Nat} {f : Nat → Int64} (h : k < n) (hn : n < 2 ^ 31) : agetL n f (nI k) = some (f k) := by
  rw [agetL_ok (vp_in_nI h hn), nI_clamp (by omega)]
theorem asLN {n k : Nat} {f : Nat → Int64} (x : Int64) (h : k < n) (hn : n < 2 ^ 31) : asetL n f (nI k) x = some (vp_updL f k x) := by
  rw [asetL_ok x (vp_in_nI h hn), nI_clamp (by omega)]
/-- what Rows.at answers, what Rows.set leaves -/
def atv (n : Nat) (f : Nat → Int32) (x : Int32) : Int32 := if x < 0 then 0 else if nI n ≤ x then 0 else f x.toNatClampNeg
def setv (n : Nat) (f : Nat → Int32) (x v : Int32) : Nat → Int32 := if x < 0 then f else if nI n ≤ x then f else upd f x.toNatClampNeg v
theorem at_total {n : Nat} (hn : n < 2 ^ 31) (f : Nat → Int32) (x : Int32) : F_X6_at n f x = some (atv n f x) := by
  unfold F_X6_at atv
  by_cases h0 : x < 0
  · rw [if_pos h0, if_pos h0]
  · rw [if_neg h0, if_neg h0]
    by_cases h1 : nI n ≤ x
    · rw [if_pos (show Int32.ofNat n ≤ x from h1), if_pos h1]
    · rw [if_neg (show ¬ Int32.ofNat n ≤ x from h1), if_neg h1, aget_ok (vp_of hn h0 h1)]
      rfl
theorem set_total {n : Nat} (hn : n < 2 ^ 31) (f : Nat → Int32) (x v : Int32) : F_X6_set n f x v = some (setv n f x v) := by
  unfold F_X6_set setv
  by_cases h0 : x < 0
  · rw [if_pos h0, if_pos h0]
  · rw [if_neg h0, if_neg h0]
    by_cases h1 : nI n ≤ x
    · rw [if_pos (show Int32.ofNat n ≤ x from h1), if_pos h1]
    · rw [if_neg (show ¬ Int32.ofNat n ≤ x from h1), if_neg h1, aset_ok v (vp_of hn h0 h1)]
      rfl
theorem atvN {n k : Nat} {f : Nat → Int32} (h : k < n) (hn : n < 2 ^ 31) : atv n f (nI k) = f k := by
  unfold atv
  rw [if_neg (nI_pos (by omega)), if_neg (nI_ge h hn), nI_clamp (by omega)]
theorem setvN {n k : Nat} {f : Nat → Int32} {v : Int32} (h : k < n) (hn : n < 2 ^ 31) : setv n f (nI k) v = upd f k v := by
  unfold setv
  rw [if_neg (nI_pos (by omega)), if_neg (nI_ge h hn), nI_clamp (by omega)]
/-- any number is below 0, or a place -/
theorem i_cases (x : Int32) : x < 0 ∨ ∃ k : Nat, k < 2 ^ 31 ∧ x = nI k := by
  by_cases h : x < 0
  · exact Or.inl h
  · exact Or.inr (nI_of h)
theorem in_spec (x : Int32) {a b : Nat} (ha : a < 2 ^ 31) (hb : b < 2 ^ 31) : F_X12_in x (nI a) (nI b) = some (if (a : Int) ≤ x.toInt ∧ x.toInt ≤ b then 1 else 0) := by
  unfold F_X12_in
  have h1 : (x < nI a) ↔ x.toInt < a := by rw [Int32.lt_iff_toInt_lt, nI_toInt ha]
  have h2 : (nI b < x) ↔ (b : Int) < x.toInt := by rw [Int32.lt_iff_toInt_lt, nI_toInt hb]
  by_cases c1 : x < nI a
  · rw [if_pos c1, if_neg (by rw [h1] at c1; omega)]
  · rw [if_neg c1]
    by_cases c2 : nI b < x
    · rw [if_pos c2, if_neg (by rw [h2] at c2; omega)]
    · rw [if_neg c2, if_pos (by rw [h1] at c1; rw [h2] at c2; omega)]

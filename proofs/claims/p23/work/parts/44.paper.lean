theorem nI_p1 (m : Nat) : nI (m + 1) - 1 = nI m := by rw [nI_succ]; exact Int32.add_sub_cancel _ _
theorem ins_loop (a b c : Int32) {k n : Nat} (hn : n < 8) (p : Nat → Int32 × Int32 × Int32) (M : Int32) : ∀ (f m : Nat) (z : S4), k ≤ m → m ≤ n → m - k < f → s4_size z = nI n → s4_most z = M → (∀ j, j < m → ln z j = p j) → (∀ j, m < j → j ≤ n → ln z j = p (j - 1)) → ∃ s', F_X4_insert_b26 (nI k) a b c f (nI m) z = some s' ∧ PP s' (n + 1) (insP p k (a, b, c)) ∧ s4_most s' = M := by
  intro f
  induction f with
  | zero => intro m z _ _ h; omega
  | succ f ih =>
    intro m z hkm hmn hf hs hM hlo hhi
    rw [F_X4_insert_b26]
    by_cases h : m ≤ k
    · have hmk : m = k := by omega
      subst hmk
      rw [if_pos (nI_le (Nat.le_refl m) (by omega)), lay_t]
      refine ⟨_, rfl, ⟨?_, ?_⟩, hM⟩
      · show s4_size z + 1 = nI (n + 1)
        rw [hs, nI_succ]
      · intro j hj
        show ln (laid z (nI m) a b c) j = _
        rw [lay_ln z (by omega)]
        unfold insP
        by_cases h1 : j = m
        · rw [if_pos h1, if_neg (by omega), if_pos h1]
        · rw [if_neg h1, if_neg h1]
          by_cases h2 : j < m
          · rw [if_pos h2]; exact hlo j h2
          · rw [if_neg h2]; exact hhi j (by omega) (by omega)
    · obtain ⟨m', rfl⟩ : ∃ m', m = m' + 1 := ⟨m - 1, by omega⟩
      rw [if_neg (nI_ge (by omega) (by omega))]
      rw [wordAt_t, thingAt_t, beforeAt_t, nI_p1]
      simp only [Option.bind_some]
      rw [lay_t]
      simp only [Option.bind_some, nm]
      refine ih m' _ (by omega) (by omega) (by omega) hs hM ?_ ?_
      · intro j hj
        rw [lay_ln z (by omega), if_neg (by omega)]
        exact hlo j (by omega)
      · intro j h1 h2
        rw [lay_ln z (by omega)]
        by_cases h3 : j = m' + 1
        · rw [if_pos h3, ln_at z (by omega), hlo m' (by omega), h3]; rfl
        · rw [if_neg h3]
          exact hhi j (by omega) h2
theorem ins_t (a b c : Int32) {s : S4} {k n : Nat} (hk : k ≤ n) (hn : n < 8) (hm : s4_most s = 8) {p : Nat → Int32 × Int32 × Int32} (h : PP s n p) : ∃ s', F_X4_insert s (nI k) a b c = some s' ∧ PP s' (n + 1) (insP p k (a, b, c)) ∧ s4_most s' = 8 := by
  have hfull : F_X4_isFull s = some 0 := by
    unfold F_X4_isFull
    rw [h.1, hm, if_pos (show nI n < (8 : Int32) from nI_lt (b := 8) hn (by decide))]
  unfold F_X4_insert
  rw [hfull]
  simp only [Option.bind_some, if_true, nm]
  rw [if_neg (nI_pos (by omega)), h.1, if_pos (nI_le hk (by omega))]
  exact ins_loop a b c hn p 8 fu n s hk (Nat.le_refl n) (by unfold fu; omega) h.1 hm (fun j hj => h.2 j hj) (fun j h1 h2 => by omega)
theorem rem_loop {k n : Nat} (hn : n < 8) (p : Nat → Int32 × Int32 × Int32) (M : Int32) : ∀ (f m : Nat) (z : S4), k ≤ m → m ≤ n → n - m < f → s4_size z = nI (n + 1) → s4_most z = M → (∀ j, j < m → ln z j = remP p k j) → (∀ j, m ≤ j → j ≤ n → j ≠ m ∨ True → j > m → ln z j = p j) → ∃ s', F_X4_remove_b11 (nI k) f (nI m) z = some s' ∧ PP s' n (remP p k) ∧ s4_most s' = M := by
  intro f
  induction f with
  | zero => intro m z _ _ h; omega
  | succ f ih =>
    intro m z hkm hmn hf hs hM hlo hhi
    rw [F_X4_remove_b11, hs, nI_p1]
    by_cases h : n ≤ m
    · rw [if_pos (nI_le h (by omega))]
      refine ⟨_, rfl, ⟨rfl, ?_⟩, hM⟩
      intro j hj
      exact hlo j (by omega)
    · rw [if_neg (nI_ge (by omega) (by omega))]
      rw [nI_1, wordAt_t, thingAt_t, beforeAt_t]
      simp only [Option.bind_some]
      rw [lay_t]
      simp only [Option.bind_some, nm]
      refine ih (m + 1) _ (by omega) (by omega) (by omega) hs hM ?_ ?_
      · intro j hj
        rw [lay_ln z (by omega)]
        by_cases h3 : j = m
        · rw [if_pos h3, ln_at z (by omega), hhi (m + 1) (by omega) (by omega) (Or.inr trivial) (by omega), h3]
          unfold remP
          rw [if_neg (by omega)]
        · rw [if_neg h3]
          exact hlo j (by omega)
      · intro j h1 h2 h3 h4
        rw [lay_ln z (by omega), if_neg (by omega)]
        exact hhi j (by omega) h2 (Or.inr trivial) (by omega)
theorem rem_t {s : S4} {k n : Nat} (hk : k ≤ n) (hn : n < 8) {p : Nat → Int32 × Int32 × Int32} (h : PP s (n + 1) p) : ∃ s', F_X4_remove s (nI k) = some s' ∧ PP s' n (remP p k) ∧ s4_most s' = s4_most s := by
  unfold F_X4_remove
  rw [has_t s (n := n + 1) (by omega) h.1, if_pos (by rw [nI_toInt (by omega)]; omega)]
  simp only [Option.bind_some, nm]
  rw [if_neg (by decide)]
  refine rem_loop hn p (s4_most s) fu k s (Nat.le_refl k) hk (by unfold fu; omega) h.1 rfl ?_ ?_
  · intro j hj
    rw [h.2 j (by omega)]
    unfold remP
    rw [if_pos hj]
  · intro j h1 h2 _ h4
    exact h.2 j (by omega)
theorem copy_loop {n : Nat} (hn : n ≤ 8) (a : S4) (p : Nat → Int32 × Int32 × Int32) (ha : ∀ j, j < n → ln a j = p j) (M : Int32) : ∀ (f m : Nat) (z : S4), m ≤ n → n - m < f → s4_size z = nI n → s4_most z = M → (∀ j, j < m → ln z j = p j) → ∃ s', F_X4_copyFrom_b17 a f (nI m) z = some s' ∧ PP s' n p ∧ s4_most s' = M := by
  intro f
  induction f with
  | zero => intro m z _ h; omega
  | succ f ih =>
    intro m z hmn hf hs hM hlo
    rw [F_X4_copyFrom_b17, hs]
    by_cases h : n ≤ m
    · rw [if_pos (nI_le h (by omega))]
      exact ⟨_, rfl, ⟨hs, fun j hj => hlo j (by omega)⟩, hM⟩
    · rw [if_neg (nI_ge (by omega) (by omega))]
      rw [wordAt_t, thingAt_t, beforeAt_t]
      simp only [Option.bind_some]
      rw [lay_t]
      simp only [Option.bind_some, nm]
      rw [nI_1]
      refine ih (m + 1) _ (by omega) (by omega) hs hM ?_
      intro j hj
      rw [lay_ln z (by omega)]
      by_cases h3 : j = m
      · rw [if_pos h3, ln_at a (by omega), ha m (by omega), h3]
      · rw [if_neg h3]
        exact hlo j (by omega)
theorem copy_t {a s : S4} {n M : Nat} (hM : M ≤ 8) (hnM : n ≤ M) (hm : s4_most s = nI M) {p : Nat → Int32 × Int32 × Int32} (h : PP a n p) : ∃ s', F_X4_copyFrom a s = some s' ∧ PP s' n p ∧ s4_most s' = nI M := by
  unfold F_X4_copyFrom F_X4_size
  simp only [Option.bind_some, nm]
  rw [h.1, hm, if_neg (nI_nlt hnM (by omega))]
  exact copy_loop (by omega) a p h.2 (nI M) fu 0 _ (by omega) (by unfold fu; omega) rfl hm (fun j hj => by omega)

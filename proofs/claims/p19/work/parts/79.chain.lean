/-! ===== the class's forms: the nearest line of a letter, pairs ===== -/
/-- the nearest line ahead of i of its letter -/
def ahS (L : Nat → Nat) (i : Nat) (r : Int32) : Prop := (r = -1 ∧ ∀ j, j < i → ¬ L j = L i) ∨ ∃ j, j < i ∧ L j = L i ∧ (∀ m, j < m → m < i → ¬ L m = L i) ∧ r = nI j
def bhS (L : Nat → Nat) (n i : Nat) (r : Int32) : Prop := (r = -1 ∧ ∀ j, i < j → j < n → ¬ L j = L i) ∨ ∃ j, i < j ∧ j < n ∧ L j = L i ∧ (∀ m, i < m → m < j → ¬ L m = L i) ∧ r = nI j
theorem let_eq {t1 : S1} {F f : Nat} {r : Nat → Int32} (hF : FR t1 F r) (hf : f < F) {i : Nat} (hi : i < 1000) : F_X1_letter t1 (nI f) (nI i) = some (nI (vL r f i)) := by
  rw [letter_t hF hf (by omega), (vL_lt hF hf i).2]
theorem ahead_s {t1 : S1} {F f : Nat} {r : Nat → Int32} (hF : FR t1 F r) (hf : f < F) {i : Nat} (hi : i < 1000) : An (F_X1_ahead t1 (nI f) (nI i)) (ahS (vL r f) i) := by
  unfold F_X1_ahead
  rw [nm_at]
  refine lp_dn (fun q v (_ : Unit) => F_X1_ahead_b4 t1 (nI f) (nI i) q v) (fun m _ => m ≤ i ∧ ∀ j, m ≤ j → j < i → ¬ vL r f j = vL r f i) _ ?_ ?_ fu i () (by unfold fu; omega) ⟨Nat.le_refl i, fun j h1 h2 => by omega⟩
  · intro q m _ ⟨hm, hn⟩ hK
    have l1 := (vL_lt hF hf m).1
    have l2 := (vL_lt hF hf i).1
    show An (F_X1_ahead_b4 t1 (nI f) (nI i) (q + 1) (nI m)) _
    rw [F_X1_ahead_b4, if_neg (nI_pos (by omega)), let_eq hF hf (by omega), Option.bind_some, let_eq hF hf (by omega), Option.bind_some]
    by_cases c : vL r f m = vL r f i
    · rw [if_pos (by rw [c])]
      exact An_some (Or.inr ⟨m, by omega, c, fun j h1 h2 => hn j (by omega) h2, rfl⟩)
    · rw [if_neg (by rw [nI_eq (by omega) (by omega)]; exact c), nm_at]
      refine hK () ⟨by omega, fun j h1 h2 => ?_⟩
      by_cases e : j = m
      · rw [e]; exact c
      · exact hn j (by omega) h2
  · intro q _ ⟨_, hn⟩
    show An (F_X1_ahead_b4 t1 (nI f) (nI i) (q + 1) (nI 0 - 1)) _
    rw [F_X1_ahead_b4, if_pos (show nI 0 - 1 < 0 from by decide)]
    exact An_some (Or.inl ⟨rfl, fun j h => hn j (by omega) h⟩)
theorem behind_s {t1 : S1} {F f : Nat} {r : Nat → Int32} (hF : FR t1 F r) (hf : f < F) {i n : Nat} (hi : i < n) (hn : n < 1000) : An (F_X1_behind t1 (nI f) (nI i) (nI n)) (bhS (vL r f) n i) := by
  unfold F_X1_behind
  rw [nm_at, nI_1]
  refine lp_up (fun q v (_ : Unit) => F_X1_behind_b5 t1 (nI f) (nI i) (nI n) q v) n (fun m _ => i < m ∧ ∀ j, i < j → j < m → ¬ vL r f j = vL r f i) _ ?_ ?_ fu (i + 1) () (by omega) (by unfold fu; omega) ⟨by omega, fun j h1 h2 => by omega⟩
  · intro q m _ hm ⟨h1, h2⟩ hK
    have l1 := (vL_lt hF hf m).1
    have l2 := (vL_lt hF hf i).1
    show An (F_X1_behind_b5 t1 (nI f) (nI i) (nI n) (q + 1) (nI m)) _
    rw [F_X1_behind_b5, if_neg (nI_ge hm (by omega)), let_eq hF hf (by omega), Option.bind_some, let_eq hF hf (by omega), Option.bind_some]
    by_cases c : vL r f m = vL r f i
    · rw [if_pos (by rw [c])]
      exact An_some (Or.inr ⟨m, h1, hm, c, h2, rfl⟩)
    · rw [if_neg (by rw [nI_eq (by omega) (by omega)]; exact c), nm_at, nI_1]
      refine hK () ⟨by omega, fun j h3 h4 => ?_⟩
      by_cases e : j = m
      · rw [e]; exact c
      · exact h2 j h3 (by omega)
  · intro q _ ⟨_, h2⟩
    show An (F_X1_behind_b5 t1 (nI f) (nI i) (nI n) (q + 1) (nI n)) _
    rw [F_X1_behind_b5, if_pos (nI_le (Nat.le_refl n) (by omega))]
    exact An_some (Or.inl ⟨rfl, h2⟩)
/-- every line has another of its letter, and there is one -/
def PRS (L : Nat → Nat) (n : Nat) : Prop := 0 < n ∧ ∀ i, i < n → ∃ j, j < n ∧ ¬ j = i ∧ L j = L i
theorem pairs_s {t1 : S1} {F f : Nat} {r : Nat → Int32} (hF : FR t1 F r) (hf : f < F) {n : Nat} (hn : n < 1000) : An (F_X1_pairs t1 (nI f) (nI n)) (fun x => (x = 1 ∧ PRS (vL r f) n) ∨ (x = 0 ∧ ¬ PRS (vL r f) n)) := by
  unfold F_X1_pairs
  rw [nm_at]
  refine lp_up (fun q v (_ : Unit) => F_X1_pairs_b2 t1 (nI f) (nI n) q v) n (fun m _ => ∀ i, i < m → ∃ j, j < n ∧ ¬ j = i ∧ vL r f j = vL r f i) _ ?_ ?_ fu 0 () (by omega) (by unfold fu; omega) (fun i hi => by omega)
  · intro q m _ hm h hK
    show An (F_X1_pairs_b2 t1 (nI f) (nI n) (q + 1) (nI m)) _
    rw [F_X1_pairs_b2, if_neg (nI_ge hm (by omega))]
    have k : (∃ j, j < n ∧ ¬ j = m ∧ vL r f j = vL r f m) → An (F_X1_pairs_b28 t1 (nI f) (nI n) (F_X1_pairs_b2 t1 (nI f) (nI n) q) (nI m)) (fun x => (x = 1 ∧ PRS (vL r f) n) ∨ (x = 0 ∧ ¬ PRS (vL r f) n)) := by
      intro e
      unfold F_X1_pairs_b28
      rw [nm_at, nI_1]
      refine hK () fun i hi => ?_
      by_cases c : i = m
      · rw [c]; exact e
      · exact h i (by omega)
    refine An_bind (ahead_s hF hf (by omega)) fun a ha => ?_
    rcases ha with ⟨ea, na⟩ | ⟨j, j1, j2, -, ea⟩
    · rw [ea, if_neg (show ¬ (0 : Int32) ≤ -1 from by decide)]
      refine An_bind (behind_s hF hf hm hn) fun b hb => ?_
      rcases hb with ⟨eb, nb⟩ | ⟨j, j1, j2, j3, -, eb⟩
      · rw [eb, if_neg (show ¬ (0 : Int32) ≤ -1 from by decide)]
        refine An_some (Or.inr ⟨rfl, fun hp => ?_⟩)
        obtain ⟨j, j1, j2, j3⟩ := hp.2 m hm
        rcases Nat.lt_or_ge j m with c | c
        · exact na j c j3
        · exact nb j (by omega) j1 j3
      · rw [eb, if_pos (show (0 : Int32) ≤ nI j from nI_pos' (by omega))]
        exact k ⟨j, j2, by omega, j3⟩
    · rw [ea, if_pos (show (0 : Int32) ≤ nI j from nI_pos' (by omega))]
      exact k ⟨j, by omega, by omega, j2⟩
  · intro q _ h
    show An (F_X1_pairs_b2 t1 (nI f) (nI n) (q + 1) (nI n)) _
    rw [F_X1_pairs_b2, if_pos (nI_le (Nat.le_refl n) (by omega))]
    by_cases c : n = 0
    · rw [if_pos (show nI n ≤ 0 from by rw [c]; decide)]
      exact An_some (Or.inr ⟨rfl, fun hp => by have := hp.1; omega⟩)
    · rw [if_neg (show ¬ nI n ≤ 0 from nI_ge (a := 0) (by omega) (by omega))]
      exact An_some (Or.inl ⟨rfl, by omega, h⟩)

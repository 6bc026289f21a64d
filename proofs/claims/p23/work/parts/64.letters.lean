/-! ===== keywords and letters, the reference ===== -/
theorem is01_if {c p : Prop} [Decidable c] (h : c ↔ p) : is01 p (if c then nI 1 else nI 0) := by
  by_cases g : c
  · rw [if_pos g]; exact is01_1 (h.mp g)
  · rw [if_neg g]; exact is01_0 fun z => g (h.mpr z)
theorem says_word {m : SM} {T a : Nat} {r : Nat → Int32} (h : MT m T r) (ha : a ≤ T) (hR : RC m T r a) : An (F_X12_says m 119 111 114 100 0) (is01 (nmd (tb0 r) T a [119, 111, 114, 100])) := by
  obtain ⟨c1, c2, c3, c4⟩ := hR
  have h500 := h.1
  have hS := tS_le (b := tb0 r) ha
  have hE := tE_le (b := tb0 r) ha
  have kk := tK_lt (tb0 r) T a
  unfold F_X12_says
  rw [if_pos (show (0 : Int32) ≤ 0 from by decide)]
  unfold F_X12_says_b10
  rw [nm_at, c1, c2, c3]
  by_cases c : tK (tb0 r) T a = 1
  · rw [if_pos (by rw [c]; rfl), nI_sub hE.1]
    by_cases d : tE (tb0 r) T a - tS (tb0 r) T a = 4
    · rw [if_pos (show nI (tE (tb0 r) T a - tS (tb0 r) T a) = 4 from by rw [d]; rfl)]
      have at_ : ∀ i, i < 4 → F_X12_byteAt m (nI (tS (tb0 r) T a + i)) = some (nI (tb0 r (tS (tb0 r) T a + i))) := by
        intro i hi
        rw [byteM_t h (by omega), if_pos (by omega)]
      have eq_ : ∀ i x, i < 4 → x < 1000 → (nI (tb0 r (tS (tb0 r) T a + i)) = nI x ↔ tb0 r (tS (tb0 r) T a + i) = x) := by
        intro i x hi hx
        have := (h.2.2.2 (tS (tb0 r) T a + i) (by omega)).2
        exact nI_eq (by omega) (by omega)
      have no : ∀ i, i < 4 → ¬ tb0 r (tS (tb0 r) T a + i) = ([119, 111, 114, 100] : List Nat).getD i 0 → An (some (0 : Int32)) (is01 (nmd (tb0 r) T a [119, 111, 114, 100])) := fun i hi y => An_some (is01_0 fun z => y (z.2.2 i hi))
      rw [show F_X12_byteAt m (nI (tS (tb0 r) T a)) = some (nI (tb0 r (tS (tb0 r) T a + 0))) from by rw [← at_ 0 (by omega)]; rfl, Option.bind_some]
      refine Decidable.byCases (p := tb0 r (tS (tb0 r) T a + 0) = 119) (fun g0 => ?_) (fun g0 => by rw [if_neg (show ¬ nI (tb0 r (tS (tb0 r) T a + 0)) = 119 from fun z => g0 ((eq_ 0 119 (by omega) (by omega)).mp z))]; exact no 0 (by omega) g0)
      rw [if_pos (show nI (tb0 r (tS (tb0 r) T a + 0)) = 119 from (eq_ 0 119 (by omega) (by omega)).mpr g0)]
      rw [show F_X12_byteAt m (nI (tS (tb0 r) T a) + 1) = some (nI (tb0 r (tS (tb0 r) T a + 1))) from by rw [← at_ 1 (by omega)]; rw [show (1 : Int32) = nI 1 from rfl, nI_add], Option.bind_some]
      refine Decidable.byCases (p := tb0 r (tS (tb0 r) T a + 1) = 111) (fun g1 => ?_) (fun g1 => by rw [if_neg (show ¬ nI (tb0 r (tS (tb0 r) T a + 1)) = 111 from fun z => g1 ((eq_ 1 111 (by omega) (by omega)).mp z))]; exact no 1 (by omega) g1)
      rw [if_pos (show nI (tb0 r (tS (tb0 r) T a + 1)) = 111 from (eq_ 1 111 (by omega) (by omega)).mpr g1)]
      rw [show F_X12_byteAt m (nI (tS (tb0 r) T a) + 2) = some (nI (tb0 r (tS (tb0 r) T a + 2))) from by rw [← at_ 2 (by omega)]; rw [show (2 : Int32) = nI 2 from rfl, nI_add], Option.bind_some]
      refine Decidable.byCases (p := tb0 r (tS (tb0 r) T a + 2) = 114) (fun g2 => ?_) (fun g2 => by rw [if_neg (show ¬ nI (tb0 r (tS (tb0 r) T a + 2)) = 114 from fun z => g2 ((eq_ 2 114 (by omega) (by omega)).mp z))]; exact no 2 (by omega) g2)
      rw [if_pos (show nI (tb0 r (tS (tb0 r) T a + 2)) = 114 from (eq_ 2 114 (by omega) (by omega)).mpr g2)]
      rw [show F_X12_byteAt m (nI (tS (tb0 r) T a) + 3) = some (nI (tb0 r (tS (tb0 r) T a + 3))) from by rw [← at_ 3 (by omega)]; rw [show (3 : Int32) = nI 3 from rfl, nI_add], Option.bind_some]
      refine Decidable.byCases (p := tb0 r (tS (tb0 r) T a + 3) = 100) (fun g3 => ?_) (fun g3 => by rw [if_neg (show ¬ nI (tb0 r (tS (tb0 r) T a + 3)) = 100 from fun z => g3 ((eq_ 3 100 (by omega) (by omega)).mp z))]; exact no 3 (by omega) g3)
      rw [if_pos (show nI (tb0 r (tS (tb0 r) T a + 3)) = 100 from (eq_ 3 100 (by omega) (by omega)).mpr g3)]
      rw [if_pos (show (4 : Int32) = 4 from rfl)]
      refine An_some (is01_1 ⟨c, by show _ = _ + 4; omega, fun i hi => ?_⟩)
      simp only [List.length_cons, List.length_nil] at hi
      obtain rfl | rfl | rfl | rfl : i = 0 ∨ i = 1 ∨ i = 2 ∨ i = 3 := by omega
      · exact g0
      · exact g1
      · exact g2
      · exact g3
    · rw [if_neg (show ¬ nI (tE (tb0 r) T a - tS (tb0 r) T a) = 4 from by rw [show (4 : Int32) = nI 4 from rfl, nI_eq (by omega) (by omega)]; exact d)]
      exact An_some (is01_0 fun z => d (by have := z.2.1; simp only [List.length_cons, List.length_nil] at this; omega))
  · rw [if_neg (show ¬ nI (tK (tb0 r) T a) = 1 from by rw [show (1 : Int32) = nI 1 from rfl, nI_eq (by omega) (by omega)]; exact c)]
    exact An_some (is01_0 fun z => c z.1)
theorem says_form {m : SM} {T a : Nat} {r : Nat → Int32} (h : MT m T r) (ha : a ≤ T) (hR : RC m T r a) : An (F_X12_says m 102 111 114 109 0) (is01 (nmd (tb0 r) T a [102, 111, 114, 109])) := by
  obtain ⟨c1, c2, c3, c4⟩ := hR
  have h500 := h.1
  have hS := tS_le (b := tb0 r) ha
  have hE := tE_le (b := tb0 r) ha
  have kk := tK_lt (tb0 r) T a
  unfold F_X12_says
  rw [if_pos (show (0 : Int32) ≤ 0 from by decide)]
  unfold F_X12_says_b10
  rw [nm_at, c1, c2, c3]
  by_cases c : tK (tb0 r) T a = 1
  · rw [if_pos (by rw [c]; rfl), nI_sub hE.1]
    by_cases d : tE (tb0 r) T a - tS (tb0 r) T a = 4
    · rw [if_pos (show nI (tE (tb0 r) T a - tS (tb0 r) T a) = 4 from by rw [d]; rfl)]
      have at_ : ∀ i, i < 4 → F_X12_byteAt m (nI (tS (tb0 r) T a + i)) = some (nI (tb0 r (tS (tb0 r) T a + i))) := by
        intro i hi
        rw [byteM_t h (by omega), if_pos (by omega)]
      have eq_ : ∀ i x, i < 4 → x < 1000 → (nI (tb0 r (tS (tb0 r) T a + i)) = nI x ↔ tb0 r (tS (tb0 r) T a + i) = x) := by
        intro i x hi hx
        have := (h.2.2.2 (tS (tb0 r) T a + i) (by omega)).2
        exact nI_eq (by omega) (by omega)
      have no : ∀ i, i < 4 → ¬ tb0 r (tS (tb0 r) T a + i) = ([102, 111, 114, 109] : List Nat).getD i 0 → An (some (0 : Int32)) (is01 (nmd (tb0 r) T a [102, 111, 114, 109])) := fun i hi y => An_some (is01_0 fun z => y (z.2.2 i hi))
      rw [show F_X12_byteAt m (nI (tS (tb0 r) T a)) = some (nI (tb0 r (tS (tb0 r) T a + 0))) from by rw [← at_ 0 (by omega)]; rfl, Option.bind_some]
      refine Decidable.byCases (p := tb0 r (tS (tb0 r) T a + 0) = 102) (fun g0 => ?_) (fun g0 => by rw [if_neg (show ¬ nI (tb0 r (tS (tb0 r) T a + 0)) = 102 from fun z => g0 ((eq_ 0 102 (by omega) (by omega)).mp z))]; exact no 0 (by omega) g0)
      rw [if_pos (show nI (tb0 r (tS (tb0 r) T a + 0)) = 102 from (eq_ 0 102 (by omega) (by omega)).mpr g0)]
      rw [show F_X12_byteAt m (nI (tS (tb0 r) T a) + 1) = some (nI (tb0 r (tS (tb0 r) T a + 1))) from by rw [← at_ 1 (by omega)]; rw [show (1 : Int32) = nI 1 from rfl, nI_add], Option.bind_some]
      refine Decidable.byCases (p := tb0 r (tS (tb0 r) T a + 1) = 111) (fun g1 => ?_) (fun g1 => by rw [if_neg (show ¬ nI (tb0 r (tS (tb0 r) T a + 1)) = 111 from fun z => g1 ((eq_ 1 111 (by omega) (by omega)).mp z))]; exact no 1 (by omega) g1)
      rw [if_pos (show nI (tb0 r (tS (tb0 r) T a + 1)) = 111 from (eq_ 1 111 (by omega) (by omega)).mpr g1)]
      rw [show F_X12_byteAt m (nI (tS (tb0 r) T a) + 2) = some (nI (tb0 r (tS (tb0 r) T a + 2))) from by rw [← at_ 2 (by omega)]; rw [show (2 : Int32) = nI 2 from rfl, nI_add], Option.bind_some]
      refine Decidable.byCases (p := tb0 r (tS (tb0 r) T a + 2) = 114) (fun g2 => ?_) (fun g2 => by rw [if_neg (show ¬ nI (tb0 r (tS (tb0 r) T a + 2)) = 114 from fun z => g2 ((eq_ 2 114 (by omega) (by omega)).mp z))]; exact no 2 (by omega) g2)
      rw [if_pos (show nI (tb0 r (tS (tb0 r) T a + 2)) = 114 from (eq_ 2 114 (by omega) (by omega)).mpr g2)]
      rw [show F_X12_byteAt m (nI (tS (tb0 r) T a) + 3) = some (nI (tb0 r (tS (tb0 r) T a + 3))) from by rw [← at_ 3 (by omega)]; rw [show (3 : Int32) = nI 3 from rfl, nI_add], Option.bind_some]
      refine Decidable.byCases (p := tb0 r (tS (tb0 r) T a + 3) = 109) (fun g3 => ?_) (fun g3 => by rw [if_neg (show ¬ nI (tb0 r (tS (tb0 r) T a + 3)) = 109 from fun z => g3 ((eq_ 3 109 (by omega) (by omega)).mp z))]; exact no 3 (by omega) g3)
      rw [if_pos (show nI (tb0 r (tS (tb0 r) T a + 3)) = 109 from (eq_ 3 109 (by omega) (by omega)).mpr g3)]
      rw [if_pos (show (4 : Int32) = 4 from rfl)]
      refine An_some (is01_1 ⟨c, by show _ = _ + 4; omega, fun i hi => ?_⟩)
      simp only [List.length_cons, List.length_nil] at hi
      obtain rfl | rfl | rfl | rfl : i = 0 ∨ i = 1 ∨ i = 2 ∨ i = 3 := by omega
      · exact g0
      · exact g1
      · exact g2
      · exact g3
    · rw [if_neg (show ¬ nI (tE (tb0 r) T a - tS (tb0 r) T a) = 4 from by rw [show (4 : Int32) = nI 4 from rfl, nI_eq (by omega) (by omega)]; exact d)]
      exact An_some (is01_0 fun z => d (by have := z.2.1; simp only [List.length_cons, List.length_nil] at this; omega))
  · rw [if_neg (show ¬ nI (tK (tb0 r) T a) = 1 from by rw [show (1 : Int32) = nI 1 from rfl, nI_eq (by omega) (by omega)]; exact c)]
    exact An_some (is01_0 fun z => c z.1)
theorem says_metre {m : SM} {T a : Nat} {r : Nat → Int32} (h : MT m T r) (ha : a ≤ T) (hR : RC m T r a) : An (F_X12_says m 109 101 116 114 101) (is01 (nmd (tb0 r) T a [109, 101, 116, 114, 101])) := by
  obtain ⟨c1, c2, c3, c4⟩ := hR
  have h500 := h.1
  have hS := tS_le (b := tb0 r) ha
  have hE := tE_le (b := tb0 r) ha
  have kk := tK_lt (tb0 r) T a
  unfold F_X12_says
  rw [if_neg (show ¬ (101 : Int32) ≤ 0 from by decide)]
  unfold F_X12_says_b10
  rw [nm_at, c1, c2, c3]
  by_cases c : tK (tb0 r) T a = 1
  · rw [if_pos (by rw [c]; rfl), nI_sub hE.1]
    by_cases d : tE (tb0 r) T a - tS (tb0 r) T a = 5
    · rw [if_pos (show nI (tE (tb0 r) T a - tS (tb0 r) T a) = 5 from by rw [d]; rfl)]
      have at_ : ∀ i, i < 5 → F_X12_byteAt m (nI (tS (tb0 r) T a + i)) = some (nI (tb0 r (tS (tb0 r) T a + i))) := by
        intro i hi
        rw [byteM_t h (by omega), if_pos (by omega)]
      have eq_ : ∀ i x, i < 5 → x < 1000 → (nI (tb0 r (tS (tb0 r) T a + i)) = nI x ↔ tb0 r (tS (tb0 r) T a + i) = x) := by
        intro i x hi hx
        have := (h.2.2.2 (tS (tb0 r) T a + i) (by omega)).2
        exact nI_eq (by omega) (by omega)
      have no : ∀ i, i < 5 → ¬ tb0 r (tS (tb0 r) T a + i) = ([109, 101, 116, 114, 101] : List Nat).getD i 0 → An (some (0 : Int32)) (is01 (nmd (tb0 r) T a [109, 101, 116, 114, 101])) := fun i hi y => An_some (is01_0 fun z => y (z.2.2 i hi))
      rw [show F_X12_byteAt m (nI (tS (tb0 r) T a)) = some (nI (tb0 r (tS (tb0 r) T a + 0))) from by rw [← at_ 0 (by omega)]; rfl, Option.bind_some]
      refine Decidable.byCases (p := tb0 r (tS (tb0 r) T a + 0) = 109) (fun g0 => ?_) (fun g0 => by rw [if_neg (show ¬ nI (tb0 r (tS (tb0 r) T a + 0)) = 109 from fun z => g0 ((eq_ 0 109 (by omega) (by omega)).mp z))]; exact no 0 (by omega) g0)
      rw [if_pos (show nI (tb0 r (tS (tb0 r) T a + 0)) = 109 from (eq_ 0 109 (by omega) (by omega)).mpr g0)]
      rw [show F_X12_byteAt m (nI (tS (tb0 r) T a) + 1) = some (nI (tb0 r (tS (tb0 r) T a + 1))) from by rw [← at_ 1 (by omega)]; rw [show (1 : Int32) = nI 1 from rfl, nI_add], Option.bind_some]
      refine Decidable.byCases (p := tb0 r (tS (tb0 r) T a + 1) = 101) (fun g1 => ?_) (fun g1 => by rw [if_neg (show ¬ nI (tb0 r (tS (tb0 r) T a + 1)) = 101 from fun z => g1 ((eq_ 1 101 (by omega) (by omega)).mp z))]; exact no 1 (by omega) g1)
      rw [if_pos (show nI (tb0 r (tS (tb0 r) T a + 1)) = 101 from (eq_ 1 101 (by omega) (by omega)).mpr g1)]
      rw [show F_X12_byteAt m (nI (tS (tb0 r) T a) + 2) = some (nI (tb0 r (tS (tb0 r) T a + 2))) from by rw [← at_ 2 (by omega)]; rw [show (2 : Int32) = nI 2 from rfl, nI_add], Option.bind_some]
      refine Decidable.byCases (p := tb0 r (tS (tb0 r) T a + 2) = 116) (fun g2 => ?_) (fun g2 => by rw [if_neg (show ¬ nI (tb0 r (tS (tb0 r) T a + 2)) = 116 from fun z => g2 ((eq_ 2 116 (by omega) (by omega)).mp z))]; exact no 2 (by omega) g2)
      rw [if_pos (show nI (tb0 r (tS (tb0 r) T a + 2)) = 116 from (eq_ 2 116 (by omega) (by omega)).mpr g2)]
      rw [show F_X12_byteAt m (nI (tS (tb0 r) T a) + 3) = some (nI (tb0 r (tS (tb0 r) T a + 3))) from by rw [← at_ 3 (by omega)]; rw [show (3 : Int32) = nI 3 from rfl, nI_add], Option.bind_some]
      refine Decidable.byCases (p := tb0 r (tS (tb0 r) T a + 3) = 114) (fun g3 => ?_) (fun g3 => by rw [if_neg (show ¬ nI (tb0 r (tS (tb0 r) T a + 3)) = 114 from fun z => g3 ((eq_ 3 114 (by omega) (by omega)).mp z))]; exact no 3 (by omega) g3)
      rw [if_pos (show nI (tb0 r (tS (tb0 r) T a + 3)) = 114 from (eq_ 3 114 (by omega) (by omega)).mpr g3)]
      rw [if_neg (show ¬ (5 : Int32) = 4 from by decide)]
      rw [show F_X12_byteAt m (nI (tS (tb0 r) T a) + 4) = some (nI (tb0 r (tS (tb0 r) T a + 4))) from by rw [← at_ 4 (by omega)]; rw [show (4 : Int32) = nI 4 from rfl, nI_add], Option.bind_some]
      refine Decidable.byCases (p := tb0 r (tS (tb0 r) T a + 4) = 101) (fun g4 => ?_) (fun g4 => by rw [if_neg (show ¬ nI (tb0 r (tS (tb0 r) T a + 4)) = 101 from fun z => g4 ((eq_ 4 101 (by omega) (by omega)).mp z))]; exact no 4 (by omega) g4)
      rw [if_pos (show nI (tb0 r (tS (tb0 r) T a + 4)) = 101 from (eq_ 4 101 (by omega) (by omega)).mpr g4)]
      refine An_some (is01_1 ⟨c, by show _ = _ + 5; omega, fun i hi => ?_⟩)
      simp only [List.length_cons, List.length_nil] at hi
      obtain rfl | rfl | rfl | rfl | rfl : i = 0 ∨ i = 1 ∨ i = 2 ∨ i = 3 ∨ i = 4 := by omega
      · exact g0
      · exact g1
      · exact g2
      · exact g3
      · exact g4
    · rw [if_neg (show ¬ nI (tE (tb0 r) T a - tS (tb0 r) T a) = 5 from by rw [show (5 : Int32) = nI 5 from rfl, nI_eq (by omega) (by omega)]; exact d)]
      exact An_some (is01_0 fun z => d (by have := z.2.1; simp only [List.length_cons, List.length_nil] at this; omega))
  · rw [if_neg (show ¬ nI (tK (tb0 r) T a) = 1 from by rw [show (1 : Int32) = nI 1 from rfl, nI_eq (by omega) (by omega)]; exact c)]
    exact An_some (is01_0 fun z => c z.1)
theorem says_line {m : SM} {T a : Nat} {r : Nat → Int32} (h : MT m T r) (ha : a ≤ T) (hR : RC m T r a) : An (F_X12_says m 108 105 110 101 0) (is01 (nmd (tb0 r) T a [108, 105, 110, 101])) := by
  obtain ⟨c1, c2, c3, c4⟩ := hR
  have h500 := h.1
  have hS := tS_le (b := tb0 r) ha
  have hE := tE_le (b := tb0 r) ha
  have kk := tK_lt (tb0 r) T a
  unfold F_X12_says
  rw [if_pos (show (0 : Int32) ≤ 0 from by decide)]
  unfold F_X12_says_b10
  rw [nm_at, c1, c2, c3]
  by_cases c : tK (tb0 r) T a = 1
  · rw [if_pos (by rw [c]; rfl), nI_sub hE.1]
    by_cases d : tE (tb0 r) T a - tS (tb0 r) T a = 4
    · rw [if_pos (show nI (tE (tb0 r) T a - tS (tb0 r) T a) = 4 from by rw [d]; rfl)]
      have at_ : ∀ i, i < 4 → F_X12_byteAt m (nI (tS (tb0 r) T a + i)) = some (nI (tb0 r (tS (tb0 r) T a + i))) := by
        intro i hi
        rw [byteM_t h (by omega), if_pos (by omega)]
      have eq_ : ∀ i x, i < 4 → x < 1000 → (nI (tb0 r (tS (tb0 r) T a + i)) = nI x ↔ tb0 r (tS (tb0 r) T a + i) = x) := by
        intro i x hi hx
        have := (h.2.2.2 (tS (tb0 r) T a + i) (by omega)).2
        exact nI_eq (by omega) (by omega)
      have no : ∀ i, i < 4 → ¬ tb0 r (tS (tb0 r) T a + i) = ([108, 105, 110, 101] : List Nat).getD i 0 → An (some (0 : Int32)) (is01 (nmd (tb0 r) T a [108, 105, 110, 101])) := fun i hi y => An_some (is01_0 fun z => y (z.2.2 i hi))
      rw [show F_X12_byteAt m (nI (tS (tb0 r) T a)) = some (nI (tb0 r (tS (tb0 r) T a + 0))) from by rw [← at_ 0 (by omega)]; rfl, Option.bind_some]
      refine Decidable.byCases (p := tb0 r (tS (tb0 r) T a + 0) = 108) (fun g0 => ?_) (fun g0 => by rw [if_neg (show ¬ nI (tb0 r (tS (tb0 r) T a + 0)) = 108 from fun z => g0 ((eq_ 0 108 (by omega) (by omega)).mp z))]; exact no 0 (by omega) g0)
      rw [if_pos (show nI (tb0 r (tS (tb0 r) T a + 0)) = 108 from (eq_ 0 108 (by omega) (by omega)).mpr g0)]
      rw [show F_X12_byteAt m (nI (tS (tb0 r) T a) + 1) = some (nI (tb0 r (tS (tb0 r) T a + 1))) from by rw [← at_ 1 (by omega)]; rw [show (1 : Int32) = nI 1 from rfl, nI_add], Option.bind_some]
      refine Decidable.byCases (p := tb0 r (tS (tb0 r) T a + 1) = 105) (fun g1 => ?_) (fun g1 => by rw [if_neg (show ¬ nI (tb0 r (tS (tb0 r) T a + 1)) = 105 from fun z => g1 ((eq_ 1 105 (by omega) (by omega)).mp z))]; exact no 1 (by omega) g1)
      rw [if_pos (show nI (tb0 r (tS (tb0 r) T a + 1)) = 105 from (eq_ 1 105 (by omega) (by omega)).mpr g1)]
      rw [show F_X12_byteAt m (nI (tS (tb0 r) T a) + 2) = some (nI (tb0 r (tS (tb0 r) T a + 2))) from by rw [← at_ 2 (by omega)]; rw [show (2 : Int32) = nI 2 from rfl, nI_add], Option.bind_some]
      refine Decidable.byCases (p := tb0 r (tS (tb0 r) T a + 2) = 110) (fun g2 => ?_) (fun g2 => by rw [if_neg (show ¬ nI (tb0 r (tS (tb0 r) T a + 2)) = 110 from fun z => g2 ((eq_ 2 110 (by omega) (by omega)).mp z))]; exact no 2 (by omega) g2)
      rw [if_pos (show nI (tb0 r (tS (tb0 r) T a + 2)) = 110 from (eq_ 2 110 (by omega) (by omega)).mpr g2)]
      rw [show F_X12_byteAt m (nI (tS (tb0 r) T a) + 3) = some (nI (tb0 r (tS (tb0 r) T a + 3))) from by rw [← at_ 3 (by omega)]; rw [show (3 : Int32) = nI 3 from rfl, nI_add], Option.bind_some]
      refine Decidable.byCases (p := tb0 r (tS (tb0 r) T a + 3) = 101) (fun g3 => ?_) (fun g3 => by rw [if_neg (show ¬ nI (tb0 r (tS (tb0 r) T a + 3)) = 101 from fun z => g3 ((eq_ 3 101 (by omega) (by omega)).mp z))]; exact no 3 (by omega) g3)
      rw [if_pos (show nI (tb0 r (tS (tb0 r) T a + 3)) = 101 from (eq_ 3 101 (by omega) (by omega)).mpr g3)]
      rw [if_pos (show (4 : Int32) = 4 from rfl)]
      refine An_some (is01_1 ⟨c, by show _ = _ + 4; omega, fun i hi => ?_⟩)
      simp only [List.length_cons, List.length_nil] at hi
      obtain rfl | rfl | rfl | rfl : i = 0 ∨ i = 1 ∨ i = 2 ∨ i = 3 := by omega
      · exact g0
      · exact g1
      · exact g2
      · exact g3
    · rw [if_neg (show ¬ nI (tE (tb0 r) T a - tS (tb0 r) T a) = 4 from by rw [show (4 : Int32) = nI 4 from rfl, nI_eq (by omega) (by omega)]; exact d)]
      exact An_some (is01_0 fun z => d (by have := z.2.1; simp only [List.length_cons, List.length_nil] at this; omega))
  · rw [if_neg (show ¬ nI (tK (tb0 r) T a) = 1 from by rw [show (1 : Int32) = nI 1 from rfl, nI_eq (by omega) (by omega)]; exact c)]
    exact An_some (is01_0 fun z => c z.1)
theorem says_stock {m : SM} {T a : Nat} {r : Nat → Int32} (h : MT m T r) (ha : a ≤ T) (hR : RC m T r a) : An (F_X12_says m 115 116 111 99 107) (is01 (nmd (tb0 r) T a [115, 116, 111, 99, 107])) := by
  obtain ⟨c1, c2, c3, c4⟩ := hR
  have h500 := h.1
  have hS := tS_le (b := tb0 r) ha
  have hE := tE_le (b := tb0 r) ha
  have kk := tK_lt (tb0 r) T a
  unfold F_X12_says
  rw [if_neg (show ¬ (107 : Int32) ≤ 0 from by decide)]
  unfold F_X12_says_b10
  rw [nm_at, c1, c2, c3]
  by_cases c : tK (tb0 r) T a = 1
  · rw [if_pos (by rw [c]; rfl), nI_sub hE.1]
    by_cases d : tE (tb0 r) T a - tS (tb0 r) T a = 5
    · rw [if_pos (show nI (tE (tb0 r) T a - tS (tb0 r) T a) = 5 from by rw [d]; rfl)]
      have at_ : ∀ i, i < 5 → F_X12_byteAt m (nI (tS (tb0 r) T a + i)) = some (nI (tb0 r (tS (tb0 r) T a + i))) := by
        intro i hi
        rw [byteM_t h (by omega), if_pos (by omega)]
      have eq_ : ∀ i x, i < 5 → x < 1000 → (nI (tb0 r (tS (tb0 r) T a + i)) = nI x ↔ tb0 r (tS (tb0 r) T a + i) = x) := by
        intro i x hi hx
        have := (h.2.2.2 (tS (tb0 r) T a + i) (by omega)).2
        exact nI_eq (by omega) (by omega)
      have no : ∀ i, i < 5 → ¬ tb0 r (tS (tb0 r) T a + i) = ([115, 116, 111, 99, 107] : List Nat).getD i 0 → An (some (0 : Int32)) (is01 (nmd (tb0 r) T a [115, 116, 111, 99, 107])) := fun i hi y => An_some (is01_0 fun z => y (z.2.2 i hi))
      rw [show F_X12_byteAt m (nI (tS (tb0 r) T a)) = some (nI (tb0 r (tS (tb0 r) T a + 0))) from by rw [← at_ 0 (by omega)]; rfl, Option.bind_some]
      refine Decidable.byCases (p := tb0 r (tS (tb0 r) T a + 0) = 115) (fun g0 => ?_) (fun g0 => by rw [if_neg (show ¬ nI (tb0 r (tS (tb0 r) T a + 0)) = 115 from fun z => g0 ((eq_ 0 115 (by omega) (by omega)).mp z))]; exact no 0 (by omega) g0)
      rw [if_pos (show nI (tb0 r (tS (tb0 r) T a + 0)) = 115 from (eq_ 0 115 (by omega) (by omega)).mpr g0)]
      rw [show F_X12_byteAt m (nI (tS (tb0 r) T a) + 1) = some (nI (tb0 r (tS (tb0 r) T a + 1))) from by rw [← at_ 1 (by omega)]; rw [show (1 : Int32) = nI 1 from rfl, nI_add], Option.bind_some]
      refine Decidable.byCases (p := tb0 r (tS (tb0 r) T a + 1) = 116) (fun g1 => ?_) (fun g1 => by rw [if_neg (show ¬ nI (tb0 r (tS (tb0 r) T a + 1)) = 116 from fun z => g1 ((eq_ 1 116 (by omega) (by omega)).mp z))]; exact no 1 (by omega) g1)
      rw [if_pos (show nI (tb0 r (tS (tb0 r) T a + 1)) = 116 from (eq_ 1 116 (by omega) (by omega)).mpr g1)]
      rw [show F_X12_byteAt m (nI (tS (tb0 r) T a) + 2) = some (nI (tb0 r (tS (tb0 r) T a + 2))) from by rw [← at_ 2 (by omega)]; rw [show (2 : Int32) = nI 2 from rfl, nI_add], Option.bind_some]
      refine Decidable.byCases (p := tb0 r (tS (tb0 r) T a + 2) = 111) (fun g2 => ?_) (fun g2 => by rw [if_neg (show ¬ nI (tb0 r (tS (tb0 r) T a + 2)) = 111 from fun z => g2 ((eq_ 2 111 (by omega) (by omega)).mp z))]; exact no 2 (by omega) g2)
      rw [if_pos (show nI (tb0 r (tS (tb0 r) T a + 2)) = 111 from (eq_ 2 111 (by omega) (by omega)).mpr g2)]
      rw [show F_X12_byteAt m (nI (tS (tb0 r) T a) + 3) = some (nI (tb0 r (tS (tb0 r) T a + 3))) from by rw [← at_ 3 (by omega)]; rw [show (3 : Int32) = nI 3 from rfl, nI_add], Option.bind_some]
      refine Decidable.byCases (p := tb0 r (tS (tb0 r) T a + 3) = 99) (fun g3 => ?_) (fun g3 => by rw [if_neg (show ¬ nI (tb0 r (tS (tb0 r) T a + 3)) = 99 from fun z => g3 ((eq_ 3 99 (by omega) (by omega)).mp z))]; exact no 3 (by omega) g3)
      rw [if_pos (show nI (tb0 r (tS (tb0 r) T a + 3)) = 99 from (eq_ 3 99 (by omega) (by omega)).mpr g3)]
      rw [if_neg (show ¬ (5 : Int32) = 4 from by decide)]
      rw [show F_X12_byteAt m (nI (tS (tb0 r) T a) + 4) = some (nI (tb0 r (tS (tb0 r) T a + 4))) from by rw [← at_ 4 (by omega)]; rw [show (4 : Int32) = nI 4 from rfl, nI_add], Option.bind_some]
      refine Decidable.byCases (p := tb0 r (tS (tb0 r) T a + 4) = 107) (fun g4 => ?_) (fun g4 => by rw [if_neg (show ¬ nI (tb0 r (tS (tb0 r) T a + 4)) = 107 from fun z => g4 ((eq_ 4 107 (by omega) (by omega)).mp z))]; exact no 4 (by omega) g4)
      rw [if_pos (show nI (tb0 r (tS (tb0 r) T a + 4)) = 107 from (eq_ 4 107 (by omega) (by omega)).mpr g4)]
      refine An_some (is01_1 ⟨c, by show _ = _ + 5; omega, fun i hi => ?_⟩)
      simp only [List.length_cons, List.length_nil] at hi
      obtain rfl | rfl | rfl | rfl | rfl : i = 0 ∨ i = 1 ∨ i = 2 ∨ i = 3 ∨ i = 4 := by omega
      · exact g0
      · exact g1
      · exact g2
      · exact g3
      · exact g4
    · rw [if_neg (show ¬ nI (tE (tb0 r) T a - tS (tb0 r) T a) = 5 from by rw [show (5 : Int32) = nI 5 from rfl, nI_eq (by omega) (by omega)]; exact d)]
      exact An_some (is01_0 fun z => d (by have := z.2.1; simp only [List.length_cons, List.length_nil] at this; omega))
  · rw [if_neg (show ¬ nI (tK (tb0 r) T a) = 1 from by rw [show (1 : Int32) = nI 1 from rfl, nI_eq (by omega) (by omega)]; exact c)]
    exact An_some (is01_0 fun z => c z.1)
/-- which item begins -/
def kwP (b : Nat → Nat) (T a : Nat) (k : Nat) : Prop := (k = 0 ∧ nmd b T a [119, 111, 114, 100]) ∨ (k = 1 ∧ ¬ nmd b T a [119, 111, 114, 100] ∧ nmd b T a [102, 111, 114, 109]) ∨ (k = 2 ∧ ¬ nmd b T a [119, 111, 114, 100] ∧ ¬ nmd b T a [102, 111, 114, 109] ∧ nmd b T a [109, 101, 116, 114, 101]) ∨ (k = 3 ∧ ¬ nmd b T a [119, 111, 114, 100] ∧ ¬ nmd b T a [102, 111, 114, 109] ∧ ¬ nmd b T a [109, 101, 116, 114, 101] ∧ nmd b T a [108, 105, 110, 101]) ∨ (k = 4 ∧ ¬ nmd b T a [119, 111, 114, 100] ∧ ¬ nmd b T a [102, 111, 114, 109] ∧ ¬ nmd b T a [109, 101, 116, 114, 101] ∧ ¬ nmd b T a [108, 105, 110, 101] ∧ nmd b T a [115, 116, 111, 99, 107]) ∨ (k = 5 ∧ ¬ nmd b T a [119, 111, 114, 100] ∧ ¬ nmd b T a [102, 111, 114, 109] ∧ ¬ nmd b T a [109, 101, 116, 114, 101] ∧ ¬ nmd b T a [108, 105, 110, 101] ∧ ¬ nmd b T a [115, 116, 111, 99, 107])
def kwI (k : Nat) : Int32 := if k = 5 then nM 9 else nI k
theorem kwP_lt {b : Nat → Nat} {T a k : Nat} (h : kwP b T a k) : k < 6 := by
  rcases h with ⟨h, -⟩ | ⟨h, -⟩ | ⟨h, -⟩ | ⟨h, -⟩ | ⟨h, -⟩ | ⟨h, -⟩ <;> omega
theorem begins_t {m : SM} {T a : Nat} {r : Nat → Int32} (h : MT m T r) (ha : a ≤ T) (hR : RC m T r a) : ∃ k, F_X12_begins m = some (kwI k) ∧ kwP (tb0 r) T a k := by
  obtain ⟨x0, e0, y0⟩ := says_word h ha hR
  obtain ⟨x1, e1, y1⟩ := says_form h ha hR
  obtain ⟨x2, e2, y2⟩ := says_metre h ha hR
  obtain ⟨x3, e3, y3⟩ := says_line h ha hR
  obtain ⟨x4, e4, y4⟩ := says_stock h ha hR
  unfold F_X12_begins F_X12_begins_b63
  simp only [nm_at]
  rw [e0, Option.bind_some]
  rcases is01_cases y0 with ⟨z0, w0⟩ | ⟨z0, w0⟩
  · rw [if_pos (show x0 = 0 from z0), e1, Option.bind_some]
    rcases is01_cases y1 with ⟨z1, w1⟩ | ⟨z1, w1⟩
    · rw [if_pos (show x1 = 0 from z1), e2, Option.bind_some]
      rcases is01_cases y2 with ⟨z2, w2⟩ | ⟨z2, w2⟩
      · rw [if_pos (show x2 = 0 from z2), if_pos trivial, e3, Option.bind_some]
        rcases is01_cases y3 with ⟨z3, w3⟩ | ⟨z3, w3⟩
        · rw [if_pos (show x3 = 0 from z3), e4, Option.bind_some]
          rcases is01_cases y4 with ⟨z4, w4⟩ | ⟨z4, w4⟩
          · rw [if_pos (show x4 = 0 from z4)]
            exact ⟨5, rfl, by unfold kwP; simp [w0, w1, w2, w3, w4]⟩
          · rw [if_neg (show ¬ x4 = 0 from by rw [z4]; decide)]
            exact ⟨4, rfl, by unfold kwP; simp [w0, w1, w2, w3, w4]⟩
        · rw [if_neg (show ¬ x3 = 0 from by rw [z3]; decide)]
          exact ⟨3, rfl, by unfold kwP; simp [w0, w1, w2, w3]⟩
      · rw [if_neg (show ¬ x2 = 0 from by rw [z2]; decide), if_neg (show ¬ (2 : Int32) = -9 from by decide)]
        exact ⟨2, rfl, by unfold kwP; simp [w0, w1, w2]⟩
    · rw [if_neg (show ¬ x1 = 0 from by rw [z1]; decide), if_neg (show ¬ (1 : Int32) = -9 from by decide)]
      exact ⟨1, rfl, by unfold kwP; simp [w0, w1]⟩
  · rw [if_neg (show ¬ x0 = 0 from by rw [z0]; decide), if_neg (show ¬ (0 : Int32) = -9 from by decide)]
    exact ⟨0, rfl, by unfold kwP; simp [w0]⟩
/-- so many letters a .. h at most stand there -/
def lOK (b : Nat → Nat) (T most a : Nat) : Prop := tK b T a = 1 ∧ tE b T a - tS b T a ≤ most ∧ ∀ i, i < tE b T a - tS b T a → b (tS b T a + i) - 97 < 8
theorem tok_let {b : Nat → Nat} {T a : Nat} (ha : a ≤ T) (h : tK b T a = 1) : tS b T a < tE b T a ∧ ∀ i, i < tE b T a - tS b T a → 97 ≤ b (tS b T a + i) ∧ b (tS b T a + i) ≤ 122 := by
  obtain ⟨h1, h2, h3⟩ := tK_1 h
  have hS := tS_le (b := b) ha
  refine ⟨(tE_le (b := b) ha).2.2 h1, fun i hi => ?_⟩
  rw [h3] at hi
  exact isL_iff.mp (rn_all (p := isL) (b := b) (T := T) T (tS b T a) hS.2 (by omega) (tS b T a + i) (by omega) (by omega))
theorem areL_t {m : SM} {T a most : Nat} {r : Nat → Int32} (h : MT m T r) (ha : a ≤ T) (hR : RC m T r a) (hm : most < 10) : An (F_X12_areLetters m (nI most)) (is01 (lOK (tb0 r) T most a)) := by
  obtain ⟨c1, c2, c3, c4⟩ := hR
  have h500 := h.1
  have hS := tS_le (b := tb0 r) ha
  have hE := tE_le (b := tb0 r) ha
  have kk := tK_lt (tb0 r) T a
  unfold F_X12_areLetters F_X12_areLetters_b25 F_X12_areLetters_b26
  simp only [nm_at]
  rw [c1, c2, c3, nI_sub hE.1]
  have lp : ∀ y : Int32, (y = nI 0 ∨ y = nI 1) → ∀ P : Prop, (∀ z, (z = nI 0 ∨ z = nI 1) → (z = nI 1 ↔ y = nI 1 ∧ ∀ i, i < tE (tb0 r) T a - tS (tb0 r) T a → 97 ≤ tb0 r (tS (tb0 r) T a + i) ∧ tb0 r (tS (tb0 r) T a + i) ≤ 104) → is01 P z) → An (F_X12_areLetters_b32 m (nI most) fu y (nI (tS (tb0 r) T a))) (is01 P) := by
    intro y hy P hP
    refine lp_up (fun q v (z : Int32) => F_X12_areLetters_b32 m (nI most) q z v) (tE (tb0 r) T a) (fun k z => tS (tb0 r) T a ≤ k ∧ (z = nI 0 ∨ z = nI 1) ∧ (z = nI 1 ↔ y = nI 1 ∧ ∀ i, i < k - tS (tb0 r) T a → 97 ≤ tb0 r (tS (tb0 r) T a + i) ∧ tb0 r (tS (tb0 r) T a + i) ≤ 104)) _ ?_ ?_ fu (tS (tb0 r) T a) y hE.1 (by unfold fu; omega) ⟨Nat.le_refl _, hy, ⟨fun z => ⟨z, fun i hi => by omega⟩, fun z => z.1⟩⟩
    · intro q k z hk ⟨i1, i2, i3⟩ hK
      show An (F_X12_areLetters_b32 m (nI most) (q + 1) z (nI k)) _
      rw [F_X12_areLetters_b32, c2, if_neg (nI_ge hk (by omega))]
      rcases i2 with i2 | i2
      · rw [if_pos (show z = 0 from i2), i2, show zb (nI 0) = some (nI 0) from rfl, Option.bind_some]
        refine An_some (hP _ (Or.inl rfl) ?_)
        rw [← i2]
        constructor
        · intro g; rw [i2] at g; exact absurd g (by decide)
        · rintro ⟨g1, g2⟩
          exact i3.mpr ⟨g1, fun i hi => g2 i (by omega)⟩
      · have b2 := (h.2.2.2 k (by omega)).2
        rw [if_neg (show ¬ z = 0 from by rw [i2]; decide), byteM_t h (by omega), if_pos (show k < T from by omega), Option.bind_some]
        rw [show F_X12_in (nI (tb0 r k)) 97 104 = _ from in_rng (a := 97) (b := 104) (by omega) (by omega) _, Option.bind_some, nm_at, nm_at, nI_1, nI_toInt (by omega)]
        refine hK _ ⟨by omega, ?_, ?_⟩
        · split
          · exact Or.inr rfl
          · exact Or.inl rfl
        · have e1 := i3.mp i2
          by_cases g : ((97 : Nat) : Int) ≤ (tb0 r k : Int) ∧ (tb0 r k : Int) ≤ ((104 : Nat) : Int)
          · rw [if_pos g]
            refine ⟨fun _ => ⟨e1.1, fun i hi => ?_⟩, fun _ => rfl⟩
            by_cases y2 : tS (tb0 r) T a + i = k
            · rw [y2]; omega
            · exact e1.2 i (by omega)
          · rw [if_neg g]
            refine ⟨fun w => absurd w (by decide), ?_⟩
            rintro ⟨w1, w2⟩
            have := w2 (k - tS (tb0 r) T a) (by omega)
            rw [show tS (tb0 r) T a + (k - tS (tb0 r) T a) = k from by omega] at this
            omega
    · intro q z ⟨i1, i2, i3⟩
      show An (F_X12_areLetters_b32 m (nI most) (q + 1) z (nI (tE (tb0 r) T a))) _
      rw [F_X12_areLetters_b32, c2, if_pos (nI_le (Nat.le_refl _) (by omega))]
      rw [show zb z = some z from by rcases i2 with e | e <;> rw [e] <;> rfl, Option.bind_some]
      exact An_some (hP z i2 i3)
  have no : ¬ lOK (tb0 r) T most a → An (F_X12_areLetters_b32 m (nI most) fu 0 (nI (tS (tb0 r) T a))) (is01 (lOK (tb0 r) T most a)) := by
    intro hno
    refine lp 0 (Or.inl rfl) _ fun z hz hz2 => ?_
    have : z = nI 0 := by
      rcases hz with g | g
      · exact g
      · exact absurd (hz2.mp g).1 (by decide)
    rw [this]
    exact is01_0 hno
  by_cases c : tK (tb0 r) T a = 1
  · rw [if_pos (show nI (tK (tb0 r) T a) = 1 from by rw [c]; rfl)]
    obtain ⟨t1, t2⟩ := tok_let ha c
    by_cases d : tE (tb0 r) T a - tS (tb0 r) T a ≤ most
    · rw [if_neg (nI_nlt d (by omega))]
      refine lp 1 (Or.inr rfl) _ fun z hz hz2 => ⟨hz, hz2.trans ?_⟩
      unfold lOK
      constructor
      · rintro ⟨-, g⟩
        exact ⟨c, d, fun i hi => by have := g i hi; omega⟩
      · rintro ⟨-, -, g⟩
        exact ⟨rfl, fun i hi => by have := g i hi; have := t2 i hi; omega⟩
    · rw [if_pos (nI_lt (by omega) (by omega))]
      exact no fun z => d z.2.1
  · rw [if_neg (show ¬ nI (tK (tb0 r) T a) = 1 from by rw [show (1 : Int32) = nI 1 from rfl, nI_eq (by omega) (by omega)]; exact c)]
    exact no fun z => c z.1
theorem letters_t {s : S8} {T a : Nat} {r : Nat → Int32} (ha : a ≤ T) (h : TC s T r a) : F_X8_letters s = some (nI (if tK (tb0 r) T a = 1 then tE (tb0 r) T a - tS (tb0 r) T a else 0)) := by
  obtain ⟨h1, h2, h3, h4⟩ := h
  have kk := tK_lt (tb0 r) T a
  have hE := tE_le (b := tb0 r) ha
  unfold F_X8_letters
  rw [h2, h3, h4, nI_sub hE.1]
  by_cases c : tK (tb0 r) T a = 1
  · rw [if_pos (show nI (tK (tb0 r) T a) = 1 from by rw [c]; rfl), if_pos c]
  · rw [if_neg (show ¬ nI (tK (tb0 r) T a) = 1 from by rw [show (1 : Int32) = nI 1 from rfl, nI_eq (by omega) (by omega)]; exact c), if_neg c]; rfl
theorem letterAt_t {s : S8} {T a i : Nat} {r : Nat → Int32} (ha : a ≤ T) (h : TC s T r a) (hk : tK (tb0 r) T a = 1) (hi : i < tE (tb0 r) T a - tS (tb0 r) T a) : F_X8_letterAt s (nI i) = some (nI (tb0 r (tS (tb0 r) T a + i) - 97)) := by
  obtain ⟨h1, h2, h3, h4⟩ := h
  have h500 := h1.1
  have hE := tE_le (b := tb0 r) ha
  obtain ⟨t1, t2⟩ := tok_let ha hk
  have l := t2 i hi
  unfold F_X8_letterAt
  rw [h2, nI_add, byteAt_t h1 (by omega), if_pos (by omega), Option.bind_some]
  unfold byX
  rw [if_pos (by omega), show (97 : Int32) = nI 97 from rfl, nI_sub l.1]

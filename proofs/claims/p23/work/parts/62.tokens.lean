/-! ===== tokens told, by both ===== -/
theorem digX {x : Nat} (h : isD x = true) : byX x - 48 = nI (x - 48) ∧ byX x = nI x := by
  have hd := isD_iff.mp h
  have e : byX x = nI x := if_pos (by omega)
  rw [e]
  exact ⟨nI_sub (a := x) (b := 48) hd.1, rfl⟩
theorem number_t {s : S8} {T a : Nat} {r : Nat → Int32} (ha : a ≤ T) (h : TC s T r a) : F_X8_number s = some (if tK (tb0 r) T a = 2 then nI (tV (tb0 r) T a) else nM 1) := by
  obtain ⟨h1, h2, h3, h4⟩ := h
  have h500 := h1.1
  have hS := tS_le (b := tb0 r) ha
  have hE := tE_le (b := tb0 r) ha
  unfold F_X8_number
  have k4 : tK (tb0 r) T a < 5 := by
    unfold tK
    split
    · split
      · omega
      · split
        · split <;> omega
        · split <;> omega
    · omega
  rw [h4]
  by_cases c : tK (tb0 r) T a = 2
  · rw [if_pos (by rw [c]; rfl), if_pos c, nm_at, nm_at]
    obtain ⟨t1, t2, t3, t4⟩ := tK_2 c
    rw [t3] at h3
    have fu3 : ∃ q, fu = q + 3 := ⟨fu - 3, by unfold fu; omega⟩
    obtain ⟨q, eq⟩ := fu3
    have d0 := digX t2
    rw [eq, h2, F_X8_number_b17, h3]
    rw [if_neg (nI_ge (by omega) (by omega)), byteAt_t h1 (by omega), Option.bind_some, if_pos t1, nm_at, nm_at, nI_1]
    rw [show (10 : Int32) * 0 + byX (tb0 r (tS (tb0 r) T a)) - 48 = nI (tb0 r (tS (tb0 r) T a) - 48) from by
      rw [show (10 : Int32) * 0 = nI 0 from by decide, d0.2, nI_add, Nat.zero_add, ← d0.2]; exact d0.1]
    unfold tV
    rw [F_X8_number_b17, h3]
    rcases t4 with t4 | ⟨t4, -⟩
    · rw [if_pos (nI_le (by omega) (by omega)), if_pos t4]
    · have a1 := rn_all (p := isD) (b := tb0 r) T (tS (tb0 r) T a) hS.2 (by omega) (tS (tb0 r) T a + 1) (by omega) (by omega)
      have d1 := digX a1
      have i1 := isD_iff.mp a1
      rw [if_neg (nI_ge (by omega) (by omega)), byteAt_t h1 (by omega), Option.bind_some, if_pos (by omega), nm_at, nm_at, nI_1]
      rw [show (10 : Int32) * nI (tb0 r (tS (tb0 r) T a) - 48) + byX (tb0 r (tS (tb0 r) T a + 1)) - 48 = nI (10 * (tb0 r (tS (tb0 r) T a) - 48) + (tb0 r (tS (tb0 r) T a + 1) - 48)) from by
        rw [show (10 : Int32) * nI (tb0 r (tS (tb0 r) T a) - 48) = nI (10 * (tb0 r (tS (tb0 r) T a) - 48)) from nI_mul 10 _, d1.2, nI_add, show (48 : Int32) = nI 48 from rfl, nI_sub (by omega)]
        exact congrArg nI (by omega)]
      rw [F_X8_number_b17, h3, if_pos (nI_le (by omega) (by omega)), if_neg (by omega)]
  · rw [if_neg (show ¬ nI (tK (tb0 r) T a) = 2 from by rw [show (2 : Int32) = nI 2 from rfl, nI_eq (by omega) (by omega)]; exact c), if_neg c]
    rfl
/-- a number from lo to below H stands there -/
def nOK (b : Nat → Nat) (T lo H a : Nat) : Prop := tK b T a = 2 ∧ lo ≤ tV b T a ∧ tV b T a < H
theorem nextX_t {s : S8} {T a lo H : Nat} {r : Nat → Int32} (h : TX s T r) (ha : a ≤ T) (he : s8_end s = nI a) (hlo : lo < 2) (hH : H < 100) : ∃ s', TC s' T r a ∧ (nOK (tb0 r) T lo H a → F_X5_nextNumber s (nI lo) (nI H - 1) = some (nI (tV (tb0 r) T a), s')) ∧ (¬ nOK (tb0 r) T lo H a → F_X5_nextNumber s (nI lo) (nI H - 1) = some (nM 1, s')) := by
  obtain ⟨s', e1, e2⟩ := advance_t h ha he
  have e3 := number_t ha e2
  have hmax : ∀ v : Nat, v < 100 → (nI H - 1 < nI v ↔ H ≤ v) := by
    intro v hv
    cases H with
    | zero =>
      rw [show nI 0 - 1 = nM 1 from by decide, nM_lt (by omega) (by omega) (by omega)]; simp
    | succ H => rw [nI_pred, nI_ltI (by omega) (by omega)]; omega
  refine ⟨s', e2, ?_, ?_⟩
  · rintro ⟨k1, k2, k3⟩
    have v1 := tV_lt ha k1
    rw [if_pos k1] at e3
    unfold F_X5_nextNumber
    rw [e1, Option.bind_some, e3, Option.bind_some, nm_at, if_neg (nI_nlt k2 (by omega)), if_neg (by rw [hmax _ v1]; omega)]
  · intro k
    unfold F_X5_nextNumber
    rw [e1, Option.bind_some, e3, Option.bind_some, nm_at]
    by_cases k1 : tK (tb0 r) T a = 2
    · have v1 := tV_lt ha k1
      rw [if_pos k1]
      by_cases k2 : lo ≤ tV (tb0 r) T a
      · rw [if_neg (nI_nlt k2 (by omega)), if_pos (by rw [hmax _ v1]; exact Nat.le_of_not_lt fun z => k ⟨k1, k2, z⟩)]; rfl
      · rw [if_pos (nI_lt (by omega) (by omega))]; rfl
    · rw [if_neg k1, if_pos (of_eq_true (nM_lt (by omega) (by omega) (by omega)))]; rfl
theorem tK_lt (b : Nat → Nat) (T a : Nat) : tK b T a < 5 := by
  unfold tK
  split
  · split
    · omega
    · split
      · split <;> omega
      · split <;> omega
  · omega
theorem stopX_t {s : S8} {T a : Nat} {r : Nat → Int32} (h : TX s T r) (ha : a ≤ T) (he : s8_end s = nI a) : ∃ s', TC s' T r a ∧ (tK (tb0 r) T a = 3 → F_X5_nextStop s = some (1, s')) ∧ (¬ tK (tb0 r) T a = 3 → F_X5_nextStop s = some (0, s')) := by
  obtain ⟨s', e1, e2⟩ := advance_t h ha he
  have k := tK_lt (tb0 r) T a
  have e4 : (s8_sort s' = 3) ↔ tK (tb0 r) T a = 3 := by
    rw [e2.2.2.2, show (3 : Int32) = nI 3 from rfl, nI_eq (by omega) (by omega)]
  refine ⟨s', e2, fun c => ?_, fun c => ?_⟩
  · unfold F_X5_nextStop F_X8_isStop
    rw [e1, Option.bind_some, if_pos (e4.mpr c), Option.bind_some]
    rfl
  · unfold F_X5_nextStop F_X8_isStop
    rw [e1, Option.bind_some, if_neg (fun z => c (e4.mp z)), Option.bind_some]
    rfl
/-! the reference -/
/-- the text's bytes in the reference -/
def MT (m : SM) (T : Nat) (r : Nat → Int32) : Prop := T ≤ 500 ∧ mI m 3 = nI T ∧ mA m 2 = r ∧ ∀ k, k < T → r k = nI (tb0 r k) ∧ tb0 r k < 256
theorem MT.fr {m m' : SM} {T : Nat} {r : Nat → Int32} (h : MT m T r) (h3 : mI m' 3 = mI m 3) (h2 : mA m' 2 = mA m 2) : MT m' T r := ⟨h.1, h3.trans h.2.1, h2.trans h.2.2.1, h.2.2.2⟩
theorem byteM_t {m : SM} {T e : Nat} {r : Nat → Int32} (h : MT m T r) (he : e < 1000) : F_X12_byteAt m (nI e) = some (if e < T then nI (tb0 r e) else nM 1) := by
  have h500 := h.1
  unfold F_X12_byteAt
  rw [h.2.1]
  by_cases c : e < T
  · rw [if_neg (nI_ge c (by omega)), agN (by omega) (by omega), Option.bind_some, if_pos c, h.2.2.1, (h.2.2.2 e c).1]
  · rw [if_pos (nI_le (by omega) (by omega)), if_neg c]; rfl
theorem inb_t {m : SM} {T e lo hi : Nat} {r : Nat → Int32} {p : Nat → Bool} (h : MT m T r) (he : e < 1000) (hlo : lo < 128) (hhi : hi < 128) (hp : ∀ x, p x = true ↔ lo ≤ x ∧ x ≤ hi) : (F_X12_byteAt m (nI e)).bind (fun q => F_X12_in q (nI lo) (nI hi)) = some (if e < T ∧ p (tb0 r e) = true then 1 else 0) := by
  rw [byteM_t h he, Option.bind_some]
  unfold F_X12_in
  by_cases c : e < T
  · have b := (h.2.2.2 e c).2
    rw [if_pos c]
    by_cases d : p (tb0 r e) = true
    · have dp := (hp _).mp d
      rw [if_neg (nI_nlt (by omega) (by omega)), if_neg (nI_nlt (by omega) (by omega)), if_pos ⟨c, d⟩]
    · have dp : ¬ (lo ≤ tb0 r e ∧ tb0 r e ≤ hi) := fun z => d ((hp _).mpr z)
      rw [if_neg (c := e < T ∧ p (tb0 r e) = true) (fun z => d z.2)]
      by_cases g : lo ≤ tb0 r e
      · rw [if_neg (nI_nlt g (by omega)), if_pos (nI_lt (by omega) (by omega))]
      · rw [if_pos (nI_lt (by omega) (by omega))]
  · rw [if_neg c, if_pos (of_eq_true (nM_lt (by omega) (by omega) (by omega))), if_neg (fun z => c z.1)]
/-- the reference stands at the token from a on -/
def RC (m : SM) (T : Nat) (r : Nat → Int32) (a : Nat) : Prop := mI m 6 = nI (tS (tb0 r) T a) ∧ mI m 4 = nI (tE (tb0 r) T a) ∧ mI m 5 = nI (tK (tb0 r) T a) ∧ (tK (tb0 r) T a = 2 → mI m 7 = nI (tV (tb0 r) T a))
abbrev kI : List Nat := [4, 5, 6, 7]
theorem MT.f {m m' : SM} {T : Nat} {r : Nat → Int32} (h : MT m T r) (hf : Fr kI [] [] m m') : MT m' T r := h.fr (hf.1 3 (by decide)) (hf.2.1 2 (by decide))
/-- what a number's digits tell, as the reference reads them: k digits from S on -/
def dv (b : Nat → Nat) (S : Nat) : Nat → Nat
  | 0 => 0
  | k + 1 => if 99 < dv b S k then dv b S k else 10 * dv b S k + (b (S + k) - 48)
theorem dv_lt {b : Nat → Nat} {S : Nat} : ∀ k, (∀ j, j < k → isD (b (S + j)) = true) → dv b S k < 1000 := by
  intro k
  induction k with
  | zero => intro _; exact by unfold dv; omega
  | succ k ih =>
    intro h
    have h1 := ih fun j hj => h j (by omega)
    have h2 := isD_iff.mp (h k (by omega))
    rw [dv]
    by_cases c : 99 < dv b S k
    · rw [if_pos c]; exact h1
    · rw [if_neg c]; omega
theorem rn_end {p : Nat → Bool} {b : Nat → Nat} {T : Nat} : ∀ (n e : Nat), e ≤ T → T - e ≤ n → ¬ (rn p b T e < T ∧ p (b (rn p b T e)) = true) := by
  intro n
  induction n with
  | zero =>
    intro e h1 h2
    rw [rn_stop (fun h => by omega)]
    intro h; omega
  | succ n ih =>
    intro e h1 h2
    by_cases h : e < T ∧ p (b e) = true
    · rw [rn_step h.1 h.2]
      exact ih (e + 1) (by omega) (by omega)
    · rw [rn_stop h]; exact h
theorem dv_1 (b : Nat → Nat) (S : Nat) : dv b S 1 = b S - 48 := by
  rw [dv, dv, if_neg (by omega)]
  show 10 * 0 + (b (S + 0) - 48) = _
  rw [Nat.add_zero]; omega
theorem dv_2 {b : Nat → Nat} {S : Nat} (h : isD (b S) = true) : dv b S 2 = 10 * (b S - 48) + (b (S + 1) - 48) := by
  have h0 := isD_iff.mp h
  rw [dv, dv_1, if_neg (by omega)]
theorem dv_small {b : Nat → Nat} {S : Nat} (k : Nat) (h : k ≤ 2) (hd : ∀ j, j < k → isD (b (S + j)) = true) : dv b S k ≤ 99 := by
  have hk : k = 0 ∨ k = 1 ∨ k = 2 := by omega
  rcases hk with rfl | rfl | rfl
  · unfold dv; omega
  · have h0 := isD_iff.mp (hd 0 (by omega))
    rw [dv_1]
    simp only [Nat.add_zero] at h0
    omega
  · have h0 := hd 0 (by omega)
    simp only [Nat.add_zero] at h0
    have h1 := isD_iff.mp (hd 1 (by omega))
    rw [dv_2 h0]
    have h2 := isD_iff.mp h0
    omega
theorem dv_big {b : Nat → Nat} {S : Nat} : ∀ k, 3 ≤ k → ¬ b S = 48 → (∀ j, j < k → isD (b (S + j)) = true) → 99 < dv b S k := by
  intro k
  induction k with
  | zero => intro h; omega
  | succ k ih =>
    intro h3 h0 h
    have h2 := isD_iff.mp (h k (by omega))
    have i0 := isD_iff.mp (h 0 (by omega))
    have i1 := isD_iff.mp (h 1 (by omega))
    rw [dv]
    by_cases c : 99 < dv b S k
    · rw [if_pos c]; exact c
    · rw [if_neg c]
      by_cases c3 : k = 2
      · subst c3
        have e1 : dv b S 1 = b S - 48 := by
          rw [dv, dv, if_neg (by omega)]
          show 10 * 0 + (b (S + 0) - 48) = _
          rw [Nat.add_zero]; omega
        have e2 : dv b S 2 = 10 * (b S - 48) + (b (S + 1) - 48) := by
          rw [dv, e1, if_neg (by simp only [Nat.add_zero] at i0; omega)]
        rw [e2]
        simp only [Nat.add_zero] at i0
        omega
      · exact absurd (ih (by omega) h0 fun j hj => h j (by omega)) c
theorem digM_lp {m : SM} {T S : Nat} {r : Nat → Int32} (h : MT m T r) (hS : S < T) (hd : isD (tb0 r S) = true) (h6 : mI m 6 = nI S) : ∀ f k m', Fr kI [] [] m m' → rn isD (tb0 r) T S - S - k < f → k ≤ rn isD (tb0 r) T S - S → mI m' 4 = nI (S + k) → mI m' 6 = nI S → mI m' 7 = nI (dv (tb0 r) S k) → An (F_X12_advances_b121 f (nI (tb0 r S)) m') (fun q => Fr kI [] [] m q ∧ mI q 4 = nI (rn isD (tb0 r) T S) ∧ mI q 6 = nI S ∧ mI q 7 = nI (dv (tb0 r) S (rn isD (tb0 r) T S - S)) ∧ mI q 5 = nI (if rn isD (tb0 r) T S - S = 1 ∨ (rn isD (tb0 r) T S - S = 2 ∧ ¬ tb0 r S = 48) then 2 else 4)) := by
  have h500 := h.1
  have hE := rn_le (p := isD) (b := tb0 r) (T := T) T S (by omega) (by omega)
  have hall := rn_all (p := isD) (b := tb0 r) (T := T) T S (by omega) (by omega)
  have hE1 : S < rn isD (tb0 r) T S := by
    rw [rn_step hS hd]
    have := rn_le (p := isD) (b := tb0 r) (T := T) T (S + 1) (by omega) (by omega)
    omega
  have hdj : ∀ k, k ≤ rn isD (tb0 r) T S - S → ∀ j, j < k → isD (tb0 r (S + j)) = true := fun k hk j hj => hall (S + j) (by omega) (by omega)
  intro f
  induction f with
  | zero => intro k m' _ h; omega
  | succ f ih =>
    intro k m' hf hk1 hk2 h4 h6 h7
    have hM := h.f hf
    have hv := dv_lt k (hdj k hk2)
    rw [F_X12_advances_b121, h4]
    have e := inb_t (p := isD) hM (e := S + k) (by omega) (lo := 48) (hi := 57) (by omega) (by omega) (fun x => isD_iff)
    by_cases c : k < rn isD (tb0 r) T S - S
    · have hb := hall (S + k) (by omega) (by omega)
      have hbd := isD_iff.mp hb
      rw [byteM_t hM (by omega), if_pos (show S + k < T from by omega), Option.bind_some] at e ⊢
      rw [if_pos ⟨by omega, hb⟩] at e
      rw [show F_X12_in (nI (tb0 r (S + k))) 48 57 = some 1 from e, Option.bind_some, if_neg (by decide)]
      unfold F_X12_advances_b175
      rw [h7]
      have stepE : ∀ x : Int32, x = nI (dv (tb0 r) S (k + 1)) → An (nm (mIs m' 7 x) fun s_o_5 => nm (mIs s_o_5 4 (mI s_o_5 4 + 1)) fun s_o_6 => F_X12_advances_b121 f (nI (tb0 r S)) s_o_6) (fun q => Fr kI [] [] m q ∧ mI q 4 = nI (rn isD (tb0 r) T S) ∧ mI q 6 = nI S ∧ mI q 7 = nI (dv (tb0 r) S (rn isD (tb0 r) T S - S)) ∧ mI q 5 = nI (if rn isD (tb0 r) T S - S = 1 ∨ (rn isD (tb0 r) T S - S = 2 ∧ ¬ tb0 r S = 48) then 2 else 4)) := by
        intro x ex
        rw [nm_at, nm_at]
        refine ih (k + 1) _ ((hf.i 7 _ (by decide)).i 4 _ (by decide)) (by omega) (by omega) ?_ ?_ ?_
        · rw [q_ii, if_pos rfl, q_ii, if_neg (by omega), h4, nI_1]; rfl
        · rw [q_ii, if_neg (by omega), q_ii, if_neg (by omega)]; exact h6
        · rw [q_ii, if_neg (by omega), q_ii, if_pos rfl]; exact ex
      by_cases g : 99 < dv (tb0 r) S k
      · rw [if_neg (show ¬ nI (dv (tb0 r) S k) ≤ 99 from nI_ge (b := dv (tb0 r) S k) (a := 99) g (by omega))]
        exact stepE _ (by rw [dv, if_pos g])
      · rw [if_pos (show nI (dv (tb0 r) S k) ≤ 99 from nI_le (b := 99) (by omega) (by omega)), Option.bind_some]
        refine stepE _ ?_
        rw [dv, if_neg g, show (10 : Int32) * nI (dv (tb0 r) S k) = nI (10 * dv (tb0 r) S k) from nI_mul 10 _, nI_add, show (48 : Int32) = nI 48 from rfl, nI_sub (by omega)]
        exact congrArg nI (by omega)
    · have hk : k = rn isD (tb0 r) T S - S := by omega
      have hend : S + k = rn isD (tb0 r) T S := by omega
      have hstop : ¬ (S + k < T ∧ isD (tb0 r (S + k)) = true) := by
        rw [hend]
        exact rn_end T S (by omega) (by omega)
      rw [if_neg hstop] at e
      cases hb : F_X12_byteAt m' (nI (S + k)) with
      | none => rw [hb] at e; cases e
      | some q0 =>
        rw [hb, Option.bind_some] at e
        rw [Option.bind_some, show F_X12_in q0 48 57 = some 0 from e, Option.bind_some, if_pos rfl]
        unfold F_X12_advances_b220 F_X12_advances_b224 F_X12_advances_b225
        simp only [nm_at]
        rw [h7]
        have fin : ∀ x : Nat, x = (if rn isD (tb0 r) T S - S = 1 ∨ (rn isD (tb0 r) T S - S = 2 ∧ ¬ tb0 r S = 48) then 2 else 4) → An (some (mIs m' 5 (nI x))) (fun q => Fr kI [] [] m q ∧ mI q 4 = nI (rn isD (tb0 r) T S) ∧ mI q 6 = nI S ∧ mI q 7 = nI (dv (tb0 r) S (rn isD (tb0 r) T S - S)) ∧ mI q 5 = nI (if rn isD (tb0 r) T S - S = 1 ∨ (rn isD (tb0 r) T S - S = 2 ∧ ¬ tb0 r S = 48) then 2 else 4)) := by
          intro x ex
          refine An_some ⟨hf.i 5 _ (by decide), ?_, ?_, ?_, ?_⟩
          · rw [q_ii, if_neg (by omega), h4, hend]
          · rw [q_ii, if_neg (by omega)]; exact h6
          · rw [q_ii, if_neg (by omega), h7, hk]
          · rw [q_ii, if_pos rfl, ex]
        have h48 : nI (tb0 r S) = 48 ↔ tb0 r S = 48 := by
          have := isD_iff.mp hd
          rw [show (48 : Int32) = nI 48 from rfl, nI_eq (by omega) (by omega)]
        have hlen : nI (S + k) - mI m' 6 = nI k := by rw [h6, nI_sub (by omega)]; exact congrArg nI (by omega)
        by_cases g : 99 < dv (tb0 r) S k
        · rw [if_pos (show (99 : Int32) < nI (dv (tb0 r) S k) from nI_lt (a := 99) g (by omega))]
          refine fin 4 ?_
          rw [if_neg]
          intro z
          have := dv_small (b := tb0 r) (S := S) k (by omega) (hdj k hk2)
          omega
        · rw [if_neg (show ¬ (99 : Int32) < nI (dv (tb0 r) S k) from nI_nlt (a := 99) (by omega) (by omega))]
          by_cases g2 : tb0 r S = 48
          · rw [if_pos (h48.mpr g2), hlen]
            by_cases g3 : k ≤ 1
            · rw [if_pos (show nI k ≤ 1 from nI_le (b := 1) g3 (by omega))]
              refine fin 2 ?_
              rw [if_pos (Or.inl (by omega))]
            · rw [if_neg (show ¬ nI k ≤ 1 from nI_ge (a := 1) (by omega) (by omega))]
              refine fin 4 ?_
              rw [if_neg]
              rintro (z | z)
              · omega
              · exact z.2 g2
          · rw [if_neg (fun z => g2 (h48.mp z))]
            refine fin 2 ?_
            by_cases g3 : 3 ≤ k
            · exact absurd (dv_big k g3 g2 (hdj k hk2)) g
            · rw [if_pos]
              by_cases g4 : k = 1
              · exact Or.inl (by omega)
              · exact Or.inr ⟨by omega, g2⟩

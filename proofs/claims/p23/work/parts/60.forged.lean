/-! ===== forged: a line of the stock put in ===== -/
/-- the paper's rows with line e of the stock ahead of line p -/
def fgR (r rs : Nat → Int32) (p e : Nat) : Nat → Int32 := insR r p (rs (3 * e)) (rs (3 * e + 1)) (rs (3 * e + 2))
def fgC (rf rm rw sd r rs : Nat → Int32) (f P k p e : Nat) : Prop := ¬ bnd (vL rf f) (vO rf rm rw f (fgR r rs p e)) (vR sd (fgR r rs p e)) (P + 1) (if p ≤ k then k + 1 else k)
/-- the first two numbers of which a thing holds -/
def fgP (c : Nat → Nat → Prop) (P S : Nat) (r : Int32) : Prop := (r = nM 9 ∧ ∀ p e, p < P → e < S → ¬ c p e) ∨ ∃ p e, p < P ∧ e < S ∧ r = nI (10 * p + e) ∧ c p e ∧ ∀ p2 e2, e2 < S → (p2 < p ∨ (p2 = p ∧ e2 < e)) → ¬ c p2 e2
theorem fg_uniq {c : Nat → Nat → Prop} {P S : Nat} {r r2 : Int32} (h : fgP c P S r) (h2 : fgP c P S r2) : r = r2 := by
  rcases h with ⟨a, b⟩ | ⟨p, e, h1, h3, h4, h5, h6⟩
  · rcases h2 with ⟨a2, -⟩ | ⟨p, e, h1, h3, h4, h5, -⟩
    · rw [a, a2]
    · exact absurd h5 (b p e h1 h3)
  · rcases h2 with ⟨-, b⟩ | ⟨p2, e2, g1, g3, g4, g5, g6⟩
    · exact absurd h5 (b p e h1 h3)
    · have : p = p2 ∧ e = e2 := by
        rcases Nat.lt_trichotomy p p2 with c1 | c1 | c1
        · exact absurd h5 (g6 p e h3 (Or.inl c1))
        · rcases Nat.lt_trichotomy e e2 with c2 | c2 | c2
          · exact absurd h5 (g6 p e h3 (Or.inr ⟨c1, c2⟩))
          · exact ⟨c1, c2⟩
          · exact absurd g5 (h6 p2 e2 g3 (Or.inr ⟨c1.symm, c2⟩))
        · exact absurd g5 (h6 p2 e2 g3 (Or.inl c1))
      rw [h4, g4, this.1, this.2]
theorem loosed_t {o : S11} {t7 : S7} {t10 : S10} {t1 : S1} {tp ts tr : S4} {P S W F f d k p e : Nat} {rm rw rf r rs sd : Nat → Int32} (hM : MR t7 rm) (hW : WR t10 W rw) (hF : FR t1 F rf) (hf : f < F) (hp : LR tp P 8 W r) (hs : LR ts S 6 W rs) (ht : s4_most tr = nI 8) (hP : P < 8) (hd : d < 3) (hsd : ∀ w, w < W → s10_sounds t10 (16 * d + w) = sd w) (hk : k < P) (hp2 : p < P + 1) (he : e < S) (v : S9) : ∃ b tr' v', F_X11_isLoosed o t7 tr v t1 tp ts t10 (nI f) (nI d) (nI k) (nI p) (nI e) = some (b, tr', v') ∧ is01 (fgC rf rm rw sd r rs f P k p e) b ∧ s4_most tr' = nI 8 := by
  have h6 := hs.1
  obtain ⟨s1, a1, a2⟩ := hp.copy (M := 8) (s := tr) (by omega) (by omega) ht
  obtain ⟨w1, w2, w3⟩ := hs.2.2.1.at he
  obtain ⟨l1, l2, l3⟩ := hs.2.2.2 e he
  obtain ⟨s2, b1, b2⟩ := a2.ins (by omega) (by omega) (p := p) (by omega) l1 l2 l3
  obtain ⟨z, z1, z2⟩ := view_ok (v := v) hM hW hF hf b2 (by omega) hd hsd
  obtain ⟨b, hb, c1, c2⟩ := binds_t z2 (i := if p ≤ k then k + 1 else k) (by split <;> omega)
  have fin : ∀ k1 : Int32, k1 = nI (if p ≤ k then k + 1 else k) → ∃ x, F_X11_isLoosed_b93 o t7 t1 tp ts t10 (nI f) (nI d) (nI k) (nI p) (nI e) s2 z k1 = some (x, s2, z) ∧ is01 (fgC rf rm rw sd r rs f P k p e) x := by
    intro k1 ek
    unfold F_X11_isLoosed_b93
    rw [ek, c1]
    obtain rfl | rfl : b = 0 ∨ b = 1 := by omega
    · refine ⟨1, rfl, is01_1 fun y => ?_⟩
      have := c2.mpr y
      omega
    · exact ⟨0, rfl, is01_0 fun y => y (c2.mp rfl)⟩
  have main : ∀ k1 : Int32, (if nI k < nI p then nI k else nI k + 1) = k1 → k1 = nI (if p ≤ k then k + 1 else k) := by
    intro k1 e1
    by_cases g : p ≤ k
    · rw [if_neg (nI_nlt g (by omega))] at e1
      rw [if_pos g, ← e1, nI_1]
    · rw [if_pos (nI_lt (by omega) (by omega))] at e1
      rw [if_neg g, ← e1]
  have eX : ∃ k1, k1 = nI (if p ≤ k then k + 1 else k) ∧ F_X11_isLoosed o t7 tr v t1 tp ts t10 (nI f) (nI d) (nI k) (nI p) (nI e) = F_X11_isLoosed_b93 o t7 t1 tp ts t10 (nI f) (nI d) (nI k) (nI p) (nI e) s2 z k1 := by
    unfold F_X11_isLoosed
    rw [a1]
    simp only [Option.bind_some]
    rw [wordAt_t, thingAt_t, beforeAt_t]
    simp only [Option.bind_some]
    rw [atvN (by omega) (by omega), atvN (by omega) (by omega), atvN (by omega) (by omega), w1, w2, w3, b1]
    simp only [Option.bind_some]
    rw [z1]
    simp only [Option.bind_some]
    by_cases g : nI k < nI p
    · exact ⟨nI k, main _ (if_pos g), if_pos g⟩
    · exact ⟨nI k + 1, main _ (if_neg g), if_neg g⟩
  obtain ⟨k1, ek, eX⟩ := eX
  obtain ⟨x, f1, f2⟩ := fin k1 ek
  exact ⟨x, s2, z, eX.trans f1, f2, b2.2.1⟩
theorem forgX_lp {o : S11} {t7 : S7} {t10 : S10} {t1 : S1} {tp ts tr : S4} {P S W F f d k : Nat} {rm rw rf r rs sd : Nat → Int32} (hM : MR t7 rm) (hW : WR t10 W rw) (hF : FR t1 F rf) (hf : f < F) (hp : LR tp P 8 W r) (hs : LR ts S 6 W rs) (ht : s4_most tr = nI 8) (hP : P < 8) (hd : d < 3) (hsd : ∀ w, w < W → s10_sounds t10 (16 * d + w) = sd w) (hk : k < P) (v : S9) : An (F_X11_forged_b60 o t7 t1 tp ts t10 (nI f) (nI d) (nI k) fu (nI 0) tr v) (fun q => fgP (fgC rf rm rw sd r rs f P k) (P + 1) S q.1 ∧ s4_most q.2.1 = nI 8) := by
  have h6 := hs.1
  refine lp_up (fun q u (x : S4 × S9) => F_X11_forged_b60 o t7 t1 tp ts t10 (nI f) (nI d) (nI k) q u x.1 x.2) (P + 1) (fun m x => s4_most x.1 = nI 8 ∧ ∀ p e, p < m → e < S → ¬ fgC rf rm rw sd r rs f P k p e) _ ?_ ?_ fu 0 (tr, v) (by omega) (by unfold fu; omega) ⟨ht, fun p e hp => by omega⟩
  · intro q m ⟨t, z⟩ hm ⟨h1, h2⟩ hK
    simp only [] at h1
    show An (F_X11_forged_b60 o t7 t1 tp ts t10 (nI f) (nI d) (nI k) (q + 1) (nI m) t z) _
    rw [F_X11_forged_b60]
    unfold F_X4_size
    rw [hp.2.2.1.1, Option.bind_some, if_neg (nI_nlt (by omega) (by omega)), nm_at]
    refine lp_up (fun q2 u (x : S4 × S9) => F_X11_forged_b78 o t7 t1 tp ts t10 (nI f) (nI d) (nI k) (F_X11_forged_b60 o t7 t1 tp ts t10 (nI f) (nI d) (nI k) q) q2 (nI m) u x.1 x.2) S (fun n x => s4_most x.1 = nI 8 ∧ ∀ e, e < n → ¬ fgC rf rm rw sd r rs f P k m e) _ ?_ ?_ fu 0 (t, z) (by omega) (by unfold fu; omega) ⟨h1, fun e he => by omega⟩
    · intro q2 n ⟨t2, z2⟩ hn ⟨g1, g2⟩ hK2
      simp only [] at g1
      obtain ⟨b, t3, z3, e1, e2, e3⟩ := loosed_t (o := o) hM hW hF hf hp hs g1 hP hd hsd hk hm hn z2
      show An (F_X11_forged_b78 o t7 t1 tp ts t10 (nI f) (nI d) (nI k) (F_X11_forged_b60 o t7 t1 tp ts t10 (nI f) (nI d) (nI k) q) (q2 + 1) (nI m) (nI n) t2 z2) _
      rw [F_X11_forged_b78]
      unfold F_X4_size
      rw [hs.2.2.1.1, Option.bind_some, if_neg (nI_ge hn (by omega)), e1, Option.bind_some]
      rcases is01_cases e2 with ⟨y, y2⟩ | ⟨y, y2⟩
      · rw [if_pos (show b = 0 from y), nm_at, nI_1]
        refine hK2 (t3, z3) ⟨e3, fun e he => ?_⟩
        by_cases c : e = n
        · rw [c]; exact y2
        · exact g2 e (by omega)
      · rw [if_neg (show ¬ b = 0 from by rw [y]; decide)]
        refine An_some ⟨Or.inr ⟨m, n, hm, hn, ?_, y2, ?_⟩, e3⟩
        · show (10 : Int32) * nI m + nI n = _
          rw [show (10 : Int32) * nI m = nI (10 * m) from nI_mul 10 m, nI_add]
        · intro p2 e2 he2 hc
          rcases hc with hc | ⟨hc, hc2⟩
          · exact h2 p2 e2 hc he2
          · rw [hc]; exact g2 e2 hc2
    · intro q2 ⟨t2, z2⟩ ⟨g1, g2⟩
      simp only [] at g1
      show An (F_X11_forged_b78 o t7 t1 tp ts t10 (nI f) (nI d) (nI k) (F_X11_forged_b60 o t7 t1 tp ts t10 (nI f) (nI d) (nI k) q) (q2 + 1) (nI m) (nI S) t2 z2) _
      rw [F_X11_forged_b78]
      unfold F_X4_size
      rw [hs.2.2.1.1, Option.bind_some, if_pos (nI_le (Nat.le_refl S) (by omega)), nm_at, nI_1]
      refine hK (t2, z2) ⟨g1, fun p e hp he => ?_⟩
      by_cases c : p = m
      · rw [c]; exact g2 e he
      · exact h2 p e (by omega) he
  · intro q ⟨t, z⟩ ⟨h1, h2⟩
    simp only [] at h1
    show An (F_X11_forged_b60 o t7 t1 tp ts t10 (nI f) (nI d) (nI k) (q + 1) (nI (P + 1)) t z) _
    rw [F_X11_forged_b60]
    unfold F_X4_size
    rw [hp.2.2.1.1, Option.bind_some, if_pos (nI_lt (by omega) (by omega))]
    exact An_some ⟨Or.inl ⟨rfl, h2⟩, h1⟩
abbrev fA : List Nat := [24, 26, 27, 28, 29]
/-- the reference lays the lines with the one put in -/
theorem fill3_lp {K59 : Int32 → SM → Option (Int32 × SM)} {K73 : Int32 → Int32 → SM → Option (Int32 × SM)} {K97 : Int32 → Int32 → Int32 → SM → Option (Int32 × SM)} {x1 x2 x3 : Int32} {P S p e i : Nat} {s0 s : SM} (hP : P < 8) (hS : S ≤ 6) (hp : p < P + 1) (he : e < S) (hi : i < P + 1) (hf : Fr [25] fA [] s0 s) (h24 : ∀ j, j < 3 * i → mA s 24 j = fgR (fun j => mA s0 21 (1 + j)) (mA s0 12) p e j) {Q : Int32 × SM → Prop} (hk : ∀ s', Fr [] [24] [] s s' → (∀ j, j < 3 * (i + 1) → mA s' 24 j = fgR (fun j => mA s0 21 (1 + j)) (mA s0 12) p e j) → An (K97 (nI p) (nI e) (nI (i + 1)) s') Q) : An (F_X12_forged_b109 x1 x2 x3 K59 K73 K97 fu (nI p) (nI e) (nI i) (nI 0) s) Q := by
  refine lp_up (fun q u (x : SM) => F_X12_forged_b109 x1 x2 x3 K59 K73 K97 q (nI p) (nI e) (nI i) u x) 3 (fun n s' => Fr [] [24] [] s s' ∧ ∀ j, j < 3 * i + n → mA s' 24 j = fgR (fun j => mA s0 21 (1 + j)) (mA s0 12) p e j) _ ?_ ?_ fu 0 s (by omega) (by unfold fu; omega) ⟨Fr.rf s, fun j hj => h24 j (by omega)⟩
  · intro q n s' hn ⟨h1, h2⟩ hK
    have e21 : mA s' 21 = mA s0 21 := (h1.2.1 21 (by decide)).trans (hf.2.1 21 (by decide))
    have e12 : mA s' 12 = mA s0 12 := (h1.2.1 12 (by decide)).trans (hf.2.1 12 (by decide))
    have fin : ∀ v : Int32, v = fgR (fun j => mA s0 21 (1 + j)) (mA s0 12) p e (3 * i + n) → An (F_X12_forged_b176 x1 x2 x3 K59 K73 K97 (F_X12_forged_b109 x1 x2 x3 K59 K73 K97 q) (nI p) (nI e) (nI i) (nI n) s' (nI (3 * i + n)) v) Q := by
      intro v ev
      unfold F_X12_forged_b176
      rw [asN v (by omega) (by omega), Option.bind_some, nm_at, nm_at, nI_1]
      refine hK _ ⟨h1.a 24 _ (by decide), fun j hj => ?_⟩
      rw [q_aa, if_pos rfl, u_at]
      by_cases c : j = 3 * i + n
      · rw [if_pos c, c]; exact ev
      · rw [if_neg c]; exact h2 j (by omega)
    show An (F_X12_forged_b109 x1 x2 x3 K59 K73 K97 (q + 1) (nI p) (nI e) (nI i) (nI n) s') _
    rw [F_X12_forged_b109, if_neg (show ¬ (3 : Int32) ≤ nI n from nI_ge (a := n) (b := 3) hn (by omega))]
    have i3 : (3 : Int32) * nI i + nI n = nI (3 * i + n) := by rw [show (3 : Int32) * nI i = nI (3 * i) from nI_mul 3 i, nI_add]
    have i4 : (3 : Int32) * nI e + nI n = nI (3 * e + n) := by rw [show (3 : Int32) * nI e = nI (3 * e) from nI_mul 3 e, nI_add]
    rw [i3, i4, e12]
    unfold fgR insR at fin
    have hn3 : n = 0 ∨ n = 1 ∨ n = 2 := by omega
    by_cases c : i = p
    · rw [if_pos (by rw [c]), agN (by omega) (by omega), Option.bind_some]
      refine fin _ ?_
      rcases hn3 with rfl | rfl | rfl
      · simp (disch := omega) only [c, and_true, true_and, and_false, false_and, or_true, true_or, or_false, false_or, not_true_eq_false, not_false_eq_true, nm_at, Option.bind_some, if_true, if_false, ↓k_m1, ↓k_m2, ↓k_m3, ↓k_m5, ↓k_m9, ↓k_m10, ↓k_mno, k_0, k_1, k_2, k_3, k_4, k_5, k_6, k_7, k_8, k_9, k_10, k_11, k_12, k_13, k_14, k_15, k_16, k_17, k_18, k_19, k_20, k_21, k_22, k_23, k_24, k_25, k_26, k_27, k_28, k_29, k_30, k_31, k_32, k_36, k_48, k_50, k_57, k_58, k_59, k_64, k_97, k_99, k_100, k_101, k_102, k_104, k_105, k_107, k_108, k_109, k_110, k_111, k_114, k_115, k_116, k_119, k_122, k_128, k_255, k_500, k_1000, k_1023, k_10000, k_100000, nI_add, nI_mul, nI_sub, nI_sub0, nI_leI, nI_ltI, nI_eq, nM_lt, nM_le, nM_nlt, nM_nle, nM_ne, nM_ne', nM_eq, q_ii, q_ia, q_ij, q_it, q_aa, q_ai, q_aj, q_at, q_jj, q_ji, q_ja, q_jt, q_tt, q_ti, q_ta, q_tj, u_at, uL_at, Nat.zero_mul, Nat.mul_zero, Nat.one_mul, Nat.mul_one, Nat.zero_add, Nat.add_zero, nI_toInt, agN, asN, agLN, asLN, atvN, setvN, if_pos, if_neg]
      · simp (disch := omega) only [c, and_true, true_and, and_false, false_and, or_true, true_or, or_false, false_or, not_true_eq_false, not_false_eq_true, nm_at, Option.bind_some, if_true, if_false, ↓k_m1, ↓k_m2, ↓k_m3, ↓k_m5, ↓k_m9, ↓k_m10, ↓k_mno, k_0, k_1, k_2, k_3, k_4, k_5, k_6, k_7, k_8, k_9, k_10, k_11, k_12, k_13, k_14, k_15, k_16, k_17, k_18, k_19, k_20, k_21, k_22, k_23, k_24, k_25, k_26, k_27, k_28, k_29, k_30, k_31, k_32, k_36, k_48, k_50, k_57, k_58, k_59, k_64, k_97, k_99, k_100, k_101, k_102, k_104, k_105, k_107, k_108, k_109, k_110, k_111, k_114, k_115, k_116, k_119, k_122, k_128, k_255, k_500, k_1000, k_1023, k_10000, k_100000, nI_add, nI_mul, nI_sub, nI_sub0, nI_leI, nI_ltI, nI_eq, nM_lt, nM_le, nM_nlt, nM_nle, nM_ne, nM_ne', nM_eq, q_ii, q_ia, q_ij, q_it, q_aa, q_ai, q_aj, q_at, q_jj, q_ji, q_ja, q_jt, q_tt, q_ti, q_ta, q_tj, u_at, uL_at, Nat.zero_mul, Nat.mul_zero, Nat.one_mul, Nat.mul_one, Nat.zero_add, Nat.add_zero, nI_toInt, agN, asN, agLN, asLN, atvN, setvN, if_pos, if_neg]
      · simp (disch := omega) only [c, and_true, true_and, and_false, false_and, or_true, true_or, or_false, false_or, not_true_eq_false, not_false_eq_true, nm_at, Option.bind_some, if_true, if_false, ↓k_m1, ↓k_m2, ↓k_m3, ↓k_m5, ↓k_m9, ↓k_m10, ↓k_mno, k_0, k_1, k_2, k_3, k_4, k_5, k_6, k_7, k_8, k_9, k_10, k_11, k_12, k_13, k_14, k_15, k_16, k_17, k_18, k_19, k_20, k_21, k_22, k_23, k_24, k_25, k_26, k_27, k_28, k_29, k_30, k_31, k_32, k_36, k_48, k_50, k_57, k_58, k_59, k_64, k_97, k_99, k_100, k_101, k_102, k_104, k_105, k_107, k_108, k_109, k_110, k_111, k_114, k_115, k_116, k_119, k_122, k_128, k_255, k_500, k_1000, k_1023, k_10000, k_100000, nI_add, nI_mul, nI_sub, nI_sub0, nI_leI, nI_ltI, nI_eq, nM_lt, nM_le, nM_nlt, nM_nle, nM_ne, nM_ne', nM_eq, q_ii, q_ia, q_ij, q_it, q_aa, q_ai, q_aj, q_at, q_jj, q_ji, q_ja, q_jt, q_tt, q_ti, q_ta, q_tj, u_at, uL_at, Nat.zero_mul, Nat.mul_zero, Nat.one_mul, Nat.mul_one, Nat.zero_add, Nat.add_zero, nI_toInt, agN, asN, agLN, asLN, atvN, setvN, if_pos, if_neg]
    · rw [if_neg (by rw [nI_eq (by omega) (by omega)]; exact c)]
      unfold F_X12_forged_b170
      rw [e21]
      by_cases d : p ≤ i
      · rw [if_pos (nI_le d (by omega)), show nI i - 1 = nI (i - 1) from nI_sub (a := i) (b := 1) (by omega)]
        rw [show (1 : Int32) + 3 * nI (i - 1) + nI n = nI (1 + 3 * (i - 1) + n) from by rw [show (3 : Int32) * nI (i - 1) = nI (3 * (i - 1)) from nI_mul 3 _, show (1 : Int32) = nI 1 from rfl, nI_add, nI_add]]
        rw [agN (by omega) (by omega), Option.bind_some]
        refine fin _ ?_
        rw [if_neg (by omega), if_neg (by omega), if_neg (by omega), if_neg (by omega)]
        exact congrArg (mA s0 21) (by omega)
      · rw [if_neg (nI_ge (by omega) (by omega))]
        rw [show (1 : Int32) + 3 * nI i + nI n = nI (1 + 3 * i + n) from by rw [show (3 : Int32) * nI i = nI (3 * i) from nI_mul 3 _, show (1 : Int32) = nI 1 from rfl, nI_add, nI_add]]
        rw [agN (by omega) (by omega), Option.bind_some]
        refine fin _ ?_
        rw [if_pos (by omega)]
        exact congrArg (mA s0 21) (by omega)
  · intro q s' ⟨h1, h2⟩
    show An (F_X12_forged_b109 x1 x2 x3 K59 K73 K97 (q + 1) (nI p) (nI e) (nI i) (nI 3) s') _
    rw [F_X12_forged_b109, if_pos (show (3 : Int32) ≤ nI 3 from nI_le (Nat.le_refl 3) (by omega)), nm_at, nI_1]
    exact hk s' h1 fun j hj => h2 j (by omega)
theorem forgM_lp {t7 : S7} {t10 : S10} {t1 : S1} {P S W F f k : Nat} {s0 : SM} {sd : Nat → Int32} {x2 : Int32} (hM : MR t7 (mA s0 11)) (hW : WR t10 W (mA s0 9)) (hF : FR t1 F (mA s0 10)) (hf : f < F) (hP : P < 8) (hS : S ≤ 6) (hk : k < P) (hr : LW P W (fun j => mA s0 21 (1 + j))) (hrs : LW S W (mA s0 12)) (h21 : mA s0 21 0 = nI P) (h15 : mI s0 15 = nI S) (hsd : ∀ w, w < W → mA s0 31 w = sd w) : An (F_X12_forged_b59 (nI f) x2 (nI k) fu (nI 0) s0) (fun q => fgP (fgC (mA s0 10) (mA s0 11) (mA s0 9) sd (fun j => mA s0 21 (1 + j)) (mA s0 12) f P k) (P + 1) S q.1 ∧ Fr [25] fA [] s0 q.2) := by
  refine lp_up (fun q u s => F_X12_forged_b59 (nI f) x2 (nI k) q u s) (P + 1) (fun m s => Fr [25] fA [] s0 s ∧ ∀ p e, p < m → e < S → ¬ fgC (mA s0 10) (mA s0 11) (mA s0 9) sd (fun j => mA s0 21 (1 + j)) (mA s0 12) f P k p e) _ ?_ ?_ fu 0 s0 (by omega) (by unfold fu; omega) ⟨Fr.rf s0, fun p e hp => by omega⟩
  · intro q m s hm ⟨h1, h2⟩ hK
    have e21 := h1.2.1 21 (by decide)
    show An (F_X12_forged_b59 (nI f) x2 (nI k) (q + 1) (nI m) s) _
    rw [F_X12_forged_b59, show aget 25 (mA s 21) 0 = some (nI P) from by rw [e21, ← h21]; exact agN (k := 0) (by omega) (by omega), Option.bind_some, if_neg (nI_nlt (by omega) (by omega)), nm_at]
    refine lp_up (fun q2 u s => F_X12_forged_b73 (nI f) x2 (nI k) (F_X12_forged_b59 (nI f) x2 (nI k) q) q2 (nI m) u s) S (fun n s => Fr [25] fA [] s0 s ∧ ∀ e, e < n → ¬ fgC (mA s0 10) (mA s0 11) (mA s0 9) sd (fun j => mA s0 21 (1 + j)) (mA s0 12) f P k m e) _ ?_ ?_ fu 0 s (by omega) (by unfold fu; omega) ⟨h1, fun e he => by omega⟩
    · intro q2 n s2 hn ⟨g1, g2⟩ hK2
      have e21 := g1.2.1 21 (by decide)
      have e15 := g1.1 15 (by decide)
      show An (F_X12_forged_b73 (nI f) x2 (nI k) (F_X12_forged_b59 (nI f) x2 (nI k) q) (q2 + 1) (nI m) (nI n) s2) _
      rw [F_X12_forged_b73, e15, h15, if_neg (nI_ge hn (by omega)), show aget 25 (mA s2 21) 0 = some (nI P) from by rw [e21, ← h21]; exact agN (k := 0) (by omega) (by omega), Option.bind_some, nm_at, nm_at, nI_1]
      refine lp_up (fun q3 u s => F_X12_forged_b97 (nI f) x2 (nI k) (F_X12_forged_b59 (nI f) x2 (nI k) q) (F_X12_forged_b73 (nI f) x2 (nI k) (F_X12_forged_b59 (nI f) x2 (nI k) q) q2) q3 (nI m) (nI n) u s) (P + 1) (fun i s => Fr [25] fA [] s0 s ∧ mI s 25 = nI (P + 1) ∧ ∀ j, j < 3 * i → mA s 24 j = fgR (fun j => mA s0 21 (1 + j)) (mA s0 12) m n j) _ ?_ ?_ fu 0 _ (by omega) (by unfold fu; omega) ⟨g1.i 25 _ (by decide), by rw [q_ii, if_pos rfl], fun j hj => by omega⟩
      · intro q3 i s3 hi ⟨k1, k2, k3⟩ hK3
        show An (F_X12_forged_b97 (nI f) x2 (nI k) (F_X12_forged_b59 (nI f) x2 (nI k) q) (F_X12_forged_b73 (nI f) x2 (nI k) (F_X12_forged_b59 (nI f) x2 (nI k) q) q2) (q3 + 1) (nI m) (nI n) (nI i) s3) _
        rw [F_X12_forged_b97, k2, if_neg (nI_ge hi (by omega)), nm_at]
        refine fill3_lp hP hS hm hn hi k1 k3 fun s' a1 a2 => ?_
        exact hK3 s' ⟨k1.tr (a1.wd (by decide) (by decide) (by decide)), (a1.1 25 (by decide)).trans k2, a2⟩
      · intro q3 s3 ⟨k1, k2, k3⟩
        show An (F_X12_forged_b97 (nI f) x2 (nI k) (F_X12_forged_b59 (nI f) x2 (nI k) q) (F_X12_forged_b73 (nI f) x2 (nI k) (F_X12_forged_b59 (nI f) x2 (nI k) q) q2) (q3 + 1) (nI m) (nI n) (nI (P + 1)) s3) _
        rw [F_X12_forged_b97, k2, if_pos (nI_le (Nat.le_refl _) (by omega))]
        have f9 := k1.2.1 9 (by decide)
        have f10 := k1.2.1 10 (by decide)
        have f11 := k1.2.1 11 (by decide)
        obtain ⟨l1, l2, l3⟩ := hrs n hn
        have hJ := JH_ok (t7 := t7) (t10 := t10) (t1 := t1) (s := s3) (f := f) (F := F) (W := W) (n := P + 1) (r := fgR (fun j => mA s0 21 (1 + j)) (mA s0 12) m n) (sd := sd) (by rw [f11]; exact hM) (by rw [f9]; exact hW) (by rw [f10]; exact hF) hf (by omega) (hr.ins (by omega) l1 l2 l3) k2 k3 (fun w hw => by rw [k1.2.1 31 (by decide)]; exact hsd w hw)
        rw [f9, f10, f11] at hJ
        refine An_bind (judges_t (by omega) hJ) fun s4 ⟨b1, b2, b3⟩ => ?_
        have k4 : Fr [25] fA [] s0 s4 := k1.tr (b1.wd (by decide) (by decide) (by decide))
        have fin : ∀ x : Int32, x = nI (if m ≤ k then k + 1 else k) → An (F_X12_forged_b211 (nI f) x2 (nI k) (F_X12_forged_b59 (nI f) x2 (nI k) q) (F_X12_forged_b73 (nI f) x2 (nI k) (F_X12_forged_b59 (nI f) x2 (nI k) q) q2) (nI m) (nI n) s4 x) (fun q => fgP (fgC (mA s0 10) (mA s0 11) (mA s0 9) sd (fun j => mA s0 21 (1 + j)) (mA s0 12) f P k) (P + 1) S q.1 ∧ Fr [25] fA [] s0 q.2) := by
          intro x ex
          have hx : (if m ≤ k then k + 1 else k) < P + 1 := by split <;> omega
          obtain ⟨c1, c2⟩ := b3 _ hx
          unfold F_X12_forged_b211
          rw [ex, agN (by omega) (by omega), Option.bind_some]
          rcases c1 with c1 | c1
          · rw [if_pos (show mA s4 28 _ = 0 from c1)]
            refine An_some ⟨Or.inr ⟨m, n, hm, hn, ?_, fun y => ?_, ?_⟩, k4⟩
            · show (10 : Int32) * nI m + nI n = _
              rw [show (10 : Int32) * nI m = nI (10 * m) from nI_mul 10 m, nI_add]
            · have := c2.mpr y
              rw [c1] at this
              exact absurd this (by decide)
            · intro p2 e2 he2 hc
              rcases hc with hc | ⟨hc, hc2⟩
              · exact h2 p2 e2 hc he2
              · rw [hc]; exact g2 e2 hc2
          · rw [if_neg (show ¬ mA s4 28 _ = 0 from by rw [c1]; decide), nm_at, nI_1]
            refine hK2 _ ⟨k4, fun e he => ?_⟩
            by_cases c : e = n
            · rw [c]; exact fun y => y (c2.mp c1)
            · exact g2 e (by omega)
        by_cases g : m ≤ k
        · rw [if_neg (nI_nlt g (by omega)), nI_1]
          exact fin _ (by rw [if_pos g])
        · rw [if_pos (nI_lt (by omega) (by omega))]
          exact fin _ (by rw [if_neg g])
    · intro q2 s2 ⟨g1, g2⟩
      have e15 := g1.1 15 (by decide)
      show An (F_X12_forged_b73 (nI f) x2 (nI k) (F_X12_forged_b59 (nI f) x2 (nI k) q) (q2 + 1) (nI m) (nI S) s2) _
      rw [F_X12_forged_b73, e15, h15, if_pos (nI_le (Nat.le_refl S) (by omega)), nm_at, nI_1]
      refine hK s2 ⟨g1, fun p e hp he => ?_⟩
      by_cases c : p = m
      · rw [c]; exact g2 e he
      · exact h2 p e (by omega) he
  · intro q s ⟨h1, h2⟩
    have e21 := h1.2.1 21 (by decide)
    show An (F_X12_forged_b59 (nI f) x2 (nI k) (q + 1) (nI (P + 1)) s) _
    rw [F_X12_forged_b59, show aget 25 (mA s 21) 0 = some (nI P) from by rw [e21, ← h21]; exact agN (k := 0) (by omega) (by omega), Option.bind_some, if_pos (nI_lt (by omega) (by omega))]
    exact An_some ⟨Or.inl ⟨rfl, h2⟩, h1⟩
theorem op_forged {st : SX} {ms : SM} (h : Inv st ms) (a1 a2 a3 : Int32) : ∃ (r r2 : Int32) (st2 : SX) (ms2 : SM), X_forged st a1 a2 a3 = some (r, st2) ∧ M_forged ms a1 a2 a3 = some (r2, ms2) ∧ r = r2 ∧ Inv st2 ms2 := by
  obtain ⟨o, tx, ve, tr, me, gu, ch, row, i1, i2, t7, t10, t1, tp, ts, p7, p10, p1, pp, ps⟩ := st
  obtain ⟨W, F, P, S, T, ⟨hW, hF, hP, hS, hT⟩, hTX, hWR, hFR, hMR, hLP, hLS, hI1, hI2, hMo, hTr⟩ := (show IV o tx tr row i1 i2 t7 t10 t1 tp ts pp ps ms from h)
  have hP8 := hLP.1
  have hW16 := hWR.1
  have hF2 := hFR.1
  have hS6 := hLS.1
  have hs := hLP.2.2.1.1
  by_cases c1 : (0 ≤ a1.toInt ∧ a1.toInt < F) ∧ 0 ≤ a2.toInt ∧ a2.toInt < 2
  · obtain ⟨f, hf, rfl⟩ := Lb.of c1.1
    obtain ⟨d, hd, rfl⟩ := Lb.of (n := 2) c1.2
    by_cases c2 : 0 ≤ a3.toInt ∧ a3.toInt < P
    · obtain ⟨k, hk, rfl⟩ := Lb.of c2
      obtain ⟨z, z1, z2⟩ := view_ok (v := ve) hMR hWR hFR hf hLP (by omega) (d := d) (by omega) (snd_d hWR hd)
      obtain ⟨s', m1, m2⟩ := jp_t (t7 := t7) (t10 := t10) (t1 := t1) (s := mIs ms 0 (nI 0)) hMR hWR hFR hf hP hP8 hLP.2.2.2 hd
      obtain ⟨m3, m4, m5, ⟨m6, m7⟩, m8⟩ := m2
      obtain ⟨j4, j5⟩ := m7 k hk
      obtain ⟨b, hb, b1, b2⟩ := binds_t z2 (i := k) (by omega)
      have hfr := fr_view m3
      have hX0 : F_X11_forged o t7 tr ve t1 tp ts t10 (nI f) (nI d) (nI k) = (if nI b = 0 then some ((-2), tr, z) else (F_X4_isFull tp).bind fun q_11 => (if q_11 = 0 then nm 0 fun v4_12 => F_X11_forged_b60 o t7 t1 tp ts t10 (nI f) (nI d) (nI k) fu v4_12 tr z else some ((-3), tr, z))) := by
        unfold F_X11_forged F_X11_view
        rw [noView_t o t7 hFR.2.1 (by omega), Option.bind_some, if01, if_pos c1, has_t tp (by omega) hs, Option.bind_some, if10, if_pos c2, z1, Option.bind_some, Option.bind_some, b1, Option.bind_some]
      have hM0 : F_X12_forged ms (nI f) (nI d) (nI k) = (if mA s' 28 k = 0 then some ((-2), s') else (aget 25 (mA s' 21) 0).bind fun e_22 => (if e_22 = 8 then some ((-3), s') else nm 0 fun v4_23 => F_X12_forged_b59 (nI f) (nI d) (nI k) fu v4_23 s')) := by
        unfold F_X12_forged
        rw [nm_at, isForm_t (s := mIs ms 0 0) hF (by omega), Option.bind_some, if10, if_pos c1, isLine_t (s := mIs ms 0 0) hP (by omega), Option.bind_some, if10, if_pos c2, show F_X12_judgesPaper (mIs ms 0 0) (nI f) (nI d) = some s' from m1, Option.bind_some, agN (by omega) (by omega), Option.bind_some]
      have e21 : mA s' 21 = mA ms 21 := hfr.2.1 21 (by decide)
      have fin : ∀ (r r2 : Int32) (t z' : _) (s2 : SM), F_X11_forged o t7 tr ve t1 tp ts t10 (nI f) (nI d) (nI k) = some (r, t, z') → F_X12_forged ms (nI f) (nI d) (nI k) = some (r2, s2) → r = r2 → s4_most t = nI 8 → Fr scI scA scJ ms s2 → ∃ (r r2 : Int32) (st2 : SX) (ms2 : SM), X_forged (o, tx, ve, tr, me, gu, ch, row, i1, i2, t7, t10, t1, tp, ts, p7, p10, p1, pp, ps) (nI f) (nI d) (nI k) = some (r, st2) ∧ M_forged ms (nI f) (nI d) (nI k) = some (r2, ms2) ∧ r = r2 ∧ Inv st2 ms2 := fun r r2 t z' s2 x1 x2 x3 x4 x5 =>
        ⟨r, r2, (o, tx, z', t, me, gu, ch, row, i1, i2, t7, t10, t1, tp, ts, p7, p10, p1, pp, ps), s2, by unfold X_forged; rw [x1]; rfl, by unfold M_forged; rw [x2]; rfl, x3, IV.fr (show IV o tx tr row i1 i2 t7 t10 t1 tp ts pp ps ms from h) x5 x4 hMo.2.1 fun _ _ x => x⟩
      rw [hX0, hM0] at fin
      obtain rfl | rfl : b = 0 ∨ b = 1 := by omega
      · have e28 : mA s' 28 k = nI 0 := by
          rcases j4 with j4 | j4
          · exact j4
          · exact absurd (b2.mpr (j5.mp j4)) (by omega)
        exact fin (-2) (-2) tr z s' (if_pos rfl) (if_pos e28) rfl hMo.1 hfr
      · have e28 : mA s' 28 k = nI 1 := j5.mpr (b2.mp rfl)
        rw [if_neg (show ¬ nI 1 = 0 from by decide), if_neg (show ¬ mA s' 28 k = 0 from by rw [e28]; decide)] at fin
        have e0 : aget 25 (mA s' 21) 0 = some (nI P) := by rw [e21, ← hP]; exact agN (k := 0) (by omega) (by omega)
        rw [e0, Option.bind_some] at fin
        unfold F_X4_isFull at fin
        rw [hs, hLP.2.1] at fin
        by_cases c3 : P = 8
        · rw [if_neg (nI_nlt (by omega) (by omega)), Option.bind_some, if_neg (by decide), if_pos (by rw [c3]; rfl)] at fin
          exact fin (-3) (-3) tr z s' rfl rfl rfl hMo.1 hfr
        · rw [if_pos (nI_lt (by omega) (by omega)), Option.bind_some, if_pos rfl, if_neg (show ¬ nI P = 8 from by rw [show (8 : Int32) = nI 8 from rfl, nI_eq (by omega) (by omega)]; exact c3), nm_at, nm_at] at fin
          obtain ⟨q, q1, q2, q3⟩ := forgX_lp (o := o) hMR hWR hFR hf hLP hLS hMo.1 (by omega) (by omega) (snd_d hWR hd) hk z
          have f9 : mA s' 9 = mA ms 9 := hfr.2.1 9 (by decide)
          have f10 : mA s' 10 = mA ms 10 := hfr.2.1 10 (by decide)
          have f11 : mA s' 11 = mA ms 11 := hfr.2.1 11 (by decide)
          have f12 : mA s' 12 = mA ms 12 := hfr.2.1 12 (by decide)
          obtain ⟨u, u1, u2, u3⟩ := forgM_lp (t7 := t7) (t10 := t10) (t1 := t1) (P := P) (S := S) (W := W) (F := F) (f := f) (k := k) (s0 := s') (sd := fun w => mA ms 9 (4 * w + d)) (x2 := nI d) (by rw [f11]; exact hMR) (by rw [f9]; exact hWR) (by rw [f10]; exact hFR) hf (by omega) hS6 hk (by rw [e21]; exact hLP.2.2.2) (by rw [f12]; exact hLS.2.2.2) (by rw [e21]; exact hP) (by rw [hfr.1 15 (by decide)]; exact hS) (fun w hw => m8 w (by omega))
          rw [e21, f9, f10, f11, f12] at u2
          exact fin q.1 u.1 q.2.1 q.2.2 u.2 q1 u1 (fg_uniq q2 u2) q3 (hfr.tr (u3.wd (by decide) (by decide) (by decide)))
    · refine ⟨nM 1, nM 1, (o, tx, ve, tr, me, gu, ch, row, i1, i2, t7, t10, t1, tp, ts, p7, p10, p1, pp, ps), mIs ms 0 0, ?_, ?_, rfl, IV.f0 h (fr0 ms)⟩
      · unfold X_forged F_X11_forged
        rw [noView_t o t7 hFR.2.1 (by omega), if_pos c1, has_t tp (by omega) hs, if_neg c2]
        rfl
      · unfold M_forged F_X12_forged
        simp only [nm_at]
        rw [isForm_t (s := mIs ms 0 0) hF (by omega), if_pos c1, isLine_t (s := mIs ms 0 0) hP (by omega), if_neg c2]
        rfl
  · refine ⟨nM 1, nM 1, (o, tx, ve, tr, me, gu, ch, row, i1, i2, t7, t10, t1, tp, ts, p7, p10, p1, pp, ps), mIs ms 0 0, ?_, ?_, rfl, IV.f0 h (fr0 ms)⟩
    · unfold X_forged F_X11_forged
      rw [noView_t o t7 hFR.2.1 (by omega), if_neg c1]
      rfl
    · unfold M_forged F_X12_forged
      simp only [nm_at]
      rw [isForm_t (s := mIs ms 0 0) hF (by omega), if_neg c1]
      rfl

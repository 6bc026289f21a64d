/-! ===== the class's state and the reference's ===== -/
theorem ng_lt {x : Int32} (hx : x < 0) {b : Nat} (hb : b < 2 ^ 31) : (x < nI b) = True := eq_true (by rw [i_lt, nI_toInt hb]; rw [i_lt, pz0] at hx; omega)
theorem ng_le {x : Int32} (hx : x < 0) {b : Nat} (hb : b < 2 ^ 31) : (x ≤ nI b) = True := eq_true (by rw [i_le, nI_toInt hb]; rw [i_lt, pz0] at hx; omega)
theorem ng_nlt {x : Int32} (hx : x < 0) {b : Nat} (hb : b < 2 ^ 31) : (nI b < x) = False := eq_false (by rw [i_lt, nI_toInt hb]; rw [i_lt, pz0] at hx; omega)
theorem ng_nle {x : Int32} (hx : x < 0) {b : Nat} (hb : b < 2 ^ 31) : (nI b ≤ x) = False := eq_false (by rw [i_le, nI_toInt hb]; rw [i_lt, pz0] at hx; omega)
theorem ng_ne {x : Int32} (hx : x < 0) {b : Nat} (hb : b < 2 ^ 31) : (x = nI b) = False := eq_false (by intro e; rw [e, i_lt, pz0, nI_toInt hb] at hx; omega)
theorem ng_ne' {x : Int32} (hx : x < 0) {b : Nat} (hb : b < 2 ^ 31) : (nI b = x) = False := eq_false (by intro e; rw [← e, i_lt, pz0, nI_toInt hb] at hx; omega)
theorem ng_of {x : Int32} (h : ¬ (0 ≤ x.toInt)) : x < 0 := by rw [i_lt, pz0]; omega
def Lb (x : Int32) (b : Nat) : Prop := ∃ n, n < b ∧ x = nI n
theorem Lb.mono {x : Int32} {a b : Nat} (h : Lb x a) (hab : a ≤ b) : Lb x b := by
  obtain ⟨n, h1, h2⟩ := h
  exact ⟨n, by omega, h2⟩
theorem Lb.of {x : Int32} {n : Nat} (h : 0 ≤ x.toInt ∧ x.toInt < n) : Lb x n := by
  rcases i_cases x with hx | ⟨k, hk, rfl⟩
  · rw [i_lt, pz0] at hx; omega
  · rw [nI_toInt hk] at h
    exact ⟨k, by omega, rfl⟩
theorem Lb_nI {n b : Nat} (h : n < b) : Lb (nI n) b := ⟨n, h, rfl⟩
def cn (x : Int32) : Nat := x.toNatClampNeg
theorem cn_nI {n : Nat} (h : n < 2 ^ 31) : cn (nI n) = n := nI_clamp h
theorem Lb_cn {x : Int32} {b : Nat} (h : Lb x b) (hb : b ≤ 2 ^ 31) : x = nI (cn x) ∧ cn x < b := by
  obtain ⟨n, h1, h2⟩ := h
  rw [h2, cn_nI (by omega)]
  exact ⟨rfl, h1⟩
/-! in, isWord, isLine, isForm -/
theorem in_lt {n : Nat} (hn : n < 2 ^ 31) (x : Int32) : F_X12_in x 0 (nI n - 1) = some (if 0 ≤ x.toInt ∧ x.toInt < n then 1 else 0) := by
  unfold F_X12_in
  rcases i_cases x with hx | ⟨k, hk, rfl⟩
  · have h2 : x.toInt < 0 := by rw [i_lt, pz0] at hx; exact hx
    rw [if_pos hx, if_neg (by omega)]
  · rw [if_neg (nI_pos hk), nI_toInt hk]
    cases n with
    | zero =>
      rw [show nI 0 - 1 = nM 1 from by decide, if_pos (of_eq_true (nM_lt (by omega) (by omega) hk)), if_neg (by omega)]
    | succ n =>
      rw [nI_pred]
      by_cases h : n < k
      · rw [if_pos (nI_lt h hk), if_neg (by omega)]
      · rw [if_neg (nI_nlt (by omega) (by omega)), if_pos (by omega)]
theorem zb01 {c : Prop} [Decidable c] : zb (if c then 1 else 0) = some (if c then 1 else 0) := by
  by_cases h : c
  · rw [if_pos h]; rfl
  · rw [if_neg h]; rfl
theorem isWord_t {s : SM} {W : Nat} (hW : mI s 13 = nI W) (hn : W < 2 ^ 31) (x : Int32) : F_X12_isWord s x = some (if 0 ≤ x.toInt ∧ x.toInt < W then 1 else 0) := by
  unfold F_X12_isWord
  rw [hW, in_lt hn, Option.bind_some, zb01]; rfl
theorem isLine_t {s : SM} {P : Nat} (hP : mA s 21 0 = nI P) (hn : P < 2 ^ 31) (x : Int32) : F_X12_isLine s x = some (if 0 ≤ x.toInt ∧ x.toInt < P then 1 else 0) := by
  unfold F_X12_isLine
  rw [show aget 25 (mA s 21) 0 = some (nI P) from by rw [← hP]; exact agN (k := 0) (by omega) (by omega), Option.bind_some, in_lt hn, Option.bind_some, zb01]; rfl
theorem in_rng {a b : Nat} (ha : a < 2 ^ 31) (hb : b < 2 ^ 31) (x : Int32) : F_X12_in x (nI a) (nI b) = some (if (a : Int) ≤ x.toInt ∧ x.toInt ≤ b then 1 else 0) := in_spec x ha hb
theorem if10 {c : Prop} [Decidable c] {A : Type} (x y : A) : (if (if c then (1 : Int32) else 0) = 0 then x else y) = if c then y else x := by
  by_cases h : c
  · rw [if_pos h, if_pos h]; rfl
  · rw [if_neg h, if_neg h]; rfl
theorem if01 {c : Prop} [Decidable c] {A : Type} (x y : A) : (if (if c then (0 : Int32) else 1) = 0 then x else y) = if c then x else y := by
  by_cases h : c
  · rw [if_pos h, if_pos h]; rfl
  · rw [if_neg h, if_neg h]; rfl
theorem isForm_t {s : SM} {F : Nat} (hF : mI s 14 = nI F) (hn : F < 2 ^ 31) (x y : Int32) : F_X12_isForm s x y = some (if (0 ≤ x.toInt ∧ x.toInt < F) ∧ 0 ≤ y.toInt ∧ y.toInt < 2 then 1 else 0) := by
  unfold F_X12_isForm
  rw [hF, in_lt hn, Option.bind_some, if10]
  by_cases h : 0 ≤ x.toInt ∧ x.toInt < F
  · rw [if_pos h]
    have e : F_X12_in y 0 1 = _ := in_rng (a := 0) (b := 1) (by omega) (by omega) y
    rw [e, Option.bind_some, if10]
    by_cases h2 : 0 ≤ y.toInt ∧ y.toInt < 2
    · rw [if_pos (by omega), if_pos ⟨h, h2⟩]
    · rw [if_neg (by omega), if_neg (fun q => h2 q.2)]
  · rw [if_neg h, if_neg (fun q => h q.1)]
theorem noView_t (o : S11) (t : S7) {s : S1} {F : Nat} (hF : s1_size s = nI F) (hn : F < 2 ^ 31) (x y : Int32) : F_X11_isNoView o t s x y = some (if (0 ≤ x.toInt ∧ x.toInt < F) ∧ 0 ≤ y.toInt ∧ y.toInt < 2 then 0 else 1) := by
  unfold F_X11_isNoView
  rw [fhas_t s hn hF, Option.bind_some, if10]
  by_cases h : 0 ≤ x.toInt ∧ x.toInt < F
  · rw [if_pos h]
    by_cases h2 : 0 ≤ y.toInt ∧ y.toInt < 2
    · rw [if_neg (by rw [i_lt, pz0]; omega), if_pos (by rw [i_lt, show (2 : Int32).toInt = 2 from by decide]; omega), if_pos ⟨h, h2⟩]
    · rw [if_neg (fun q => h2 q.2 : ¬ ((0 ≤ x.toInt ∧ x.toInt < F) ∧ 0 ≤ y.toInt ∧ y.toInt < 2))]
      by_cases h3 : y < 0
      · rw [if_pos h3]
      · rw [if_neg h3, if_neg (by rw [i_lt, show (2 : Int32).toInt = 2 from by decide]; rw [i_lt, pz0] at h3; omega)]
  · rw [if_neg h, if_neg (fun q => h q.1)]
/-! the relations -/
def WR (s : S10) (W : Nat) (r : Nat → Int32) : Prop := W ≤ 16 ∧ s10_size s = nI W ∧ ∀ w, w < W → (s10_sounds s w = r (4 * w) ∧ s10_sounds s (16 + w) = r (4 * w + 1) ∧ s10_meanings s w = r (4 * w + 2) ∧ s10_syllables s w = r (4 * w + 3)) ∧ Lb (r (4 * w)) 26 ∧ Lb (r (4 * w + 1)) 26 ∧ Lb (r (4 * w + 2)) 10 ∧ Lb (r (4 * w + 3)) 5
def FR (s : S1) (F : Nat) (r : Nat → Int32) : Prop := F ≤ 2 ∧ s1_size s = nI F ∧ ∀ f, f < F → ∃ l, 1 ≤ l ∧ l ≤ 8 ∧ r (9 * f) = nI l ∧ s1_lengths s f = nI l ∧ ∀ k, k < l → Lb (r (9 * f + 1 + k)) 8 ∧ s1_letters s (8 * f + k) = r (9 * f + 1 + k)
def MR (s : S7) (r : Nat → Int32) : Prop := ∀ l, l < 8 → Lb (r l) 21 ∧ s7_metres s l = r l
def ln3 (r : Nat → Int32) (i : Nat) : Int32 × Int32 × Int32 := (r (3 * i), r (3 * i + 1), r (3 * i + 2))
def LW (n W : Nat) (r : Nat → Int32) : Prop := ∀ i, i < n → Lb (r (3 * i)) W ∧ Lb (r (3 * i + 1)) 10 ∧ Lb (r (3 * i + 2)) 17
def LR (s : S4) (n M W : Nat) (r : Nat → Int32) : Prop := n ≤ M ∧ s4_most s = nI M ∧ PP s n (ln3 r) ∧ LW n W r
def TX (s : S8) (T : Nat) (r : Nat → Int32) : Prop := T ≤ 500 ∧ s8_length s = nI T ∧ ∀ k, k < T → Lb (r k) 256 ∧ s8_bytes s k = (r k).toInt8.toInt32
def IM (o : S11) (im : S4) (c W : Nat) (ms : SM) : Prop := s4_most im = nI 8 ∧ (tb (s11_kept o) c = true ↔ mA ms 23 c = 1) ∧ (mA ms 23 c = 0 ∨ mA ms 23 c = 1) ∧ (mA ms 23 c = 1 → ∃ n, mA ms 22 (25 * c) = nI n ∧ LR im n 8 W (fun k => mA ms 22 (25 * c + 1 + k)))
def IV (o : S11) (tx : S8) (tr row i1 i2 : S4) (t7 : S7) (t10 : S10) (t1 : S1) (tp ts pp ps : S4) (ms : SM) : Prop := ∃ W F P S T : Nat, (mI ms 13 = nI W ∧ mI ms 14 = nI F ∧ mA ms 21 0 = nI P ∧ mI ms 15 = nI S ∧ mI ms 3 = nI T) ∧ TX tx T (mA ms 2) ∧ WR t10 W (mA ms 9) ∧ FR t1 F (mA ms 10) ∧ MR t7 (mA ms 11) ∧ LR tp P 8 W (fun k => mA ms 21 (1 + k)) ∧ LR ts S 6 W (mA ms 12) ∧ IM o i1 0 W ms ∧ IM o i2 1 W ms ∧ (s4_most tr = nI 8 ∧ s4_most row = nI 6 ∧ s4_most pp = nI 8 ∧ s4_most ps = nI 6) ∧ s11_traced o = mT ms
def Inv (st : SX) (ms : SM) : Prop := IV st.1 st.2.1 st.2.2.2.1 st.2.2.2.2.2.2.2.1 st.2.2.2.2.2.2.2.2.1 st.2.2.2.2.2.2.2.2.2.1 st.2.2.2.2.2.2.2.2.2.2.1 st.2.2.2.2.2.2.2.2.2.2.2.1 st.2.2.2.2.2.2.2.2.2.2.2.2.1 st.2.2.2.2.2.2.2.2.2.2.2.2.2.1 st.2.2.2.2.2.2.2.2.2.2.2.2.2.2.1 st.2.2.2.2.2.2.2.2.2.2.2.2.2.2.2.2.2.2.1 st.2.2.2.2.2.2.2.2.2.2.2.2.2.2.2.2.2.2.2 ms
abbrev scI : List Nat := [0, 4, 5, 6, 7, 8, 16, 17, 18, 19, 25]
abbrev scA : List Nat := [20, 24, 26, 27, 28, 29, 30, 31, 32, 33, 36, 37]
abbrev scJ : List Nat := [34, 35]
theorem IM.fr {o : S11} {im : S4} {c W : Nat} {ms ms' : SM} (h : IM o im c W ms) (hf : Fr scI scA scJ ms ms') : IM o im c W ms' := by
  unfold IM
  rw [hf.2.1 23 (by decide), hf.2.1 22 (by decide)]
  exact h
theorem IV.fr {o : S11} {tx : S8} {tr row i1 i2 : S4} {t7 : S7} {t10 : S10} {t1 : S1} {tp ts pp ps : S4} {ms ms' : SM} (h : IV o tx tr row i1 i2 t7 t10 t1 tp ts pp ps ms) (hf : Fr scI scA scJ ms ms') {tr' row' : S4} (h1 : s4_most tr' = nI 8) (h2 : s4_most row' = nI 6) {t10' : S10} (h3 : ∀ W r, WR t10 W r → WR t10' W r) : IV o tx tr' row' i1 i2 t7 t10' t1 tp ts pp ps ms' := by
  obtain ⟨W, F, P, S, T, ⟨hW, hF, hP, hS, hT⟩, hTX, hWR, hFR, hMR, hLP, hLS, hI1, hI2, hMo, hTr⟩ := h
  refine ⟨W, F, P, S, T, ⟨?_, ?_, ?_, ?_, ?_⟩, ?_, ?_, ?_, ?_, ?_, ?_, hI1.fr hf, hI2.fr hf, ⟨h1, h2, hMo.2.2⟩, ?_⟩
  · rw [hf.1 13 (by decide)]; exact hW
  · rw [hf.1 14 (by decide)]; exact hF
  · rw [hf.2.1 21 (by decide)]; exact hP
  · rw [hf.1 15 (by decide)]; exact hS
  · rw [hf.1 3 (by decide)]; exact hT
  · rw [hf.2.1 2 (by decide)]; exact hTX
  · rw [hf.2.1 9 (by decide)]; exact h3 _ _ hWR
  · rw [hf.2.1 10 (by decide)]; exact hFR
  · rw [hf.2.1 11 (by decide)]; exact hMR
  · rw [hf.2.1 21 (by decide)]; exact hLP
  · rw [hf.2.1 12 (by decide)]; exact hLS
  · rw [hf.2.2.2]; exact hTr
theorem IV.mo {o : S11} {tx : S8} {tr row i1 i2 : S4} {t7 : S7} {t10 : S10} {t1 : S1} {tp ts pp ps : S4} {ms : SM} (h : IV o tx tr row i1 i2 t7 t10 t1 tp ts pp ps ms) : s4_most tr = nI 8 ∧ s4_most row = nI 6 := by
  obtain ⟨W, F, P, S, T, _, _, _, _, _, _, _, _, _, hMo, _⟩ := h
  exact ⟨hMo.1, hMo.2.1⟩
theorem IV.f0 {o : S11} {tx : S8} {tr row i1 i2 : S4} {t7 : S7} {t10 : S10} {t1 : S1} {tp ts pp ps : S4} {ms ms' : SM} (h : IV o tx tr row i1 i2 t7 t10 t1 tp ts pp ps ms) (hf : Fr scI scA scJ ms ms') : IV o tx tr row i1 i2 t7 t10 t1 tp ts pp ps ms' := h.fr hf h.mo.1 h.mo.2 fun _ _ x => x
theorem fr0 (ms : SM) : Fr scI scA scJ ms (mIs ms 0 0) := (Fr.rf ms).i 0 0 (by decide)

/-! ===== the text, token by token ===== -/
def rnA (p : Nat → Bool) (b : Nat → Nat) (T : Nat) : Nat → Nat → Nat
  | 0, e => e
  | n + 1, e => if e < T ∧ p (b e) = true then rnA p b T n (e + 1) else e
/-- the first place from e on where p ends -/
def rn (p : Nat → Bool) (b : Nat → Nat) (T e : Nat) : Nat := rnA p b T (T - e) e
theorem rn_step {p : Nat → Bool} {b : Nat → Nat} {T e : Nat} (h : e < T) (hp : p (b e) = true) : rn p b T e = rn p b T (e + 1) := by
  unfold rn
  rw [show T - e = (T - (e + 1)) + 1 from by omega, rnA, if_pos ⟨h, hp⟩]
theorem rn_stop {p : Nat → Bool} {b : Nat → Nat} {T e : Nat} (h : ¬ (e < T ∧ p (b e) = true)) : rn p b T e = e := by
  unfold rn
  cases h2 : T - e with
  | zero => rfl
  | succ n => rw [rnA, if_neg h]
theorem rn_le {p : Nat → Bool} {b : Nat → Nat} {T : Nat} : ∀ (n e : Nat), e ≤ T → T - e ≤ n → e ≤ rn p b T e ∧ rn p b T e ≤ T := by
  intro n
  induction n with
  | zero =>
    intro e h1 h2
    rw [rn_stop (fun h => by omega)]
    omega
  | succ n ih =>
    intro e h1 h2
    by_cases h : e < T ∧ p (b e) = true
    · rw [rn_step h.1 h.2]
      have := ih (e + 1) (by omega) (by omega)
      omega
    · rw [rn_stop h]
      omega
theorem rn_all {p : Nat → Bool} {b : Nat → Nat} {T : Nat} : ∀ (n e : Nat), e ≤ T → T - e ≤ n → ∀ k, e ≤ k → k < rn p b T e → p (b k) = true := by
  intro n
  induction n with
  | zero =>
    intro e h1 h2 k k1 k2
    rw [rn_stop (fun h => by omega)] at k2
    omega
  | succ n ih =>
    intro e h1 h2 k k1 k2
    by_cases h : e < T ∧ p (b e) = true
    · rw [rn_step h.1 h.2] at k2
      by_cases c : k = e
      · rw [c]; exact h.2
      · exact ih (e + 1) (by omega) (by omega) k (by omega) k2
    · rw [rn_stop h] at k2
      omega
def isB (x : Nat) : Bool := decide (32 ≤ x) && decide (x ≤ 32)
def isL (x : Nat) : Bool := decide (97 ≤ x) && decide (x ≤ 122)
def isD (x : Nat) : Bool := decide (48 ≤ x) && decide (x ≤ 57)
def tS (b : Nat → Nat) (T e : Nat) : Nat := rn isB b T e
def tE (b : Nat → Nat) (T e : Nat) : Nat := if tS b T e < T then (if isL (b (tS b T e)) = true then rn isL b T (tS b T e) else if isD (b (tS b T e)) = true then rn isD b T (tS b T e) else tS b T e + 1) else tS b T e
def tK (b : Nat → Nat) (T e : Nat) : Nat := if tS b T e < T then (if isL (b (tS b T e)) = true then 1 else if isD (b (tS b T e)) = true then (if rn isD b T (tS b T e) - tS b T e = 1 ∨ (rn isD b T (tS b T e) - tS b T e = 2 ∧ ¬ b (tS b T e) = 48) then 2 else 4) else if b (tS b T e) = 59 then 3 else 4) else 0
def tV (b : Nat → Nat) (T e : Nat) : Nat := if rn isD b T (tS b T e) - tS b T e = 1 then b (tS b T e) - 48 else 10 * (b (tS b T e) - 48) + (b (tS b T e + 1) - 48)
theorem tS_le {b : Nat → Nat} {T e : Nat} (h : e ≤ T) : e ≤ tS b T e ∧ tS b T e ≤ T := rn_le T e h (by omega)
theorem isL_iff {x : Nat} : isL x = true ↔ 97 ≤ x ∧ x ≤ 122 := by unfold isL; simp
theorem isD_iff {x : Nat} : isD x = true ↔ 48 ≤ x ∧ x ≤ 57 := by unfold isD; simp
theorem isB_iff {x : Nat} : isB x = true ↔ 32 ≤ x ∧ x ≤ 32 := by unfold isB; simp
theorem tE_le {b : Nat → Nat} {T e : Nat} (h : e ≤ T) : tS b T e ≤ tE b T e ∧ tE b T e ≤ T ∧ (tS b T e < T → tS b T e < tE b T e) := by
  have hS := tS_le (b := b) h
  unfold tE
  by_cases c : tS b T e < T
  · rw [if_pos c]
    by_cases d : isL (b (tS b T e)) = true
    · rw [if_pos d, rn_step c d]
      have := rn_le (p := isL) (b := b) (T := T) T (tS b T e + 1) (by omega) (by omega)
      omega
    · rw [if_neg d]
      by_cases g : isD (b (tS b T e)) = true
      · rw [if_pos g, rn_step c g]
        have := rn_le (p := isD) (b := b) (T := T) T (tS b T e + 1) (by omega) (by omega)
        omega
      · rw [if_neg g]; omega
  · rw [if_neg c]; omega
theorem tK_0 {b : Nat → Nat} {T e : Nat} : tK b T e = 0 ↔ ¬ tS b T e < T := by
  unfold tK
  by_cases c : tS b T e < T
  · rw [if_pos c]
    constructor
    · intro h
      exfalso
      revert h
      split
      · omega
      · split
        · split <;> omega
        · split <;> omega
    · intro h; exact absurd c h
  · rw [if_neg c]; simp [c]
theorem tK_1 {b : Nat → Nat} {T e : Nat} (h : tK b T e = 1) : tS b T e < T ∧ isL (b (tS b T e)) = true ∧ tE b T e = rn isL b T (tS b T e) := by
  unfold tK at h
  by_cases c : tS b T e < T
  · rw [if_pos c] at h
    by_cases d : isL (b (tS b T e)) = true
    · refine ⟨c, d, ?_⟩
      unfold tE
      rw [if_pos c, if_pos d]
    · rw [if_neg d] at h
      revert h
      split
      · split <;> omega
      · split <;> omega
  · rw [if_neg c] at h; omega
theorem tK_2 {b : Nat → Nat} {T e : Nat} (h : tK b T e = 2) : tS b T e < T ∧ isD (b (tS b T e)) = true ∧ tE b T e = rn isD b T (tS b T e) ∧ (rn isD b T (tS b T e) - tS b T e = 1 ∨ (rn isD b T (tS b T e) - tS b T e = 2 ∧ ¬ b (tS b T e) = 48)) := by
  unfold tK at h
  by_cases c : tS b T e < T
  · rw [if_pos c] at h
    by_cases d : isL (b (tS b T e)) = true
    · rw [if_pos d] at h; omega
    · rw [if_neg d] at h
      by_cases g : isD (b (tS b T e)) = true
      · rw [if_pos g] at h
        refine ⟨c, g, ?_, ?_⟩
        · unfold tE
          rw [if_pos c, if_neg d, if_pos g]
        · by_cases k : rn isD b T (tS b T e) - tS b T e = 1 ∨ (rn isD b T (tS b T e) - tS b T e = 2 ∧ ¬ b (tS b T e) = 48)
          · exact k
          · rw [if_neg k] at h; omega
      · rw [if_neg g] at h
        revert h
        split <;> omega
  · rw [if_neg c] at h; omega
theorem tV_lt {b : Nat → Nat} {T e : Nat} (he : e ≤ T) (h : tK b T e = 2) : tV b T e < 100 := by
  obtain ⟨h1, h2, h3, h4⟩ := tK_2 h
  have hS := tS_le (b := b) he
  have hd := isD_iff.mp h2
  unfold tV
  rcases h4 with h4 | ⟨h4, -⟩
  · rw [if_pos h4]; omega
  · rw [if_neg (by omega)]
    have h5 := rn_all (p := isD) (b := b) T (tS b T e) hS.2 (by omega) (tS b T e + 1) (by omega) (by omega)
    have := isD_iff.mp h5
    omega
/-! the class's text -/
def byX (x : Nat) : Int32 := if x < 128 then nI x else nM (256 - x)
theorem byX_all : ∀ x : Fin 256, (nI x.val).toInt8.toInt32 = byX x.val := by decide +kernel
def tb0 (r : Nat → Int32) : Nat → Nat := fun k => cn (r k)
theorem TX.by {s : S8} {T : Nat} {r : Nat → Int32} (h : TX s T r) {k : Nat} (hk : k < T) : r k = nI (tb0 r k) ∧ tb0 r k < 256 ∧ s8_bytes s k = byX (tb0 r k) := by
  obtain ⟨h1, h2⟩ := h.2.2 k hk
  obtain ⟨e1, e2⟩ := Lb_cn h1 (by omega)
  refine ⟨e1, e2, ?_⟩
  rw [h2, e1]
  exact byX_all ⟨_, e2⟩
theorem byX_lt {x lo : Nat} (hx : x < 256) (hl : lo < 128) : byX x < nI lo ↔ ¬ (lo ≤ x ∧ x < 128) := by
  unfold byX
  by_cases c : x < 128
  · rw [if_pos c, nI_ltI (by omega) (by omega)]; omega
  · rw [if_neg c, nM_lt (by omega) (by omega) (by omega)]
    simp; omega
theorem byX_le {x hi : Nat} (hx : x < 256) (hl : hi < 128) : byX x ≤ nI hi ↔ ¬ (hi < x ∧ x < 128) := by
  unfold byX
  by_cases c : x < 128
  · rw [if_pos c, nI_leI (by omega) (by omega)]; omega
  · rw [if_neg c, nM_le (by omega) (by omega)]
    simp; omega
theorem byX_eq {x c : Nat} (hx : x < 256) (hc : c < 128) : byX x = nI c ↔ x = c := by
  unfold byX
  by_cases d : x < 128
  · rw [if_pos d, nI_eq (by omega) (by omega)]
  · rw [if_neg d, nM_ne (by omega) (by omega) (by omega)]
    constructor
    · intro h; exact h.elim
    · intro h; omega
theorem behind_t {s : S8} {T e lo hi : Nat} {r : Nat → Int32} {p : Nat → Bool} (h : TX s T r) (he : e ≤ T) (hlo : lo < 128) (hhi : hi < 128) (hp : ∀ x, p x = true ↔ lo ≤ x ∧ x ≤ hi) : F_X8_behind s (nI e) (nI lo) (nI hi) = some (nI (rn p (tb0 r) T e)) := by
  have h500 := h.1
  unfold F_X8_behind
  rw [nm_at]
  have key : ∀ n f e, T - e ≤ n → e ≤ T → n < f → F_X8_behind_b3 s (nI e) (nI lo) (nI hi) f (nI e) = some (nI (rn p (tb0 r) T e)) → True := fun _ _ _ _ _ _ _ => trivial
  have main : ∀ x1 f e, e ≤ T → T - e < f → F_X8_behind_b3 s x1 (nI lo) (nI hi) f (nI e) = some (nI (rn p (tb0 r) T e)) := by
    intro x1 f
    induction f with
    | zero => intro e _ h; omega
    | succ f ih =>
      intro e he hf
      rw [F_X8_behind_b3, h.2.1]
      by_cases c : e < T
      · obtain ⟨-, b2, b3⟩ := h.by c
        rw [if_neg (nI_ge c (by omega)), if_neg (nI_pos (by omega)), if_neg (show ¬ (500 : Int32) ≤ nI e from nI_ge (b := 500) (by omega) (by omega)), agN (by omega) (by omega), Option.bind_some, b3]
        by_cases d : p (tb0 r e) = true
        · have dp := (hp _).mp d
          rw [if_neg (by rw [byX_lt b2 hlo]; omega), Option.bind_some, if_pos (by rw [byX_le b2 hhi]; omega), nm_at, nI_1, ih (e + 1) (by omega) (by omega), rn_step c d]
        · have dp : ¬ (lo ≤ tb0 r e ∧ tb0 r e ≤ hi) := fun z => d ((hp _).mpr z)
          rw [rn_stop (fun z => d z.2)]
          by_cases g : byX (tb0 r e) < nI lo
          · rw [if_pos g]
          · rw [if_neg g, Option.bind_some, if_neg]
            rw [byX_lt b2 hlo] at g
            rw [byX_le b2 hhi]
            omega
      · rw [if_pos (nI_le (by omega) (by omega)), rn_stop (fun z => c z.1), show e = T from by omega]
  exact main _ fu e he (by unfold fu; omega)
theorem byteAt_t {s : S8} {T e : Nat} {r : Nat → Int32} (h : TX s T r) (he : e < 1000) : F_X8_byteAt s (nI e) = some (if e < T then byX (tb0 r e) else nM 1) := by
  have h500 := h.1
  unfold F_X8_byteAt
  rw [if_neg (nI_pos (by omega)), h.2.1]
  by_cases c : e < T
  · rw [if_neg (nI_ge c (by omega)), if_neg (show ¬ (500 : Int32) ≤ nI e from nI_ge (b := 500) (by omega) (by omega)), agN (by omega) (by omega), Option.bind_some, if_pos c, (h.by c).2.2]
  · rw [if_pos (nI_le (by omega) (by omega)), if_neg c]; rfl
/-- the text stands at the token from a on -/
def TC (s : S8) (T : Nat) (r : Nat → Int32) (a : Nat) : Prop := TX s T r ∧ s8_start s = nI (tS (tb0 r) T a) ∧ s8_end s = nI (tE (tb0 r) T a) ∧ s8_sort s = nI (tK (tb0 r) T a)
theorem advance_t {s : S8} {T a : Nat} {r : Nat → Int32} (h : TX s T r) (ha : a ≤ T) (he : s8_end s = nI a) : ∃ s', F_X8_advance s = some s' ∧ TC s' T r a := by
  have h500 := h.1
  have hS := tS_le (b := tb0 r) ha
  unfold F_X8_advance
  rw [he, show F_X8_behind s (nI a) 32 32 = _ from behind_t (lo := 32) (hi := 32) h ha (by omega) (by omega) (p := isB) (fun x => isB_iff), Option.bind_some]
  rw [show rn isB (tb0 r) T a = tS (tb0 r) T a from rfl]
  simp only [nm_at]
  have hx1 : TX (u8_start s (nI (tS (tb0 r) T a))) T r := h
  rw [show s8_start (u8_start s (nI (tS (tb0 r) T a))) = nI (tS (tb0 r) T a) from rfl, byteAt_t hx1 (by omega), Option.bind_some, show s8_length (u8_start s (nI (tS (tb0 r) T a))) = nI T from h.2.1]
  unfold TC tE tK
  generalize hs : tS (tb0 r) T a = S at *
  by_cases c : S < T
  · obtain ⟨-, b2, -⟩ := h.by c
    rw [if_pos (nI_lt c (by omega)), if_pos c, if_pos c, if_pos c]
    by_cases d : isL (tb0 r S) = true
    · have dp := isL_iff.mp d
      rw [if_neg (show ¬ byX (tb0 r S) < 97 from by rw [show (97 : Int32) = nI 97 from rfl, byX_lt b2 (by omega)]; omega), if_neg (show ¬ (122 : Int32) < byX (tb0 r S) from by rw [show (122 : Int32) = nI 122 from rfl]; have := byX_le b2 (hi := 122) (by omega); rw [i_le] at this; rw [i_lt]; omega)]
      rw [show F_X8_behind (u8_sort (u8_start s (nI S)) 1) (s8_start (u8_sort (u8_start s (nI S)) 1)) 97 122 = _ from behind_t (s := u8_sort (u8_start s (nI S)) 1) (lo := 97) (hi := 122) h hS.2 (by omega) (by omega) (p := isL) (fun x => isL_iff), Option.bind_some, if_pos d, if_pos d]
      exact ⟨_, rfl, h, rfl, rfl, rfl⟩
    · have dp : ¬ (97 ≤ tb0 r S ∧ tb0 r S ≤ 122) := fun z => d (isL_iff.mpr z)
      rw [if_neg d, if_neg d]
      have rest : ∃ s', F_X8_advance_b88 (byX (tb0 r S)) (u8_start s (nI S)) = some s' ∧ TX s' T r ∧ s8_start s' = nI S ∧ (s8_end s' = nI (if isD (tb0 r S) = true then rn isD (tb0 r) T S else S + 1)) ∧ s8_sort s' = nI (if isD (tb0 r S) = true then (if rn isD (tb0 r) T S - S = 1 ∨ (rn isD (tb0 r) T S - S = 2 ∧ ¬ tb0 r S = 48) then 2 else 4) else if tb0 r S = 59 then 3 else 4) := by
        unfold F_X8_advance_b88
        by_cases g : isD (tb0 r S) = true
        · have gp := isD_iff.mp g
          have hE := rn_le (p := isD) (b := tb0 r) T S hS.2 (by omega)
          rw [if_neg (show ¬ byX (tb0 r S) < 48 from by rw [show (48 : Int32) = nI 48 from rfl, byX_lt b2 (by omega)]; omega), if_neg (show ¬ (57 : Int32) < byX (tb0 r S) from by rw [show (57 : Int32) = nI 57 from rfl]; have := byX_le b2 (hi := 57) (by omega); rw [i_le] at this; rw [i_lt]; omega)]
          rw [show F_X8_behind (u8_start s (nI S)) (s8_start (u8_start s (nI S))) 48 57 = _ from behind_t (s := u8_start s (nI S)) (lo := 48) (hi := 57) h hS.2 (by omega) (by omega) (p := isD) (fun x => isD_iff), Option.bind_some, nm_at, if_pos g, if_pos g]
          rw [show s8_end (u8_end (u8_start s (nI S)) (nI (rn isD (tb0 r) T S))) - s8_start (u8_end (u8_start s (nI S)) (nI (rn isD (tb0 r) T S))) = nI (rn isD (tb0 r) T S - S) from nI_sub hE.1]
          unfold F_X8_advance_b149 F_X8_advance_b153 F_X8_advance_b154
          simp only [nm_at]
          have h48 : byX (tb0 r S) = 48 ↔ tb0 r S = 48 := byX_eq b2 (c := 48) (by omega)
          have hm9 : rn isD (tb0 r) T S - S < 1000 := by omega
          generalize rn isD (tb0 r) T S - S = m at *
          by_cases k1 : m = 1
          · rw [if_pos (by rw [k1]; rfl), if_pos (Or.inl k1)]
            exact ⟨_, rfl, h, rfl, rfl, rfl⟩
          · rw [if_neg (show ¬ nI m = 1 from by rw [show (1 : Int32) = nI 1 from rfl, nI_eq (by omega) (by omega)]; exact k1)]
            by_cases k2 : m = 2
            · rw [if_pos (by rw [k2]; rfl)]
              by_cases k3 : tb0 r S = 48
              · rw [if_pos (h48.mpr k3), if_neg (by omega)]
                exact ⟨_, rfl, h, rfl, rfl, rfl⟩
              · rw [if_neg (fun z => k3 (h48.mp z)), if_pos (Or.inr ⟨k2, k3⟩)]
                exact ⟨_, rfl, h, rfl, rfl, rfl⟩
            · rw [if_neg (show ¬ nI m = 2 from by rw [show (2 : Int32) = nI 2 from rfl, nI_eq (by omega) (by omega)]; exact k2), if_neg (by omega)]
              exact ⟨_, rfl, h, rfl, rfl, rfl⟩
        · have gp : ¬ (48 ≤ tb0 r S ∧ tb0 r S ≤ 57) := fun z => g (isD_iff.mpr z)
          rw [if_neg g, if_neg g]
          have b160 : ∃ s', F_X8_advance_b160 (byX (tb0 r S)) (u8_start s (nI S)) = some s' ∧ TX s' T r ∧ s8_start s' = nI S ∧ s8_end s' = nI (S + 1) ∧ s8_sort s' = nI (if tb0 r S = 59 then 3 else 4) := by
            unfold F_X8_advance_b160 F_X8_advance_b172
            simp only [nm_at]
            have h59 : byX (tb0 r S) = 59 ↔ tb0 r S = 59 := byX_eq b2 (c := 59) (by omega)
            by_cases k : tb0 r S = 59
            · rw [if_pos (h59.mpr k), if_pos k]
              exact ⟨_, rfl, h, rfl, (nI_1 S), rfl⟩
            · rw [if_neg (fun z => k (h59.mp z)), if_neg k]
              exact ⟨_, rfl, h, rfl, (nI_1 S), rfl⟩
          by_cases k : byX (tb0 r S) < 48
          · rw [if_pos k]; exact b160
          · rw [if_neg k]
            by_cases k2 : (57 : Int32) < byX (tb0 r S)
            · rw [if_pos k2]; exact b160
            · exfalso
              rw [show (48 : Int32) = nI 48 from rfl, byX_lt b2 (by omega)] at k
              have := byX_le b2 (hi := 57) (by omega)
              rw [show (57 : Int32) = nI 57 from rfl, i_lt] at k2
              rw [i_le] at this
              omega
      by_cases k : byX (tb0 r S) < 97
      · rw [if_pos k]; exact rest
      · rw [if_neg k]
        by_cases k2 : (122 : Int32) < byX (tb0 r S)
        · rw [if_pos k2]; exact rest
        · exfalso
          rw [show (97 : Int32) = nI 97 from rfl, byX_lt b2 (by omega)] at k
          have := byX_le b2 (hi := 122) (by omega)
          rw [show (122 : Int32) = nI 122 from rfl, i_lt] at k2
          rw [i_le] at this
          omega
  · rw [if_neg (nI_nlt (by omega) (by omega)), if_neg c, if_neg c]
    exact ⟨_, rfl, h, rfl, rfl, rfl⟩

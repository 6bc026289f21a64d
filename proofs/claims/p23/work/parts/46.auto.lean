/-! ===== what answers, and how: An ===== -/
def An {A : Type} (o : Option A) (Q : A → Prop) : Prop := ∃ a, o = some a ∧ Q a
theorem nm_at {A B : Type} (x : A) (k : A → B) : nm x k = k x := congrFun (congrFun (show @nm A B = fun x k => k x from rfl) x) k
theorem An_some {A : Type} {a : A} {Q : A → Prop} (h : Q a) : An (some a) Q := ⟨a, rfl, h⟩
theorem An_eq {A : Type} {o : Option A} {a : A} {Q : A → Prop} (h : o = some a) (h2 : Q a) : An o Q := ⟨a, h, h2⟩
theorem An_bind {A B : Type} {o : Option A} {k : A → Option B} {P : A → Prop} {Q : B → Prop} (h : An o P) (h2 : ∀ a, P a → An (k a) Q) : An (o.bind k) Q := by
  obtain ⟨a, h3, h4⟩ := h
  rw [h3]
  exact h2 a h4
theorem An_bindE {A B : Type} {o : Option A} {k : A → Option B} {a : A} {Q : B → Prop} (h : o = some a) (h2 : An (k a) Q) : An (o.bind k) Q := by
  rw [h]
  exact h2
theorem An_map {A B : Type} {o : Option A} {k : A → B} {P : A → Prop} {Q : B → Prop} (h : An o P) (h2 : ∀ a, P a → Q (k a)) : An (o.map k) Q := by
  obtain ⟨a, h3, h4⟩ := h
  rw [h3]
  exact ⟨k a, rfl, h2 a h4⟩
theorem An_mono {A : Type} {o : Option A} {P Q : A → Prop} (h : An o P) (h2 : ∀ a, P a → Q a) : An o Q := by
  obtain ⟨a, h3, h4⟩ := h
  exact ⟨a, h3, h2 a h4⟩
theorem An_if {A : Type} {c : Prop} [Decidable c] {x y : Option A} {Q : A → Prop} (ht : c → An x Q) (he : ¬ c → An y Q) : An (if c then x else y) Q := by
  by_cases h : c
  · rw [if_pos h]; exact ht h
  · rw [if_neg h]; exact he h
/-- loops that count up; those that count down to -1 -/
theorem lp_up {B R : Type} (G : Nat → Int32 → B → Option R) (N : Nat) (I : Nat → B → Prop) (Q : R → Prop)
    (step : ∀ n m s, m < N → I m s → (∀ s', I (m + 1) s' → An (G n (nI (m + 1)) s') Q) → An (G (n + 1) (nI m) s) Q)
    (done : ∀ n s, I N s → An (G (n + 1) (nI N) s) Q) : ∀ n m s, m ≤ N → N - m < n → I m s → An (G n (nI m) s) Q := by
  intro n
  induction n with
  | zero => intro m s _ h; omega
  | succ n ih =>
    intro m s hm hn hI
    by_cases h : m = N
    · subst h; exact done n s hI
    · exact step n m s (by omega) hI fun s' hs' => ih (m + 1) s' (by omega) (by omega) hs'
theorem lp_up2 {B R : Type} (G : Nat → Nat → B → Option R) (N : Nat) (I : Nat → B → Prop) (Q : R → Prop)
    (step : ∀ n m s, m < N → I m s → (∀ s', I (m + 1) s' → An (G n (m + 1) s') Q) → An (G (n + 1) m s) Q)
    (done : ∀ n s, I N s → An (G (n + 1) N s) Q) : ∀ n m s, m ≤ N → N - m < n → I m s → An (G n m s) Q := by
  intro n
  induction n with
  | zero => intro m s _ h; omega
  | succ n ih =>
    intro m s hm hn hI
    by_cases h : m = N
    · subst h; exact done n s hI
    · exact step n m s (by omega) hI fun s' hs' => ih (m + 1) s' (by omega) (by omega) hs'
/-- here m stands for the counter's value and one more, so that 0 is -1 -/
theorem lp_dn {B R : Type} (G : Nat → Int32 → B → Option R) (I : Nat → B → Prop) (Q : R → Prop)
    (step : ∀ n m s, I (m + 1) s → (∀ s', I m s' → An (G n (nI m - 1) s') Q) → An (G (n + 1) (nI m) s) Q)
    (done : ∀ n s, I 0 s → An (G (n + 1) (nI 0 - 1) s) Q) : ∀ n m s, m < n → I m s → An (G n (nI m - 1) s) Q := by
  intro n
  induction n with
  | zero => intro m s h; omega
  | succ n ih =>
    intro m s hn hI
    cases m with
    | zero => exact done n s hI
    | succ m =>
      rw [nI_pred]
      exact step n m s hI fun s' hs' => ih m s' (by omega) hs'
/-! ===== numbers below 0 ===== -/
def nM (n : Nat) : Int32 := -nI n
theorem nM_toInt {n : Nat} (h : n < 2 ^ 31) : (nM n).toInt = -(n : Int) := by
  unfold nM
  rw [Int32.toInt_neg, nI_toInt h]
  have : Int.bmod (-(n : Int)) (2 ^ 32) = -(n : Int) := by
    rw [Int.bmod_eq_of_le] <;> omega
  exact this
theorem k_m1 : (-1 : Int32) = nM 1 := by decide
theorem k_m2 : (-2 : Int32) = nM 2 := by decide
theorem k_m3 : (-3 : Int32) = nM 3 := by decide
theorem k_m5 : (-5 : Int32) = nM 5 := by decide
theorem k_m9 : (-9 : Int32) = nM 9 := by decide
theorem k_m10 : (-10 : Int32) = nM 10 := by decide
theorem k_mno : (-1000000 : Int32) = nM 1000000 := by decide
theorem i_lt {a b : Int32} : a < b ↔ a.toInt < b.toInt := Int32.lt_iff_toInt_lt
theorem i_le {a b : Int32} : a ≤ b ↔ a.toInt ≤ b.toInt := Int32.le_iff_toInt_le
theorem nM_lt {a b : Nat} (h : 0 < a) (ha : a < 2 ^ 31) (hb : b < 2 ^ 31) : (nM a < nI b) = True := by
  exact eq_true (by rw [i_lt, nM_toInt ha, nI_toInt hb]; omega)
theorem nM_le {a b : Nat} (ha : a < 2 ^ 31) (hb : b < 2 ^ 31) : (nM a ≤ nI b) = True := by
  exact eq_true (by rw [i_le, nM_toInt ha, nI_toInt hb]; omega)
theorem nM_nlt {a b : Nat} (ha : a < 2 ^ 31) (hb : b < 2 ^ 31) : (nI b < nM a) = False := by
  exact eq_false (by rw [i_lt, nM_toInt ha, nI_toInt hb]; omega)
theorem nM_nle {a b : Nat} (h : 0 < a) (ha : a < 2 ^ 31) (hb : b < 2 ^ 31) : (nI b ≤ nM a) = False := by
  exact eq_false (by rw [i_le, nM_toInt ha, nI_toInt hb]; omega)
theorem nM_ne {a b : Nat} (h : 0 < a) (ha : a < 2 ^ 31) (hb : b < 2 ^ 31) : (nM a = nI b) = False := by
  refine eq_false fun e => ?_
  have e2 := congrArg Int32.toInt e
  rw [nM_toInt ha, nI_toInt hb] at e2
  omega
theorem nM_ne' {a b : Nat} (h : 0 < a) (ha : a < 2 ^ 31) (hb : b < 2 ^ 31) : (nI b = nM a) = False := by
  refine eq_false fun e => ?_
  have e2 := congrArg Int32.toInt e
  rw [nM_toInt ha, nI_toInt hb] at e2
  omega
theorem nM_eq {a b : Nat} (ha : a < 2 ^ 31) (hb : b < 2 ^ 31) : (nM a = nM b) = (a = b) := by
  refine propext ⟨fun e => ?_, fun e => by rw [e]⟩
  have e2 := congrArg Int32.toInt e
  rw [nM_toInt ha, nM_toInt hb] at e2
  omega
theorem nI_mul (a b : Nat) : nI a * nI b = nI (a * b) := by
  unfold nI; exact (Int32.ofNat_mul a b).symm
theorem nI_sub {a b : Nat} (h : b ≤ a) : nI a - nI b = nI (a - b) := by
  unfold nI; exact (Int32.ofNat_sub a b h).symm
theorem nI_sub0 : nI 0 - nI 1 = nM 1 := by decide
theorem k_0 : (0 : Int32) = nI 0 := by decide
theorem k_1 : (1 : Int32) = nI 1 := by decide
theorem k_2 : (2 : Int32) = nI 2 := by decide
theorem k_3 : (3 : Int32) = nI 3 := by decide
theorem k_4 : (4 : Int32) = nI 4 := by decide
theorem k_5 : (5 : Int32) = nI 5 := by decide
theorem k_6 : (6 : Int32) = nI 6 := by decide
theorem k_7 : (7 : Int32) = nI 7 := by decide
theorem k_8 : (8 : Int32) = nI 8 := by decide
theorem k_9 : (9 : Int32) = nI 9 := by decide
theorem k_10 : (10 : Int32) = nI 10 := by decide
theorem k_11 : (11 : Int32) = nI 11 := by decide
theorem k_12 : (12 : Int32) = nI 12 := by decide
theorem k_13 : (13 : Int32) = nI 13 := by decide
theorem k_14 : (14 : Int32) = nI 14 := by decide
theorem k_15 : (15 : Int32) = nI 15 := by decide
theorem k_16 : (16 : Int32) = nI 16 := by decide
theorem k_17 : (17 : Int32) = nI 17 := by decide
theorem k_18 : (18 : Int32) = nI 18 := by decide
theorem k_19 : (19 : Int32) = nI 19 := by decide
theorem k_20 : (20 : Int32) = nI 20 := by decide
theorem k_21 : (21 : Int32) = nI 21 := by decide
theorem k_22 : (22 : Int32) = nI 22 := by decide
theorem k_23 : (23 : Int32) = nI 23 := by decide
theorem k_24 : (24 : Int32) = nI 24 := by decide
theorem k_25 : (25 : Int32) = nI 25 := by decide
theorem k_26 : (26 : Int32) = nI 26 := by decide
theorem k_27 : (27 : Int32) = nI 27 := by decide
theorem k_28 : (28 : Int32) = nI 28 := by decide
theorem k_29 : (29 : Int32) = nI 29 := by decide
theorem k_30 : (30 : Int32) = nI 30 := by decide
theorem k_31 : (31 : Int32) = nI 31 := by decide
theorem k_32 : (32 : Int32) = nI 32 := by decide
theorem k_36 : (36 : Int32) = nI 36 := by decide
theorem k_48 : (48 : Int32) = nI 48 := by decide
theorem k_50 : (50 : Int32) = nI 50 := by decide
theorem k_57 : (57 : Int32) = nI 57 := by decide
theorem k_58 : (58 : Int32) = nI 58 := by decide
theorem k_59 : (59 : Int32) = nI 59 := by decide
theorem k_64 : (64 : Int32) = nI 64 := by decide
theorem k_97 : (97 : Int32) = nI 97 := by decide
theorem k_99 : (99 : Int32) = nI 99 := by decide
theorem k_100 : (100 : Int32) = nI 100 := by decide
theorem k_101 : (101 : Int32) = nI 101 := by decide
theorem k_102 : (102 : Int32) = nI 102 := by decide
theorem k_104 : (104 : Int32) = nI 104 := by decide
theorem k_105 : (105 : Int32) = nI 105 := by decide
theorem k_107 : (107 : Int32) = nI 107 := by decide
theorem k_108 : (108 : Int32) = nI 108 := by decide
theorem k_109 : (109 : Int32) = nI 109 := by decide
theorem k_110 : (110 : Int32) = nI 110 := by decide
theorem k_111 : (111 : Int32) = nI 111 := by decide
theorem k_114 : (114 : Int32) = nI 114 := by decide
theorem k_115 : (115 : Int32) = nI 115 := by decide
theorem k_116 : (116 : Int32) = nI 116 := by decide
theorem k_119 : (119 : Int32) = nI 119 := by decide
theorem k_122 : (122 : Int32) = nI 122 := by decide
theorem k_128 : (128 : Int32) = nI 128 := by decide
theorem k_255 : (255 : Int32) = nI 255 := by decide
theorem k_500 : (500 : Int32) = nI 500 := by decide
theorem k_1000 : (1000 : Int32) = nI 1000 := by decide
theorem k_1023 : (1023 : Int32) = nI 1023 := by decide
theorem k_10000 : (10000 : Int32) = nI 10000 := by decide
theorem k_100000 : (100000 : Int32) = nI 100000 := by decide
/-! ===== the reference's state ===== -/
theorem q_ii (s : SM) (k : Nat) (x : Int32) (j : Nat) : mI (mIs s k x) j = if j = k then x else mI s j := rfl
theorem q_ia (s : SM) (k : Nat) (f : Nat → Int32) (j : Nat) : mI (mAs s k f) j = mI s j := rfl
theorem q_ij (s : SM) (k : Nat) (f : Nat → Int64) (j : Nat) : mI (mJs s k f) j = mI s j := rfl
theorem q_it (s : SM) (x : Int64) (j : Nat) : mI (mTs s x) j = mI s j := rfl
theorem q_aa (s : SM) (k : Nat) (f : Nat → Int32) (j : Nat) : mA (mAs s k f) j = if j = k then f else mA s j := rfl
theorem q_ai (s : SM) (k : Nat) (x : Int32) (j : Nat) : mA (mIs s k x) j = mA s j := rfl
theorem q_aj (s : SM) (k : Nat) (f : Nat → Int64) (j : Nat) : mA (mJs s k f) j = mA s j := rfl
theorem q_at (s : SM) (x : Int64) (j : Nat) : mA (mTs s x) j = mA s j := rfl
theorem q_jj (s : SM) (k : Nat) (f : Nat → Int64) (j : Nat) : mJ (mJs s k f) j = if j = k then f else mJ s j := rfl
theorem q_ji (s : SM) (k : Nat) (x : Int32) (j : Nat) : mJ (mIs s k x) j = mJ s j := rfl
theorem q_ja (s : SM) (k : Nat) (f : Nat → Int32) (j : Nat) : mJ (mAs s k f) j = mJ s j := rfl
theorem q_jt (s : SM) (x : Int64) (j : Nat) : mJ (mTs s x) j = mJ s j := rfl
theorem q_tt (s : SM) (x : Int64) : mT (mTs s x) = x := rfl
theorem q_ti (s : SM) (k : Nat) (x : Int32) : mT (mIs s k x) = mT s := rfl
theorem q_ta (s : SM) (k : Nat) (f : Nat → Int32) : mT (mAs s k f) = mT s := rfl
theorem q_tj (s : SM) (k : Nat) (f : Nat → Int64) : mT (mJs s k f) = mT s := rfl
theorem u_at (f : Nat → Int32) (k : Nat) (x : Int32) (j : Nat) : upd f k x j = if j = k then x else f j := rfl
theorem uL_at (f : Nat → Int64) (k : Nat) (x : Int64) (j : Nat) : vp_updL f k x j = if j = k then x else f j := rfl
/-- s' is s but for some fields and rows -/
def Fr (I A J : List Nat) (s s' : SM) : Prop := (∀ k, k ∉ I → mI s' k = mI s k) ∧ (∀ k, k ∉ A → mA s' k = mA s k) ∧ (∀ k, k ∉ J → mJ s' k = mJ s k) ∧ mT s' = mT s
theorem Fr.rf {I A J : List Nat} (s : SM) : Fr I A J s s := ⟨fun _ _ => rfl, fun _ _ => rfl, fun _ _ => rfl, rfl⟩
theorem Fr.tr {I A J : List Nat} {a b c : SM} (h : Fr I A J a b) (h2 : Fr I A J b c) : Fr I A J a c :=
  ⟨fun k hk => (h2.1 k hk).trans (h.1 k hk), fun k hk => (h2.2.1 k hk).trans (h.2.1 k hk), fun k hk => (h2.2.2.1 k hk).trans (h.2.2.1 k hk), h2.2.2.2.trans h.2.2.2⟩
theorem Fr.wd {I A J I2 A2 J2 : List Nat} {a b : SM} (h : Fr I A J a b) (hI : ∀ k ∈ I, k ∈ I2) (hA : ∀ k ∈ A, k ∈ A2) (hJ : ∀ k ∈ J, k ∈ J2) : Fr I2 A2 J2 a b :=
  ⟨fun k hk => h.1 k (fun x => hk (hI k x)), fun k hk => h.2.1 k (fun x => hk (hA k x)), fun k hk => h.2.2.1 k (fun x => hk (hJ k x)), h.2.2.2⟩
theorem Fr.i {I A J : List Nat} {s s' : SM} (h : Fr I A J s s') (k : Nat) (x : Int32) (hk : k ∈ I) : Fr I A J s (mIs s' k x) :=
  ⟨fun j hj => (show (if j = k then x else mI s' j) = _ by rw [if_neg (fun e : j = k => hj (by rw [e]; exact hk))]; exact h.1 j hj), h.2.1, h.2.2.1, h.2.2.2⟩
theorem Fr.a {I A J : List Nat} {s s' : SM} (h : Fr I A J s s') (k : Nat) (x : Nat → Int32) (hk : k ∈ A) : Fr I A J s (mAs s' k x) :=
  ⟨h.1, fun j hj => (show (if j = k then x else mA s' j) = _ by rw [if_neg (fun e : j = k => hj (by rw [e]; exact hk))]; exact h.2.1 j hj), h.2.2.1, h.2.2.2⟩
theorem Fr.j {I A J : List Nat} {s s' : SM} (h : Fr I A J s s') (k : Nat) (x : Nat → Int64) (hk : k ∈ J) : Fr I A J s (mJs s' k x) :=
  ⟨h.1, h.2.1, fun j hj => (show (if j = k then x else mJ s' j) = _ by rw [if_neg (fun e : j = k => hj (by rw [e]; exact hk))]; exact h.2.2.1 j hj), h.2.2.2⟩
/-! ===== bits ===== -/
def tb (x : Int32) (j : Nat) : Bool := x.toBitVec.getLsbD j
theorem tb_ext {x y : Int32} (h : ∀ j, j < 32 → tb x j = tb y j) : x = y := by
  apply Int32.toBitVec_inj.mp
  apply BitVec.eq_of_getLsbD_eq
  intro j hj
  exact h j hj
theorem tb_or (x y : Int32) (j : Nat) : tb (x ||| y) j = (tb x j || tb y j) := by
  unfold tb; rw [Int32.toBitVec_or, BitVec.getLsbD_or]
theorem tb_and (x y : Int32) (j : Nat) : tb (x &&& y) j = (tb x j && tb y j) := by
  unfold tb; rw [Int32.toBitVec_and, BitVec.getLsbD_and]
theorem tb_0 (j : Nat) : tb 0 j = false := by
  unfold tb; simp
theorem tb_nI {k : Nat} (hk : k < 32) : ∀ j, j < 32 → tb (1 <<< (nI k &&& 31)) j = decide (j = k) := by
  have h : ∀ k : Fin 32, ∀ j : Fin 32, tb (1 <<< (nI k.val &&& 31)) j.val = decide (j.val = k.val) := by decide +kernel
  intro j hj
  exact h ⟨k, hk⟩ ⟨j, hj⟩
theorem and31 {k : Nat} (hk : k < 32) : nI k &&& 31 = nI k := by
  have h : ∀ k : Fin 32, nI k.val &&& 31 = nI k.val := by decide +kernel
  exact h ⟨k, hk⟩
theorem tb_sh (x : Int32) {k : Nat} (hk : k < 32) : (x >>> (nI k &&& 31)) &&& 1 = if tb x k then 1 else 0 := by
  rw [and31 hk]
  apply Int32.toBitVec_inj.mp
  apply BitVec.eq_of_getLsbD_eq
  intro j hj
  rw [Int32.toBitVec_and, BitVec.getLsbD_and, Int32.toBitVec_shiftRight]
  have e1 : ((nI k).toBitVec.smod 32).toNat = k := by
    have h : ∀ k : Fin 32, ((nI k.val).toBitVec.smod 32).toNat = k.val := by decide +kernel
    exact h ⟨k, hk⟩
  rw [BitVec.sshiftRight_eq', e1, BitVec.getLsbD_sshiftRight]
  by_cases h0 : j = 0
  · subst h0
    cases hx : tb x k
    · unfold tb at hx
      simp [hx, hk]
      exact hx
    · unfold tb at hx
      simp [hx, hk]
  · have h1 : (1 : Int32).toBitVec.getLsbD j = false := by
      have h : ∀ j : Fin 32, j.val ≠ 0 → (1 : Int32).toBitVec.getLsbD j.val = false := by decide +kernel
      exact h ⟨j, hj⟩ h0
    rw [h1, Bool.and_false]
    cases hx : tb x k
    · have h : ∀ j : Fin 32, (0 : Int32).toBitVec.getLsbD j.val = false := by decide +kernel
      exact (h ⟨j, hj⟩).symm
    · exact h1.symm
theorem tb_sh0 (x : Int32) {k : Nat} (hk : k < 32) : ((x >>> (nI k &&& 31)) &&& 1 = 0) = (tb x k = false) := by
  rw [tb_sh x hk]
  cases tb x k
  · exact eq_true (by decide) |>.trans (eq_true rfl).symm
  · exact (eq_false (by decide)).trans (eq_false (by decide)).symm
theorem tb_sh1 (x : Int32) {k : Nat} (hk : k < 32) : ((x >>> (nI k &&& 31)) &&& 1 = 1) = (tb x k = true) := by
  rw [tb_sh x hk]
  cases tb x k
  · exact (eq_false (by decide)).trans (eq_false (by decide)).symm
  · exact eq_true (by decide) |>.trans (eq_true rfl).symm
theorem tb_ones {n : Nat} (hn : n < 31) : ∀ j, j < 32 → tb ((1 <<< (nI n &&& 31)) - 1) j = decide (j < n) := by
  have h : ∀ n : Fin 31, ∀ j : Fin 32, tb ((1 <<< (nI n.val &&& 31)) - 1) j.val = decide (j.val < n.val) := by decide +kernel
  intro j hj
  exact h ⟨n, hn⟩ ⟨j, hj⟩

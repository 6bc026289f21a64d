/-! ===== the reference's tokens; keywords ===== -/
theorem letM_lp {m : SM} {T S : Nat} {r : Nat → Int32} (h : MT m T r) (hS : S ≤ T) : ∀ f e m', Fr kI [] [] m m' → T - e < f → e ≤ T → S ≤ e → rn isL (tb0 r) T e = rn isL (tb0 r) T S → mI m' 4 = nI e → mI m' 6 = nI S → An (F_X12_advances_b66 f m') (fun q => Fr kI [] [] m q ∧ mI q 4 = nI (rn isL (tb0 r) T S) ∧ mI q 6 = nI S ∧ mI q 5 = nI 1) := by
  have h500 := h.1
  intro f
  induction f with
  | zero => intro e m' _ h; omega
  | succ f ih =>
    intro e m' hf hT he hSe hr h4 h6
    have hM := h.f hf
    have e1 := inb_t (p := isL) hM (e := e) (by omega) (lo := 97) (hi := 122) (by omega) (by omega) (fun x => isL_iff)
    rw [F_X12_advances_b66, h4]
    cases hb : F_X12_byteAt m' (nI e) with
    | none => rw [hb] at e1; cases e1
    | some q0 =>
      rw [hb, Option.bind_some] at e1
      rw [Option.bind_some, show F_X12_in q0 97 122 = _ from e1, Option.bind_some]
      by_cases c : e < T ∧ isL (tb0 r e) = true
      · rw [if_pos c, if_neg (by decide), nm_at]
        refine ih (e + 1) _ (hf.i 4 _ (by decide)) (by omega) (by omega) (by omega) ?_ ?_ ?_
        · rw [← hr, rn_step c.1 c.2]
        · rw [q_ii, if_pos rfl, nI_1]
        · rw [q_ii, if_neg (by omega)]; exact h6
      · rw [if_neg c, if_pos rfl, nm_at]
        rw [rn_stop c] at hr
        refine An_some ⟨hf.i 5 _ (by decide), ?_, ?_, ?_⟩
        · rw [q_ii, if_neg (by omega), h4, hr]
        · rw [q_ii, if_neg (by omega)]; exact h6
        · rw [q_ii, if_pos rfl]; rfl
theorem advM_lp {m : SM} {T a : Nat} {r : Nat → Int32} (h : MT m T r) (ha : a ≤ T) : ∀ f e m', Fr kI [] [] m m' → T - e < f → e ≤ T → rn isB (tb0 r) T e = tS (tb0 r) T a → mI m' 4 = nI e → An (F_X12_advances_b0 f m') (fun q => Fr kI [] [] m q ∧ RC q T r a) := by
  have h500 := h.1
  intro f
  induction f with
  | zero => intro e m' _ h; omega
  | succ f ih =>
    intro e m' hf hT he hr h4
    have hM := h.f hf
    rw [F_X12_advances_b0, h4, byteM_t hM (by omega), Option.bind_some]
    have h32 : (if e < T then nI (tb0 r e) else nM 1) = 32 ↔ e < T ∧ isB (tb0 r e) = true := by
      by_cases c : e < T
      · have := (h.2.2.2 e c).2
        rw [if_pos c, show (32 : Int32) = nI 32 from rfl, nI_eq (by omega) (by omega), isB_iff]
        omega
      · rw [if_neg c, show (32 : Int32) = nI 32 from rfl, nM_ne (by omega) (by omega) (by omega)]
        simp [c]
    by_cases c : e < T ∧ isB (tb0 r e) = true
    · rw [if_pos (h32.mpr c), nm_at]
      refine ih (e + 1) _ (hf.i 4 _ (by decide)) (by omega) (by omega) ?_ ?_
      · rw [← hr, rn_step c.1 c.2]
      · rw [q_ii, if_pos rfl, nI_1]
    · rw [if_neg (fun z => c (h32.mp z))]
      rw [rn_stop c] at hr
      have hM2 : MT (mIs m' 6 (nI e)) T r := hM.fr rfl rfl
      have hf2 : Fr kI [] [] m (mIs m' 6 (nI e)) := hf.i 6 _ (by decide)
      rw [nm_at, q_ii, if_neg (by omega), h4, byteM_t hM2 (by omega), Option.bind_some, nm_at]
      unfold RC tE tK
      rw [← hr]
      by_cases d : e < T
      · have b2 := (h.2.2.2 e d).2
        rw [if_pos d, if_pos d, if_pos d, if_pos (nI_pos' (by omega))]
        have eL := inb_t (p := isL) hM2 (e := e) (by omega) (lo := 97) (hi := 122) (by omega) (by omega) (fun x => isL_iff)
        have eD := inb_t (p := isD) hM2 (e := e) (by omega) (lo := 48) (hi := 57) (by omega) (by omega) (fun x => isD_iff)
        rw [byteM_t hM2 (by omega), Option.bind_some, if_pos d] at eL eD
        rw [show F_X12_in (nI (tb0 r e)) 97 122 = _ from eL, Option.bind_some]
        by_cases g : isL (tb0 r e) = true
        · rw [if_pos (c := e < T ∧ isL (tb0 r e) = true) ⟨d, g⟩, if_neg (by decide), if_pos g, if_pos g]
          refine An_mono (letM_lp h (S := e) he fu e _ hf2 (by unfold fu; omega) he (Nat.le_refl e) rfl (by rw [q_ii, if_neg (by omega)]; exact h4) (by rw [q_ii, if_pos rfl])) fun q ⟨x1, x2, x3, x4⟩ => ⟨x1, x3, x2, x4, fun z => by omega⟩
        · rw [if_neg (c := e < T ∧ isL (tb0 r e) = true) (fun z => g z.2), if_pos rfl, if_neg g, if_neg g]
          rw [show F_X12_in (nI (tb0 r e)) 48 57 = _ from eD, Option.bind_some]
          by_cases k : isD (tb0 r e) = true
          · rw [if_pos (c := e < T ∧ isD (tb0 r e) = true) ⟨d, k⟩, if_neg (by decide), if_pos k, if_pos k, nm_at]
            have hf3 : Fr kI [] [] m (mIs (mIs m' 6 (nI e)) 7 0) := hf2.i 7 _ (by decide)
            refine An_mono (digM_lp (m := mIs (mIs m' 6 (nI e)) 7 0) (hM2.fr rfl rfl) d k (by rw [q_ii, if_neg (by omega), q_ii, if_pos rfl]) fu 0 _ (Fr.rf _) (by unfold fu; have := rn_le (p := isD) (b := tb0 r) (T := T) T e (by omega) (by omega); omega) (by omega) (by rw [q_ii, if_neg (by omega), q_ii, if_neg (by omega)]; exact h4) (by rw [q_ii, if_neg (by omega), q_ii, if_pos rfl]) (by rw [q_ii, if_pos rfl]; rfl)) fun q ⟨x1, x2, x3, x4, x5⟩ => ⟨hf3.tr x1, x3, x2, x5, fun z => ?_⟩
            rw [x4]
            unfold tV
            rw [← hr]
            have zz : rn isD (tb0 r) T e - e = 1 ∨ (rn isD (tb0 r) T e - e = 2 ∧ ¬ tb0 r e = 48) := by
              by_cases y : rn isD (tb0 r) T e - e = 1 ∨ (rn isD (tb0 r) T e - e = 2 ∧ ¬ tb0 r e = 48)
              · exact y
              · rw [if_neg y] at z; omega
            rcases zz with y | ⟨y, -⟩
            · rw [if_pos y, y, dv_1]
            · rw [if_neg (by omega), y, dv_2 k]
          · rw [if_neg (c := e < T ∧ isD (tb0 r e) = true) (fun z => k z.2), if_pos rfl, if_neg k, if_neg k, nm_at]
            unfold F_X12_advances_b253
            have h59 : nI (tb0 r e) = 59 ↔ tb0 r e = 59 := by rw [show (59 : Int32) = nI 59 from rfl, nI_eq (by omega) (by omega)]
            have h4' : mI (mIs m' 6 (nI e)) 4 = nI e := by rw [q_ii, if_neg (by omega)]; exact h4
            have fin : ∀ x : Nat, x = 3 ∨ x = 4 → An (nm (mIs (mIs (mIs m' 6 (nI e)) 4 (nI e + 1)) 5 (nI x)) fun s_o_11 => some s_o_11) (fun q => Fr kI [] [] m q ∧ mI q 6 = nI e ∧ mI q 4 = nI (e + 1) ∧ mI q 5 = nI x ∧ (x = 2 → mI q 7 = nI (tV (tb0 r) T a))) := by
              intro x hx
              rw [nm_at]
              refine An_some ⟨(hf2.i 4 _ (by decide)).i 5 _ (by decide), ?_, ?_, ?_, fun z => by omega⟩
              · rw [q_ii, if_neg (by omega), q_ii, if_neg (by omega), q_ii, if_pos rfl]
              · rw [q_ii, if_neg (by omega), q_ii, if_pos rfl, nI_1]
              · rw [q_ii, if_pos rfl]
            by_cases y : tb0 r e = 59
            · rw [if_pos (h59.mpr y), if_pos y]
              exact fin 3 (by omega)
            · rw [if_neg (fun z => y (h59.mp z)), if_neg y]
              exact fin 4 (by omega)
      · rw [if_neg d, if_neg d, if_neg d, if_neg (show ¬ (0 : Int32) ≤ nM 1 from by decide), nm_at]
        refine An_some ⟨hf2.i 5 _ (by decide), ?_, ?_, ?_, fun z => by omega⟩
        · rw [q_ii, if_neg (by omega), q_ii, if_pos rfl]
        · rw [q_ii, if_neg (by omega), q_ii, if_neg (by omega)]; exact h4
        · rw [q_ii, if_pos rfl]; rfl
theorem advM_t {m : SM} {T a : Nat} {r : Nat → Int32} (h : MT m T r) (ha : a ≤ T) (h4 : mI m 4 = nI a) : An (F_X12_advances m) (fun q => Fr kI [] [] m q ∧ RC q T r a) := by
  unfold F_X12_advances
  exact advM_lp h ha fu a m (Fr.rf m) (by unfold fu; have := h.1; omega) ha rfl h4
/-- well, and at the token from a on -/
def RW (m : SM) (T : Nat) (r : Nat → Int32) (a : Nat) : Prop := RC m T r a ∧ mI m 8 = nM 1
theorem well_1 {m : SM} (h : mI m 8 = nM 1) : F_X12_isWell m = some 1 := by
  unfold F_X12_isWell; rw [h]; exact if_neg (by decide)
theorem well_0 {m : SM} {F : Nat} (hF : F < 1000) (h : mI m 8 = nI F) : F_X12_isWell m = some 0 := by
  unfold F_X12_isWell; rw [h]; exact if_pos (nI_pos' (by omega))
theorem wants_1 {m : SM} (x : Int32) (h : ¬ x = 0) (h8 : mI m 8 = nM 1) : F_X12_wants m x = some m := by
  unfold F_X12_wants; rw [well_1 h8, Option.bind_some, if_neg (by decide), if_neg h]
theorem wants_0 {m : SM} (h8 : mI m 8 = nM 1) : F_X12_wants m 0 = some (mIs m 8 (mI m 6)) := by
  unfold F_X12_wants; rw [well_1 h8, Option.bind_some, if_neg (by decide), if_pos rfl, nm_at]
theorem wants_f {m : SM} {F : Nat} (x : Int32) (hF : F < 1000) (h : mI m 8 = nI F) : F_X12_wants m x = some m := by
  unfold F_X12_wants; rw [well_0 hF h, Option.bind_some, if_pos rfl]
theorem in_tot (x y z : Int32) : F_X12_in x y z = some 0 ∨ F_X12_in x y z = some 1 := by
  unfold F_X12_in
  by_cases a : x < y
  · exact Or.inl (if_pos a)
  · rw [if_neg a]
    by_cases b : z < x
    · exact Or.inl (if_pos b)
    · exact Or.inr (if_neg b)
theorem in_H {v lo H : Nat} (hv : v < 100) (hlo : lo < 2) (hH : H < 100) : F_X12_in (nI v) (nI lo) (nI H - 1) = some (if lo ≤ v ∧ v < H then 1 else 0) := by
  unfold F_X12_in
  have hmax : nI H - 1 < nI v ↔ H ≤ v := by
    cases H with
    | zero => rw [show nI 0 - 1 = nM 1 from by decide, nM_lt (by omega) (by omega) (by omega)]; simp
    | succ H => rw [nI_pred, nI_ltI (by omega) (by omega)]; omega
  by_cases a : lo ≤ v
  · rw [if_neg (nI_nlt a (by omega))]
    by_cases b : H ≤ v
    · rw [if_pos (hmax.mpr b), if_neg (by omega)]
    · rw [if_neg (fun z => b (hmax.mp z)), if_pos (by omega)]
  · rw [if_pos (nI_lt (by omega) (by omega)), if_neg (by omega)]
theorem numM_ok {m : SM} {T a lo H : Nat} {r : Nat → Int32} (h : MT m T r) (ha : a ≤ T) (hR : RW m T r a) (hlo : lo < 2) (hH : H < 100) (hn : nOK (tb0 r) T lo H a) : An (F_X12_number m (nI lo) (nI H - 1)) (fun q => q.1 = nI (tV (tb0 r) T a) ∧ Fr kI [] [] m q.2 ∧ RW q.2 T r (tE (tb0 r) T a)) := by
  obtain ⟨⟨c1, c2, c3, c4⟩, c8⟩ := hR
  obtain ⟨k1, k2, k3⟩ := hn
  have c7 := c4 k1
  unfold F_X12_number F_X12_number_b26
  rw [c3, if_pos (by rw [k1]; rfl), c7, in_H (tV_lt ha k1) hlo hH, if_pos ⟨k2, k3⟩, Option.bind_some, if_neg (by decide), wants_1 1 (by decide) c8, Option.bind_some, well_1 c8, Option.bind_some, if_neg (by decide), nm_at, c7]
  have hE := tE_le (b := tb0 r) ha
  refine An_bind (advM_t h hE.2.1 c2) fun q ⟨x1, x2⟩ => ?_
  exact An_some ⟨rfl, x1, x2, (x1.1 8 (by decide)).trans c8⟩
theorem numM_bad {m : SM} {T a lo H : Nat} {r : Nat → Int32} (ha : a ≤ T) (hT : T ≤ 500) (hR : RW m T r a) (hlo : lo < 2) (hH : H < 100) (hn : ¬ nOK (tb0 r) T lo H a) : F_X12_number m (nI lo) (nI H - 1) = some (0, mIs m 8 (nI (tS (tb0 r) T a))) := by
  obtain ⟨⟨c1, c2, c3, c4⟩, c8⟩ := hR
  have hS := tS_le (b := tb0 r) ha
  have kk := tK_lt (tb0 r) T a
  have b25 : F_X12_number_b26 (nI lo) (nI H - 1) m 0 = some (0, mIs m 8 (nI (tS (tb0 r) T a))) := by
    unfold F_X12_number_b26
    rw [wants_0 c8, Option.bind_some, c1, well_0 (F := tS (tb0 r) T a) (by omega) (by rw [q_ii, if_pos rfl]), Option.bind_some, if_pos rfl]
  unfold F_X12_number F_X12_number_b25
  rw [c3]
  by_cases k1 : tK (tb0 r) T a = 2
  · rw [if_pos (by rw [k1]; rfl), c4 k1, in_H (tV_lt ha k1) hlo hH, if_neg (fun z => hn ⟨k1, z.1, z.2⟩), Option.bind_some, if_pos rfl]
    exact b25
  · rw [if_neg (show ¬ nI (tK (tb0 r) T a) = 2 from by rw [show (2 : Int32) = nI 2 from rfl, nI_eq (by omega) (by omega)]; exact k1)]
    exact b25
theorem numM_f {m : SM} {F : Nat} (hF : F < 1000) (h : mI m 8 = nI F) (x y : Int32) : F_X12_number m x y = some (0, m) := by
  have b : ∀ k : Int32, F_X12_number_b26 x y m k = some (0, m) := by
    intro k
    unfold F_X12_number_b26
    rw [wants_f k hF h, Option.bind_some, well_0 hF h, Option.bind_some, if_pos rfl]
  unfold F_X12_number F_X12_number_b25
  by_cases c : mI m 5 = 2
  · rw [if_pos c]
    rcases in_tot (mI m 7) x y with e | e
    · rw [e, Option.bind_some, if_pos rfl]; exact b 0
    · rw [e, Option.bind_some, if_neg (by decide)]; exact b 1
  · rw [if_neg c]; exact b 0
/-! keywords -/
def nmd (b : Nat → Nat) (T a : Nat) (l : List Nat) : Prop := tK b T a = 1 ∧ tE b T a = tS b T a + l.length ∧ ∀ i, i < l.length → b (tS b T a + i) = l.getD i 0
theorem isn_word {s : S8} {T a : Nat} {r : Nat → Int32} (ha : a ≤ T) (h : TC s T r a) : An (F_X8_isNamed_word s) (is01 (nmd (tb0 r) T a [119, 111, 114, 100])) := by
  obtain ⟨h1, h2, h3, h4⟩ := h
  have h500 := h1.1
  have hS := tS_le (b := tb0 r) ha
  have hE := tE_le (b := tb0 r) ha
  have kk := tK_lt (tb0 r) T a
  unfold F_X8_isNamed_word
  rw [h4]
  by_cases c : tK (tb0 r) T a = 1
  · rw [if_pos (by rw [c]; rfl), h3, h2, nI_sub hE.1]
    by_cases d : tE (tb0 r) T a - tS (tb0 r) T a = 4
    · rw [if_pos (by rw [d]), nm_at]
      refine lp_up (fun q v (_ : Unit) => F_X8_isNamed_word_b28 s q v) 4 (fun k _ => ∀ i, i < k → tb0 r (tS (tb0 r) T a + i) = ([119, 111, 114, 100] : List Nat).getD i 0) _ ?_ ?_ fu 0 () (by omega) (by unfold fu; omega) (fun i hi => by omega)
      · intro q k _ hk hI hK
        show An (F_X8_isNamed_word_b28 s (q + 1) (nI k)) _
        have lt : tS (tb0 r) T a + k < T := by omega
        have b2 := (h1.by lt).2.1
        have el : aget 4 (fun j => ([119, 111, 114, 100] : List Int32).getD j 0) (nI k) = some (nI (([119, 111, 114, 100] : List Nat).getD k 0)) := by
          rw [agN hk (by omega)]
          have : ∀ k : Fin 4, ([119, 111, 114, 100] : List Int32).getD k.val 0 = nI (([119, 111, 114, 100] : List Nat).getD k.val 0) ∧ ([119, 111, 114, 100] : List Nat).getD k.val 0 < 128 := by decide +kernel
          exact congrArg some (this ⟨k, hk⟩).1
        have l128 : ([119, 111, 114, 100] : List Nat).getD k 0 < 128 := by
          have : ∀ k : Fin 4, ([119, 111, 114, 100] : List Nat).getD k.val 0 < 128 := by decide +kernel
          exact this ⟨k, hk⟩
        rw [F_X8_isNamed_word_b28, if_neg (nI_ge hk (by omega)), h2, nI_add, byteAt_t h1 (by omega), Option.bind_some, if_pos lt, el, Option.bind_some]
        by_cases g : tb0 r (tS (tb0 r) T a + k) = ([119, 111, 114, 100] : List Nat).getD k 0
        · rw [if_pos ((byX_eq b2 l128).mpr g), nm_at, nI_1]
          refine hK () fun i hi => ?_
          by_cases y : i = k
          · rw [y]; exact g
          · exact hI i (by omega)
        · rw [if_neg (fun z => g ((byX_eq b2 l128).mp z))]
          exact An_some (is01_0 fun z => g (z.2.2 k hk))
      · intro q _ hI
        show An (F_X8_isNamed_word_b28 s (q + 1) (nI 4)) _
        rw [F_X8_isNamed_word_b28, if_pos (nI_le (Nat.le_refl _) (by omega))]
        exact An_some (is01_1 ⟨c, by show _ = _ + 4; omega, hI⟩)
    · rw [if_neg (show ¬ nI (tE (tb0 r) T a - tS (tb0 r) T a) = nI 4 from by rw [nI_eq (by omega) (by omega)]; exact d)]
      exact An_some (is01_0 fun z => d (by have := z.2.1; simp only [List.length_cons, List.length_nil] at this; omega))
  · rw [if_neg (show ¬ nI (tK (tb0 r) T a) = 1 from by rw [show (1 : Int32) = nI 1 from rfl, nI_eq (by omega) (by omega)]; exact c)]
    exact An_some (is01_0 fun z => c z.1)
theorem isn_form {s : S8} {T a : Nat} {r : Nat → Int32} (ha : a ≤ T) (h : TC s T r a) : An (F_X8_isNamed_form s) (is01 (nmd (tb0 r) T a [102, 111, 114, 109])) := by
  obtain ⟨h1, h2, h3, h4⟩ := h
  have h500 := h1.1
  have hS := tS_le (b := tb0 r) ha
  have hE := tE_le (b := tb0 r) ha
  have kk := tK_lt (tb0 r) T a
  unfold F_X8_isNamed_form
  rw [h4]
  by_cases c : tK (tb0 r) T a = 1
  · rw [if_pos (by rw [c]; rfl), h3, h2, nI_sub hE.1]
    by_cases d : tE (tb0 r) T a - tS (tb0 r) T a = 4
    · rw [if_pos (by rw [d]), nm_at]
      refine lp_up (fun q v (_ : Unit) => F_X8_isNamed_form_b28 s q v) 4 (fun k _ => ∀ i, i < k → tb0 r (tS (tb0 r) T a + i) = ([102, 111, 114, 109] : List Nat).getD i 0) _ ?_ ?_ fu 0 () (by omega) (by unfold fu; omega) (fun i hi => by omega)
      · intro q k _ hk hI hK
        show An (F_X8_isNamed_form_b28 s (q + 1) (nI k)) _
        have lt : tS (tb0 r) T a + k < T := by omega
        have b2 := (h1.by lt).2.1
        have el : aget 4 (fun j => ([102, 111, 114, 109] : List Int32).getD j 0) (nI k) = some (nI (([102, 111, 114, 109] : List Nat).getD k 0)) := by
          rw [agN hk (by omega)]
          have : ∀ k : Fin 4, ([102, 111, 114, 109] : List Int32).getD k.val 0 = nI (([102, 111, 114, 109] : List Nat).getD k.val 0) ∧ ([102, 111, 114, 109] : List Nat).getD k.val 0 < 128 := by decide +kernel
          exact congrArg some (this ⟨k, hk⟩).1
        have l128 : ([102, 111, 114, 109] : List Nat).getD k 0 < 128 := by
          have : ∀ k : Fin 4, ([102, 111, 114, 109] : List Nat).getD k.val 0 < 128 := by decide +kernel
          exact this ⟨k, hk⟩
        rw [F_X8_isNamed_form_b28, if_neg (nI_ge hk (by omega)), h2, nI_add, byteAt_t h1 (by omega), Option.bind_some, if_pos lt, el, Option.bind_some]
        by_cases g : tb0 r (tS (tb0 r) T a + k) = ([102, 111, 114, 109] : List Nat).getD k 0
        · rw [if_pos ((byX_eq b2 l128).mpr g), nm_at, nI_1]
          refine hK () fun i hi => ?_
          by_cases y : i = k
          · rw [y]; exact g
          · exact hI i (by omega)
        · rw [if_neg (fun z => g ((byX_eq b2 l128).mp z))]
          exact An_some (is01_0 fun z => g (z.2.2 k hk))
      · intro q _ hI
        show An (F_X8_isNamed_form_b28 s (q + 1) (nI 4)) _
        rw [F_X8_isNamed_form_b28, if_pos (nI_le (Nat.le_refl _) (by omega))]
        exact An_some (is01_1 ⟨c, by show _ = _ + 4; omega, hI⟩)
    · rw [if_neg (show ¬ nI (tE (tb0 r) T a - tS (tb0 r) T a) = nI 4 from by rw [nI_eq (by omega) (by omega)]; exact d)]
      exact An_some (is01_0 fun z => d (by have := z.2.1; simp only [List.length_cons, List.length_nil] at this; omega))
  · rw [if_neg (show ¬ nI (tK (tb0 r) T a) = 1 from by rw [show (1 : Int32) = nI 1 from rfl, nI_eq (by omega) (by omega)]; exact c)]
    exact An_some (is01_0 fun z => c z.1)
theorem isn_metre {s : S8} {T a : Nat} {r : Nat → Int32} (ha : a ≤ T) (h : TC s T r a) : An (F_X8_isNamed_metre s) (is01 (nmd (tb0 r) T a [109, 101, 116, 114, 101])) := by
  obtain ⟨h1, h2, h3, h4⟩ := h
  have h500 := h1.1
  have hS := tS_le (b := tb0 r) ha
  have hE := tE_le (b := tb0 r) ha
  have kk := tK_lt (tb0 r) T a
  unfold F_X8_isNamed_metre
  rw [h4]
  by_cases c : tK (tb0 r) T a = 1
  · rw [if_pos (by rw [c]; rfl), h3, h2, nI_sub hE.1]
    by_cases d : tE (tb0 r) T a - tS (tb0 r) T a = 5
    · rw [if_pos (by rw [d]), nm_at]
      refine lp_up (fun q v (_ : Unit) => F_X8_isNamed_metre_b28 s q v) 5 (fun k _ => ∀ i, i < k → tb0 r (tS (tb0 r) T a + i) = ([109, 101, 116, 114, 101] : List Nat).getD i 0) _ ?_ ?_ fu 0 () (by omega) (by unfold fu; omega) (fun i hi => by omega)
      · intro q k _ hk hI hK
        show An (F_X8_isNamed_metre_b28 s (q + 1) (nI k)) _
        have lt : tS (tb0 r) T a + k < T := by omega
        have b2 := (h1.by lt).2.1
        have el : aget 5 (fun j => ([109, 101, 116, 114, 101] : List Int32).getD j 0) (nI k) = some (nI (([109, 101, 116, 114, 101] : List Nat).getD k 0)) := by
          rw [agN hk (by omega)]
          have : ∀ k : Fin 5, ([109, 101, 116, 114, 101] : List Int32).getD k.val 0 = nI (([109, 101, 116, 114, 101] : List Nat).getD k.val 0) ∧ ([109, 101, 116, 114, 101] : List Nat).getD k.val 0 < 128 := by decide +kernel
          exact congrArg some (this ⟨k, hk⟩).1
        have l128 : ([109, 101, 116, 114, 101] : List Nat).getD k 0 < 128 := by
          have : ∀ k : Fin 5, ([109, 101, 116, 114, 101] : List Nat).getD k.val 0 < 128 := by decide +kernel
          exact this ⟨k, hk⟩
        rw [F_X8_isNamed_metre_b28, if_neg (nI_ge hk (by omega)), h2, nI_add, byteAt_t h1 (by omega), Option.bind_some, if_pos lt, el, Option.bind_some]
        by_cases g : tb0 r (tS (tb0 r) T a + k) = ([109, 101, 116, 114, 101] : List Nat).getD k 0
        · rw [if_pos ((byX_eq b2 l128).mpr g), nm_at, nI_1]
          refine hK () fun i hi => ?_
          by_cases y : i = k
          · rw [y]; exact g
          · exact hI i (by omega)
        · rw [if_neg (fun z => g ((byX_eq b2 l128).mp z))]
          exact An_some (is01_0 fun z => g (z.2.2 k hk))
      · intro q _ hI
        show An (F_X8_isNamed_metre_b28 s (q + 1) (nI 5)) _
        rw [F_X8_isNamed_metre_b28, if_pos (nI_le (Nat.le_refl _) (by omega))]
        exact An_some (is01_1 ⟨c, by show _ = _ + 5; omega, hI⟩)
    · rw [if_neg (show ¬ nI (tE (tb0 r) T a - tS (tb0 r) T a) = nI 5 from by rw [nI_eq (by omega) (by omega)]; exact d)]
      exact An_some (is01_0 fun z => d (by have := z.2.1; simp only [List.length_cons, List.length_nil] at this; omega))
  · rw [if_neg (show ¬ nI (tK (tb0 r) T a) = 1 from by rw [show (1 : Int32) = nI 1 from rfl, nI_eq (by omega) (by omega)]; exact c)]
    exact An_some (is01_0 fun z => c z.1)
theorem isn_line {s : S8} {T a : Nat} {r : Nat → Int32} (ha : a ≤ T) (h : TC s T r a) : An (F_X8_isNamed_line s) (is01 (nmd (tb0 r) T a [108, 105, 110, 101])) := by
  obtain ⟨h1, h2, h3, h4⟩ := h
  have h500 := h1.1
  have hS := tS_le (b := tb0 r) ha
  have hE := tE_le (b := tb0 r) ha
  have kk := tK_lt (tb0 r) T a
  unfold F_X8_isNamed_line
  rw [h4]
  by_cases c : tK (tb0 r) T a = 1
  · rw [if_pos (by rw [c]; rfl), h3, h2, nI_sub hE.1]
    by_cases d : tE (tb0 r) T a - tS (tb0 r) T a = 4
    · rw [if_pos (by rw [d]), nm_at]
      refine lp_up (fun q v (_ : Unit) => F_X8_isNamed_line_b28 s q v) 4 (fun k _ => ∀ i, i < k → tb0 r (tS (tb0 r) T a + i) = ([108, 105, 110, 101] : List Nat).getD i 0) _ ?_ ?_ fu 0 () (by omega) (by unfold fu; omega) (fun i hi => by omega)
      · intro q k _ hk hI hK
        show An (F_X8_isNamed_line_b28 s (q + 1) (nI k)) _
        have lt : tS (tb0 r) T a + k < T := by omega
        have b2 := (h1.by lt).2.1
        have el : aget 4 (fun j => ([108, 105, 110, 101] : List Int32).getD j 0) (nI k) = some (nI (([108, 105, 110, 101] : List Nat).getD k 0)) := by
          rw [agN hk (by omega)]
          have : ∀ k : Fin 4, ([108, 105, 110, 101] : List Int32).getD k.val 0 = nI (([108, 105, 110, 101] : List Nat).getD k.val 0) ∧ ([108, 105, 110, 101] : List Nat).getD k.val 0 < 128 := by decide +kernel
          exact congrArg some (this ⟨k, hk⟩).1
        have l128 : ([108, 105, 110, 101] : List Nat).getD k 0 < 128 := by
          have : ∀ k : Fin 4, ([108, 105, 110, 101] : List Nat).getD k.val 0 < 128 := by decide +kernel
          exact this ⟨k, hk⟩
        rw [F_X8_isNamed_line_b28, if_neg (nI_ge hk (by omega)), h2, nI_add, byteAt_t h1 (by omega), Option.bind_some, if_pos lt, el, Option.bind_some]
        by_cases g : tb0 r (tS (tb0 r) T a + k) = ([108, 105, 110, 101] : List Nat).getD k 0
        · rw [if_pos ((byX_eq b2 l128).mpr g), nm_at, nI_1]
          refine hK () fun i hi => ?_
          by_cases y : i = k
          · rw [y]; exact g
          · exact hI i (by omega)
        · rw [if_neg (fun z => g ((byX_eq b2 l128).mp z))]
          exact An_some (is01_0 fun z => g (z.2.2 k hk))
      · intro q _ hI
        show An (F_X8_isNamed_line_b28 s (q + 1) (nI 4)) _
        rw [F_X8_isNamed_line_b28, if_pos (nI_le (Nat.le_refl _) (by omega))]
        exact An_some (is01_1 ⟨c, by show _ = _ + 4; omega, hI⟩)
    · rw [if_neg (show ¬ nI (tE (tb0 r) T a - tS (tb0 r) T a) = nI 4 from by rw [nI_eq (by omega) (by omega)]; exact d)]
      exact An_some (is01_0 fun z => d (by have := z.2.1; simp only [List.length_cons, List.length_nil] at this; omega))
  · rw [if_neg (show ¬ nI (tK (tb0 r) T a) = 1 from by rw [show (1 : Int32) = nI 1 from rfl, nI_eq (by omega) (by omega)]; exact c)]
    exact An_some (is01_0 fun z => c z.1)
theorem isn_stock {s : S8} {T a : Nat} {r : Nat → Int32} (ha : a ≤ T) (h : TC s T r a) : An (F_X8_isNamed_stock s) (is01 (nmd (tb0 r) T a [115, 116, 111, 99, 107])) := by
  obtain ⟨h1, h2, h3, h4⟩ := h
  have h500 := h1.1
  have hS := tS_le (b := tb0 r) ha
  have hE := tE_le (b := tb0 r) ha
  have kk := tK_lt (tb0 r) T a
  unfold F_X8_isNamed_stock
  rw [h4]
  by_cases c : tK (tb0 r) T a = 1
  · rw [if_pos (by rw [c]; rfl), h3, h2, nI_sub hE.1]
    by_cases d : tE (tb0 r) T a - tS (tb0 r) T a = 5
    · rw [if_pos (by rw [d]), nm_at]
      refine lp_up (fun q v (_ : Unit) => F_X8_isNamed_stock_b28 s q v) 5 (fun k _ => ∀ i, i < k → tb0 r (tS (tb0 r) T a + i) = ([115, 116, 111, 99, 107] : List Nat).getD i 0) _ ?_ ?_ fu 0 () (by omega) (by unfold fu; omega) (fun i hi => by omega)
      · intro q k _ hk hI hK
        show An (F_X8_isNamed_stock_b28 s (q + 1) (nI k)) _
        have lt : tS (tb0 r) T a + k < T := by omega
        have b2 := (h1.by lt).2.1
        have el : aget 5 (fun j => ([115, 116, 111, 99, 107] : List Int32).getD j 0) (nI k) = some (nI (([115, 116, 111, 99, 107] : List Nat).getD k 0)) := by
          rw [agN hk (by omega)]
          have : ∀ k : Fin 5, ([115, 116, 111, 99, 107] : List Int32).getD k.val 0 = nI (([115, 116, 111, 99, 107] : List Nat).getD k.val 0) ∧ ([115, 116, 111, 99, 107] : List Nat).getD k.val 0 < 128 := by decide +kernel
          exact congrArg some (this ⟨k, hk⟩).1
        have l128 : ([115, 116, 111, 99, 107] : List Nat).getD k 0 < 128 := by
          have : ∀ k : Fin 5, ([115, 116, 111, 99, 107] : List Nat).getD k.val 0 < 128 := by decide +kernel
          exact this ⟨k, hk⟩
        rw [F_X8_isNamed_stock_b28, if_neg (nI_ge hk (by omega)), h2, nI_add, byteAt_t h1 (by omega), Option.bind_some, if_pos lt, el, Option.bind_some]
        by_cases g : tb0 r (tS (tb0 r) T a + k) = ([115, 116, 111, 99, 107] : List Nat).getD k 0
        · rw [if_pos ((byX_eq b2 l128).mpr g), nm_at, nI_1]
          refine hK () fun i hi => ?_
          by_cases y : i = k
          · rw [y]; exact g
          · exact hI i (by omega)
        · rw [if_neg (fun z => g ((byX_eq b2 l128).mp z))]
          exact An_some (is01_0 fun z => g (z.2.2 k hk))
      · intro q _ hI
        show An (F_X8_isNamed_stock_b28 s (q + 1) (nI 5)) _
        rw [F_X8_isNamed_stock_b28, if_pos (nI_le (Nat.le_refl _) (by omega))]
        exact An_some (is01_1 ⟨c, by show _ = _ + 5; omega, hI⟩)
    · rw [if_neg (show ¬ nI (tE (tb0 r) T a - tS (tb0 r) T a) = nI 5 from by rw [nI_eq (by omega) (by omega)]; exact d)]
      exact An_some (is01_0 fun z => d (by have := z.2.1; simp only [List.length_cons, List.length_nil] at this; omega))
  · rw [if_neg (show ¬ nI (tK (tb0 r) T a) = 1 from by rw [show (1 : Int32) = nI 1 from rfl, nI_eq (by omega) (by omega)]; exact c)]
    exact An_some (is01_0 fun z => c z.1)

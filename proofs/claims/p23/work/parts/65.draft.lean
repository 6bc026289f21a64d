/-! ===== what is told so far ===== -/
abbrev dI : List Nat := [0, 4, 5, 6, 7, 8, 16, 17, 18, 19]
abbrev dA : List Nat := [9, 10, 11, 12, 20]
/-- what stays while a text is read -/
def PD (m m' : SM) : Prop := (∀ k, k ∉ dI → mI m' k = mI m k) ∧ (∀ k, k ∉ dA → mA m' k = mA m k) ∧ (∀ j, j < 64 → mA m' 9 j = mA m 9 j) ∧ (∀ j, j < 18 → mA m' 10 j = mA m 10 j) ∧ (∀ j, j < 8 → mA m' 11 j = mA m 11 j) ∧ (∀ j, j < 18 → mA m' 12 j = mA m 12 j) ∧ (∀ k, mJ m' k = mJ m k) ∧ mT m' = mT m
theorem PD.rf (m : SM) : PD m m := ⟨fun _ _ => rfl, fun _ _ => rfl, fun _ _ => rfl, fun _ _ => rfl, fun _ _ => rfl, fun _ _ => rfl, fun _ => rfl, rfl⟩
theorem PD.tr {a b c : SM} (h : PD a b) (g : PD b c) : PD a c :=
  ⟨fun k hk => (g.1 k hk).trans (h.1 k hk), fun k hk => (g.2.1 k hk).trans (h.2.1 k hk), fun j hj => (g.2.2.1 j hj).trans (h.2.2.1 j hj), fun j hj => (g.2.2.2.1 j hj).trans (h.2.2.2.1 j hj), fun j hj => (g.2.2.2.2.1 j hj).trans (h.2.2.2.2.1 j hj), fun j hj => (g.2.2.2.2.2.1 j hj).trans (h.2.2.2.2.2.1 j hj), fun k => (g.2.2.2.2.2.2.1 k).trans (h.2.2.2.2.2.2.1 k), g.2.2.2.2.2.2.2.trans h.2.2.2.2.2.2.2⟩
theorem PD.fr {a b c : SM} (h : PD a b) (g : Fr kI [] [] b c) : PD a c := h.tr ⟨fun k hk => g.1 k (fun z => hk (by revert z; revert hk; simp; omega)), fun k _ => g.2.1 k (by simp), fun j _ => by rw [g.2.1 9 (by simp)], fun j _ => by rw [g.2.1 10 (by simp)], fun j _ => by rw [g.2.1 11 (by simp)], fun j _ => by rw [g.2.1 12 (by simp)], fun k => g.2.2.1 k (by simp), g.2.2.2⟩
theorem PD.i {a b : SM} (h : PD a b) (k : Nat) (x : Int32) (hk : k ∈ dI) : PD a (mIs b k x) :=
  ⟨fun j hj => (show (if j = k then x else mI b j) = _ by rw [if_neg (fun e : j = k => hj (by rw [e]; exact hk))]; exact h.1 j hj), h.2⟩
theorem PD.a {a b : SM} (h : PD a b) (k idx : Nat) (x : Int32) (hk : (k = 9 ∧ 64 ≤ idx) ∨ (k = 10 ∧ 18 ≤ idx) ∨ (k = 11 ∧ 8 ≤ idx) ∨ (k = 12 ∧ 18 ≤ idx) ∨ k = 20) : PD a (mAs b k (upd (mA b k) idx x)) := by
  obtain ⟨h1, h2, h3, h4, h5, h6, h7⟩ := h
  have up : ∀ k2, mA (mAs b k (upd (mA b k) idx x)) k2 = if k2 = k then upd (mA b k) idx x else mA b k2 := fun k2 => q_aa b k _ k2
  have mem : k ∈ dA := by
    rcases hk with ⟨e, -⟩ | ⟨e, -⟩ | ⟨e, -⟩ | ⟨e, -⟩ | e <;> rw [e] <;> decide
  refine ⟨h1, fun k2 hk2 => ?_, fun j hj => ?_, fun j hj => ?_, fun j hj => ?_, fun j hj => ?_, h7⟩
  · rw [up, if_neg (fun e : k2 = k => hk2 (by rw [e]; exact mem))]; exact h2 k2 hk2
  · rw [up]
    by_cases c : 9 = k
    · subst c; rw [if_pos rfl, u_at, if_neg (by omega)]; exact h3 j hj
    · rw [if_neg c]; exact h3 j hj
  · rw [up]
    by_cases c : 10 = k
    · subst c; rw [if_pos rfl, u_at, if_neg (by omega)]; exact h4 j hj
    · rw [if_neg c]; exact h4 j hj
  · rw [up]
    by_cases c : 11 = k
    · subst c; rw [if_pos rfl, u_at, if_neg (by omega)]; exact h5 j hj
    · rw [if_neg c]; exact h5 j hj
  · rw [up]
    by_cases c : 12 = k
    · subst c; rw [if_pos rfl, u_at, if_neg (by omega)]; exact h6 j hj
    · rw [if_neg c]; exact h6 j hj
/-- the class's spare tale and the reference's draft -/
def DR (W F P S : Nat) (t7 : S7) (t10 : S10) (t1 : S1) (pp ps : S4) (m : SM) : Prop := (mI m 16 = nI W ∧ mI m 17 = nI F ∧ mI m 19 = nI P ∧ mI m 18 = nI S) ∧ WR t10 W (fun k => mA m 9 (64 + k)) ∧ FR t1 F (fun k => mA m 10 (18 + k)) ∧ MR t7 (fun k => mA m 11 (8 + k)) ∧ LR pp P 8 W (mA m 20) ∧ LR ps S 6 W (fun k => mA m 12 (18 + k))
theorem DR.fr {W F P S : Nat} {t7 : S7} {t10 : S10} {t1 : S1} {pp ps : S4} {m m' : SM} (h : DR W F P S t7 t10 t1 pp ps m) (hf : Fr [4, 5, 6, 7, 8] [] [] m m') : DR W F P S t7 t10 t1 pp ps m' := by
  obtain ⟨⟨a, b, c, d⟩, h2⟩ := h
  unfold DR
  rw [hf.1 16 (by decide), hf.1 17 (by decide), hf.1 18 (by decide), hf.1 19 (by decide), hf.2.1 9 (by decide), hf.2.1 10 (by decide), hf.2.1 11 (by decide), hf.2.1 12 (by decide), hf.2.1 20 (by decide)]
  exact ⟨⟨a, b, c, d⟩, h2⟩
theorem nw_1 {N R idx : Nat} {m m1 : SM} {lo hi v : Int32} {B : Type} {K : SM → Option B} (e : F_X12_number m lo hi = some (v, m1)) (h : idx < N) (hN : N < 1000) : ((F_X12_number m lo hi).bind fun q => (aset N (mA q.2 R) (nI idx) q.1).bind fun f => nm (mAs q.2 R f) K) = K (mAs m1 R (upd (mA m1 R) idx v)) := by
  rw [e, Option.bind_some]
  show ((aset N (mA m1 R) (nI idx) v).bind fun f => nm (mAs m1 R f) K) = _
  rw [asN v h (by omega), Option.bind_some, nm_at]
theorem add_ok {t10 : S10} {W : Nat} {r r2 : Nat → Int32} (h : WR t10 W r) (hW : W < 16) (hr : ∀ k, k < 4 * W → r2 k = r k) {v1 v2 v3 v4 : Int32} (e1 : r2 (4 * W) = v1) (e2 : r2 (4 * W + 1) = v2) (e3 : r2 (4 * W + 2) = v3) (e4 : r2 (4 * W + 3) = v4) (l1 : Lb v1 26) (l2 : Lb v2 26) (l3 : Lb v3 10) (l4 : Lb v4 5) : ∃ t', F_X10_add t10 v1 v2 v3 v4 = some t' ∧ WR t' (W + 1) r2 := by
  obtain ⟨h1, h2, h3⟩ := h
  have hs1 : ∀ (f : Nat → Int32) (x : Int32), F_X6_set 48 f (nI W) x = some (upd f W x) := fun f x => by rw [set_total (by omega), setvN (by omega) (by omega)]
  have hs2 : ∀ (f : Nat → Int32) (x : Int32), F_X6_set 48 f (16 + nI W) x = some (upd f (16 + W) x) := fun f x => by rw [set_total (by omega), show (16 : Int32) + nI W = nI (16 + W) from nI_add 16 W, setvN (by omega) (by omega)]
  have hs3 : ∀ (f : Nat → Int32) (x : Int32), F_X6_set 16 f (nI W) x = some (upd f W x) := fun f x => by rw [set_total (by omega), setvN (by omega) (by omega)]
  refine ⟨(upd (upd (s10_sounds t10) W v1) (16 + W) v2, upd (s10_meanings t10) W v3, upd (s10_syllables t10) W v4, nI (W + 1)), ?_, by omega, rfl, ?_⟩
  · unfold F_X10_add F_X10_isFull
    rw [h2, if_pos (show nI W < 16 from nI_lt (b := 16) hW (by omega)), Option.bind_some, if_pos rfl]
    rw [hs1, Option.bind_some]
    rw [show s10_size (u10_sounds t10 (upd (s10_sounds t10) W v1)) = nI W from h2, hs2, Option.bind_some]
    rw [show s10_size (u10_sounds (u10_sounds t10 (upd (s10_sounds t10) W v1)) (upd (s10_sounds (u10_sounds t10 (upd (s10_sounds t10) W v1))) (16 + W) v2)) = nI W from h2, hs3, Option.bind_some]
    rw [show ∀ q : Nat → Int32, s10_size (u10_meanings (u10_sounds (u10_sounds t10 (upd (s10_sounds t10) W v1)) (upd (s10_sounds (u10_sounds t10 (upd (s10_sounds t10) W v1))) (16 + W) v2)) q) = nI W from fun q => h2, hs3, Option.bind_some, nm_at]
    rw [show ∀ q p : Nat → Int32, s10_size (u10_syllables (u10_meanings (u10_sounds (u10_sounds t10 (upd (s10_sounds t10) W v1)) (upd (s10_sounds (u10_sounds t10 (upd (s10_sounds t10) W v1))) (16 + W) v2)) q) p) = nI W from fun q p => h2, nI_1]
    rfl
  · intro w hw
    show (upd (upd (s10_sounds t10) W v1) (16 + W) v2 w = _ ∧ upd (upd (s10_sounds t10) W v1) (16 + W) v2 (16 + w) = _ ∧ upd (s10_meanings t10) W v3 w = _ ∧ upd (s10_syllables t10) W v4 w = _) ∧ _
    by_cases c : w = W
    · subst c
      rw [e1, e2, e3, e4]
      refine ⟨⟨?_, ?_, ?_, ?_⟩, l1, l2, l3, l4⟩
      · rw [u_at, if_neg (by omega), u_at, if_pos rfl]
      · rw [u_at, if_pos rfl]
      · rw [u_at, if_pos rfl]
      · rw [u_at, if_pos rfl]
    · obtain ⟨⟨a, b, d, e⟩, f⟩ := h3 w (by omega)
      rw [hr _ (by omega), hr _ (by omega), hr _ (by omega), hr _ (by omega)]
      simp only [u_at]
      rw [if_neg (by omega), if_neg c, if_neg (by omega), if_neg (by omega), if_neg c, if_neg c]
      exact ⟨⟨a, b, d, e⟩, f⟩
theorem LR.mono {s : S4} {n M W W2 : Nat} {r : Nat → Int32} (h : LR s n M W r) (hW : W ≤ W2) : LR s n M W2 r := ⟨h.1, h.2.1, h.2.2.1, fun i hi => ⟨(h.2.2.2 i hi).1.mono hW, (h.2.2.2 i hi).2⟩⟩
/-- how an item ends: well and before its stop, or at a fault -/
def IR (T : Nat) (r : Nat → Int32) (a : Nat) (q1 : Int32) (s' : S8) (m' : SM) (D : Prop) : Prop := TX s' T r ∧ ((∃ a0, a ≤ a0 ∧ a0 ≤ T ∧ RW m' T r a0 ∧ ((tK (tb0 r) T a0 = 3 ∧ q1 = 1 ∧ s8_end s' = nI (tE (tb0 r) T a0) ∧ D) ∨ (¬ tK (tb0 r) T a0 = 3 ∧ q1 = 0 ∧ s8_start s' = nI (tS (tb0 r) T a0)))) ∨ ∃ fl, fl < 1000 ∧ mI m' 8 = nI fl ∧ q1 = 0 ∧ s8_start s' = nI fl)

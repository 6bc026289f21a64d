/-! ===== all items ===== -/
theorem kw_no {b : Nat → Nat} {T a : Nat} {l : List Nat} {x : Int32} (h : is01 (nmd b T a l) x) (hn : ¬ nmd b T a l) : x = 0 := by
  rcases is01_cases h with ⟨e, -⟩ | ⟨-, e⟩
  · exact e
  · exact absurd e hn
theorem kw_yes {b : Nat → Nat} {T a : Nat} {l : List Nat} {x : Int32} (h : is01 (nmd b T a l) x) (hn : nmd b T a l) : ¬ x = 0 := by
  rcases is01_cases h with ⟨-, e⟩ | ⟨e, -⟩
  · exact absurd hn e
  · rw [e]; decide
/-- the class's item by its keyword -/
theorem tellItem_k {s1 : S8} {T a k : Nat} {r : Nat → Int32} (ha : a ≤ T) (tc : TC s1 T r a) (hk : kwP (tb0 r) T a k) (t7 : S7) (t1 : S1) (pp ps : S4) (t10 : S10) :
    (k = 0 → F_X5_tellItem s1 t7 t1 pp ps t10 = (F_X5_tellWord s1 t10).bind fun q_14 => (zb q_14.1).bind fun z_15 => some (q_14.1, q_14.2.1, t7, t1, pp, ps, q_14.2.2)) ∧
    (k = 1 → F_X5_tellItem s1 t7 t1 pp ps t10 = (F_X5_tellForm s1 t1).bind fun q_12 => (zb q_12.1).bind fun z_13 => some (q_12.1, q_12.2.1, t7, q_12.2.2, pp, ps, t10)) ∧
    (k = 2 → F_X5_tellItem s1 t7 t1 pp ps t10 = (F_X5_tellMetre s1 t7).bind fun q_10 => (zb q_10.1).bind fun z_11 => some (q_10.1, q_10.2.1, q_10.2.2, t1, pp, ps, t10)) ∧
    (k = 3 → F_X5_tellItem s1 t7 t1 pp ps t10 = (F_X5_tellLine s1 t10 pp).bind fun q_8 => (zb q_8.1).bind fun z_9 => some (q_8.1, q_8.2.1, t7, t1, q_8.2.2, ps, t10)) ∧
    (k = 4 → F_X5_tellItem s1 t7 t1 pp ps t10 = (F_X5_tellLine s1 t10 ps).bind fun q_6 => (zb q_6.1).bind fun z_7 => some (q_6.1, q_6.2.1, t7, t1, pp, q_6.2.2, t10)) ∧
    (k = 5 → F_X5_tellItem s1 t7 t1 pp ps t10 = some (0, s1, t7, t1, pp, ps, t10)) := by
  obtain ⟨x0, e0, y0⟩ := isn_word ha tc
  obtain ⟨x1, e1, y1⟩ := isn_form ha tc
  obtain ⟨x2, e2, y2⟩ := isn_metre ha tc
  obtain ⟨x3, e3, y3⟩ := isn_line ha tc
  obtain ⟨x4, e4, y4⟩ := isn_stock ha tc
  unfold F_X5_tellItem
  rw [e0, e1, e2, e3, e4]
  simp only [Option.bind_some]
  rcases hk with ⟨h, w0⟩ | ⟨h, w0, w1⟩ | ⟨h, w0, w1, w2⟩ | ⟨h, w0, w1, w2, w3⟩ | ⟨h, w0, w1, w2, w3, w4⟩ | ⟨h, w0, w1, w2, w3, w4⟩
  · refine ⟨fun _ => ?_, fun z => by omega, fun z => by omega, fun z => by omega, fun z => by omega, fun z => by omega⟩
    rw [if_neg (kw_yes y0 w0)]
  · refine ⟨fun z => by omega, fun _ => ?_, fun z => by omega, fun z => by omega, fun z => by omega, fun z => by omega⟩
    rw [if_pos (kw_no y0 w0), if_neg (kw_yes y1 w1)]
  · refine ⟨fun z => by omega, fun z => by omega, fun _ => ?_, fun z => by omega, fun z => by omega, fun z => by omega⟩
    rw [if_pos (kw_no y0 w0), if_pos (kw_no y1 w1), if_neg (kw_yes y2 w2)]
  · refine ⟨fun z => by omega, fun z => by omega, fun z => by omega, fun _ => ?_, fun z => by omega, fun z => by omega⟩
    rw [if_pos (kw_no y0 w0), if_pos (kw_no y1 w1), if_pos (kw_no y2 w2), if_neg (kw_yes y3 w3)]
  · refine ⟨fun z => by omega, fun z => by omega, fun z => by omega, fun z => by omega, fun _ => ?_, fun z => by omega⟩
    rw [if_pos (kw_no y0 w0), if_pos (kw_no y1 w1), if_pos (kw_no y2 w2), if_pos (kw_no y3 w3), if_neg (kw_yes y4 w4)]
  · refine ⟨fun z => by omega, fun z => by omega, fun z => by omega, fun z => by omega, fun z => by omega, fun _ => ?_⟩
    rw [if_pos (kw_no y0 w0), if_pos (kw_no y1 w1), if_pos (kw_no y2 w2), if_pos (kw_no y3 w3), if_pos (kw_no y4 w4)]
/-- whether there is room for an item -/
def roomI (k W F P S : Nat) : Prop := (k = 0 ∧ W < 16) ∨ (k = 1 ∧ F < 2) ∨ k = 2 ∨ (k = 3 ∧ P < 8) ∨ (k = 4 ∧ S < 6)
theorem item_full {s1 : S8} {T a k W F P S : Nat} {r : Nat → Int32} {t7 : S7} {t10 : S10} {t1 : S1} {pp ps : S4} {m : SM} (ha : a ≤ T) (tc : TC s1 T r a) (hk : kwP (tb0 r) T a k) (hD : DR W F P S t7 t10 t1 pp ps m) (hn : ¬ roomI k W F P S) : F_X5_tellItem s1 t7 t1 pp ps t10 = some (0, s1, t7, t1, pp, ps, t10) := by
  obtain ⟨-, dW, dF, dM, dP, dS⟩ := hD
  obtain ⟨h0, h1, h2, h3, h4, h5⟩ := tellItem_k ha tc hk t7 t1 pp ps t10
  have hk6 := kwP_lt hk
  have h16 := dW.1
  have hF2 := dF.1
  have hP8 := dP.1
  have hS6 := dS.1
  unfold roomI at hn
  have hx : k = 0 ∨ k = 1 ∨ k = 2 ∨ k = 3 ∨ k = 4 ∨ k = 5 := by omega
  rcases hx with rfl | rfl | rfl | rfl | rfl | rfl
  · rw [h0 rfl]
    unfold F_X5_tellWord F_X10_isFull
    rw [dW.2.1, if_neg (show ¬ nI W < 16 from nI_nlt (b := 16) (by omega) (by omega)), Option.bind_some, if_neg (show ¬ (1 : Int32) = 0 from by decide), Option.bind_some]
    rfl
  · rw [h1 rfl]
    unfold F_X5_tellForm F_X1_isFull
    rw [dF.2.1, if_neg (show ¬ nI F < 2 from nI_nlt (b := 2) (by omega) (by omega)), Option.bind_some, if_neg (show ¬ (1 : Int32) = 0 from by decide), Option.bind_some]
    rfl
  · omega
  · rw [h3 rfl]
    unfold F_X5_tellLine F_X4_isFull
    rw [dP.2.2.1.1, dP.2.1, if_neg (nI_nlt (by omega) (by omega)), Option.bind_some, if_neg (show ¬ (1 : Int32) = 0 from by decide), Option.bind_some]
    rfl
  · rw [h4 rfl]
    unfold F_X5_tellLine F_X4_isFull
    rw [dS.2.2.1.1, dS.2.1, if_neg (nI_nlt (by omega) (by omega)), Option.bind_some, if_neg (show ¬ (1 : Int32) = 0 from by decide), Option.bind_some]
    rfl
  · exact h5 rfl
theorem IR.q1 {T : Nat} {r : Nat → Int32} {a : Nat} {q1 : Int32} {s' : S8} {m' : SM} {D : Prop} (h : IR T r a q1 s' m' D) : zb q1 = some q1 := by
  rcases h.2 with ⟨a0, -, -, -, ⟨-, e, -⟩ | ⟨-, e, -⟩⟩ | ⟨fl, -, -, e, -⟩ <;> rw [e] <;> rfl
theorem IR.mono {T : Nat} {r : Nat → Int32} {a : Nat} {q1 : Int32} {s' : S8} {m' m2 : SM} {D D2 : Prop} (h : IR T r a q1 s' m' D) (hf : Fr [16, 17, 18, 19] [] [] m' m2) (hD : D → D2) : IR T r a q1 s' m2 D2 := by
  refine ⟨h.1, ?_⟩
  rcases h.2 with ⟨a0, h1, h2, h3, h4⟩ | ⟨fl, h1, h2, h3⟩
  · refine Or.inl ⟨a0, h1, h2, ⟨⟨?_, ?_, ?_, fun z => ?_⟩, ?_⟩, ?_⟩
    · rw [hf.1 6 (by decide)]; exact h3.1.1
    · rw [hf.1 4 (by decide)]; exact h3.1.2.1
    · rw [hf.1 5 (by decide)]; exact h3.1.2.2.1
    · rw [hf.1 7 (by decide)]; exact h3.1.2.2.2 z
    · rw [hf.1 8 (by decide)]; exact h3.2
    · rcases h4 with ⟨g1, g2, g3, g4⟩ | g
      · exact Or.inl ⟨g1, g2, g3, hD g4⟩
      · exact Or.inr g
  · exact Or.inr ⟨fl, h1, by rw [hf.1 8 (by decide)]; exact h2, h3⟩
/-- an item for which there is room: both -/
theorem item_it {s1 : S8} {m : SM} {T a k W F P S : Nat} {r : Nat → Int32} {t7 : S7} {t10 : S10} {t1 : S1} {pp ps : S4} (ha : a ≤ T) (tc : TC s1 T r a) (hk : kwP (tb0 r) T a k) (hM : MT m T r) (hR : RW m T r (tE (tb0 r) T a)) (hD : DR W F P S t7 t10 t1 pp ps m) (hn : roomI k W F P S) : ∃ q1 s2 u7 u1 up us u10 m2, F_X5_tellItem s1 t7 t1 pp ps t10 = some (q1, s2, u7, u1, up, us, u10) ∧ F_X12_readsItem m (kwI k) = some m2 ∧ PD m m2 ∧ s4_most up = nI 8 ∧ s4_most us = nI 6 ∧ IR T r (tE (tb0 r) T a) q1 s2 m2 (∃ W2 F2 P2 S2, DR W2 F2 P2 S2 u7 u10 u1 up us m2) := by
  obtain ⟨h0, h1, h2, h3, h4, -⟩ := tellItem_k ha tc hk t7 t1 pp ps t10
  have hA := (tE_le (b := tb0 r) ha).2.1
  have mP := hD.2.2.2.2.1.2.1
  have mS := hD.2.2.2.2.2.2.1
  have d19 := hD.1.2.2.1
  have d18 := hD.1.2.2.2
  have ge : ∀ q, kwI k = q → ∀ c : Int32, ¬ q = c → ¬ kwI k = c := fun q e c g => by rw [e]; exact g
  rcases hn with ⟨rfl, hn⟩ | ⟨rfl, hn⟩ | rfl | ⟨rfl, hn⟩ | ⟨rfl, hn⟩
  · obtain ⟨q1, s2, t2, m2, e1, e2, e3, e4⟩ := word_it tc.1 hA tc.2.2.1 hM hR hD hn
    refine ⟨q1, s2, t7, t1, pp, ps, t2, m2, ?_, ?_, e3, mP, mS, e4.mono (Fr.rf m2) fun d => ⟨_, _, _, _, d⟩⟩
    · rw [h0 rfl, e1, Option.bind_some]
      show ((zb q1).bind fun z_15 => some (q1, s2, t7, t1, pp, ps, t2)) = _
      rw [e4.q1, Option.bind_some]
    · unfold F_X12_readsItem
      rw [if_pos (show kwI 0 = 0 from rfl), e2, Option.bind_some]
  · obtain ⟨q1, s2, t2, m2, e1, e2, e3, e4⟩ := form_it tc.1 hA tc.2.2.1 hM hR hD hn
    refine ⟨q1, s2, t7, t2, pp, ps, t10, m2, ?_, ?_, e3, mP, mS, e4.mono (Fr.rf m2) fun d => ⟨_, _, _, _, d⟩⟩
    · rw [h1 rfl, e1, Option.bind_some]
      show ((zb q1).bind fun z_13 => some (q1, s2, t7, t2, pp, ps, t10)) = _
      rw [e4.q1, Option.bind_some]
    · unfold F_X12_readsItem
      rw [if_neg (show ¬ kwI 1 = 0 from by decide), if_pos (show kwI 1 = 1 from rfl), e2, Option.bind_some]
  · obtain ⟨q1, s2, t2, m2, e1, e2, e3, e4⟩ := metre_it tc.1 hA tc.2.2.1 hM hR hD
    refine ⟨q1, s2, t2, t1, pp, ps, t10, m2, ?_, ?_, e3, mP, mS, e4.mono (Fr.rf m2) fun d => ⟨_, _, _, _, d⟩⟩
    · rw [h2 rfl, e1, Option.bind_some]
      show ((zb q1).bind fun z_11 => some (q1, s2, t2, t1, pp, ps, t10)) = _
      rw [e4.q1, Option.bind_some]
    · unfold F_X12_readsItem
      rw [if_neg (show ¬ kwI 2 = 0 from by decide), if_neg (show ¬ kwI 2 = 1 from by decide), if_pos (show kwI 2 = 2 from rfl), e2, Option.bind_some]
  · obtain ⟨q1, s2, t2, m2, e1, e2, e3, e5, e4⟩ := line_it tc.1 hA tc.2.2.1 hM hR hD hn
    refine ⟨q1, s2, t7, t1, t2, ps, t10, mIs m2 19 (mI m2 19 + 1), ?_, ?_, e3.i 19 _ (by decide), e5, mS, e4.mono ((Fr.rf m2).i 19 _ (by decide)) ?_⟩
    · rw [h3 rfl, e1, Option.bind_some]
      show ((zb q1).bind fun z_9 => some (q1, s2, t7, t1, t2, ps, t10)) = _
      rw [e4.q1, Option.bind_some]
    · unfold F_X12_readsItem
      rw [if_neg (show ¬ kwI 3 = 0 from by decide), if_neg (show ¬ kwI 3 = 1 from by decide), if_neg (show ¬ kwI 3 = 2 from by decide), if_pos (show kwI 3 = 3 from rfl), d19, show (3 : Int32) * nI P = nI (3 * P) from nI_mul 3 P, e2, Option.bind_some, nm_at]
    · rintro ⟨g, d⟩
      rw [g, nI_1]
      exact ⟨_, _, _, _, d⟩
  · obtain ⟨q1, s2, t2, m2, e1, e2, e3, e5, e4⟩ := stock_it tc.1 hA tc.2.2.1 hM hR hD hn
    refine ⟨q1, s2, t7, t1, pp, t2, t10, mIs m2 18 (mI m2 18 + 1), ?_, ?_, e3.i 18 _ (by decide), mP, e5, e4.mono ((Fr.rf m2).i 18 _ (by decide)) ?_⟩
    · rw [h4 rfl, e1, Option.bind_some]
      show ((zb q1).bind fun z_7 => some (q1, s2, t7, t1, pp, t2, t10)) = _
      rw [e4.q1, Option.bind_some]
    · unfold F_X12_readsItem
      rw [if_neg (show ¬ kwI 4 = 0 from by decide), if_neg (show ¬ kwI 4 = 1 from by decide), if_neg (show ¬ kwI 4 = 2 from by decide), if_neg (show ¬ kwI 4 = 3 from by decide), d18, show (18 : Int32) + 3 * nI S = nI (18 + 3 * S) from by rw [show (3 : Int32) * nI S = nI (3 * S) from nI_mul 3 S]; exact nI_add 18 _, e2, Option.bind_some, nm_at]
    · rintro ⟨g, d⟩
      rw [g, nI_1]
      exact ⟨_, _, _, _, d⟩
/-! the loop over items -/
theorem ftail {m : SM} {fl n : Nat} (hfl : fl < 1000) (h : mI m 8 = nI fl) (v : Int32) : F_X12_read_b185 (F_X12_read_b63 (n + 1)) v m = F_X12_read_b219 (v + 1) m := by
  have b : ∀ k : Int32, F_X12_read_b199 (F_X12_read_b63 (n + 1)) v m k = F_X12_read_b219 (v + 1) m := by
    intro k
    unfold F_X12_read_b199 F_X12_read_b213
    rw [wants_f k hfl h, Option.bind_some, well_0 hfl h, Option.bind_some, if_pos rfl, nm_at, F_X12_read_b63, well_0 hfl h, Option.bind_some, if_pos rfl]
  unfold F_X12_read_b185
  by_cases c : mI m 5 = 3
  · rw [if_pos c]; exact b 1
  · rw [if_neg c]; exact b 0
def TL (T : Nat) (r : Nat → Int32) (cls : Option (Int32 × S8 × S7 × S1 × S4 × S4 × S10)) (ref : Option (Int32 × SM)) (m : SM) : Prop :=
  (∃ it s' W F P S u7 u1 up us u10 m', it < 1000 ∧ cls = some (nI it, s', u7, u1, up, us, u10) ∧ TX s' T r ∧ ref = F_X12_read_b219 (nI it) m' ∧ mI m' 8 = nM 1 ∧ PD m m' ∧ DR W F P S u7 u10 u1 up us m') ∨
  ∃ fl v s' u7 u1 up us u10 m', fl < 1000 ∧ cls = some (-10 - nI fl, s', u7, u1, up, us, u10) ∧ TX s' T r ∧ s4_most up = nI 8 ∧ s4_most us = nI 6 ∧ ref = F_X12_read_b219 v m' ∧ mI m' 8 = nI fl ∧ PD m m'
theorem TL.pd {T : Nat} {r : Nat → Int32} {cls : Option (Int32 × S8 × S7 × S1 × S4 × S4 × S10)} {ref : Option (Int32 × SM)} {m m0 : SM} (h : TL T r cls ref m) (hp : PD m0 m) : TL T r cls ref m0 := by
  rcases h with ⟨it, s', W, F, P, S, u7, u1, up, us, u10, m', h1, h2, h3, h4, h5, h6, h7⟩ | ⟨fl, v, s', u7, u1, up, us, u10, m', h1, h2, h3, h4, h5, h6, h7, h8⟩
  · exact Or.inl ⟨it, s', W, F, P, S, u7, u1, up, us, u10, m', h1, h2, h3, h4, h5, hp.tr h6, h7⟩
  · exact Or.inr ⟨fl, v, s', u7, u1, up, us, u10, m', h1, h2, h3, h4, h5, h6, h7, hp.tr h8⟩
theorem b63_k {m : SM} {T a k W F P S n : Nat} {r : Nat → Int32} {t7 : S7} {t10 : S10} {t1 : S1} {pp ps : S4} (ha : a ≤ T) (hM : MT m T r) (hR : RW m T r a) (h0 : ¬ tK (tb0 r) T a = 0) (hk : kwP (tb0 r) T a k) (hb : F_X12_begins m = some (kwI k)) (hD : DR W F P S t7 t10 t1 pp ps m) (v : Int32) : (roomI k W F P S → F_X12_read_b63 (n + 1) v m = F_X12_read_b166 (F_X12_read_b63 n) v (kwI k) m 1) ∧ (¬ roomI k W F P S → F_X12_read_b63 (n + 1) v m = F_X12_read_b166 (F_X12_read_b63 n) v (kwI k) m 0) := by
  obtain ⟨⟨d16, d17, d19, d18⟩, dW, dF, -, dP, dS⟩ := hD
  have h16 := dW.1
  have hF2 := dF.1
  have hP8 := dP.1
  have hS6 := dS.1
  have kk := tK_lt (tb0 r) T a
  have hk6 := kwP_lt hk
  have e0 : F_X12_read_b63 (n + 1) v m = (if kwI k = 0 then (if 16 ≤ (mI m 16) then F_X12_read_b166 (F_X12_read_b63 n) v (kwI k) m 0 else F_X12_read_b166 (F_X12_read_b63 n) v (kwI k) m 1) else (if kwI k = 1 then (if 2 ≤ (mI m 17) then F_X12_read_b166 (F_X12_read_b63 n) v (kwI k) m 0 else F_X12_read_b166 (F_X12_read_b63 n) v (kwI k) m 1) else (if kwI k = 2 then F_X12_read_b161 (F_X12_read_b63 n) v (kwI k) m else (if kwI k = 3 then (if 8 ≤ (mI m 19) then F_X12_read_b165 (F_X12_read_b63 n) v (kwI k) m else F_X12_read_b161 (F_X12_read_b63 n) v (kwI k) m) else (if kwI k = 4 then (if 6 ≤ (mI m 18) then F_X12_read_b165 (F_X12_read_b63 n) v (kwI k) m else F_X12_read_b161 (F_X12_read_b63 n) v (kwI k) m) else F_X12_read_b165 (F_X12_read_b63 n) v (kwI k) m))))) := by
    rw [F_X12_read_b63, well_1 hR.2, Option.bind_some, if_neg (show ¬ (1 : Int32) = 0 from by decide), if_neg (show ¬ mI m 5 = 0 from by rw [hR.1.2.2.1, show (0 : Int32) = nI 0 from rfl, nI_eq (by omega) (by omega)]; exact h0), hb, Option.bind_some, nm_at]
  rw [e0, d16, d17, d18, d19]
  unfold roomI F_X12_read_b161 F_X12_read_b165
  have hx : k = 0 ∨ k = 1 ∨ k = 2 ∨ k = 3 ∨ k = 4 ∨ k = 5 := by omega
  rcases hx with rfl | rfl | rfl | rfl | rfl | rfl
  · rw [if_pos (show kwI 0 = 0 from rfl)]
    refine ⟨fun g => ?_, fun g => ?_⟩
    · rw [if_neg (show ¬ (16 : Int32) ≤ nI W from nI_ge (b := 16) (by omega) (by omega))]
    · rw [if_pos (show (16 : Int32) ≤ nI W from nI_le (a := 16) (by omega) (by omega))]
  · rw [if_neg (show ¬ kwI 1 = 0 from by decide), if_pos (show kwI 1 = 1 from rfl)]
    refine ⟨fun g => ?_, fun g => ?_⟩
    · rw [if_neg (show ¬ (2 : Int32) ≤ nI F from nI_ge (b := 2) (by omega) (by omega))]
    · rw [if_pos (show (2 : Int32) ≤ nI F from nI_le (a := 2) (by omega) (by omega))]
  · rw [if_neg (show ¬ kwI 2 = 0 from by decide), if_neg (show ¬ kwI 2 = 1 from by decide), if_pos (show kwI 2 = 2 from rfl)]
    exact ⟨fun _ => rfl, fun g => absurd (Or.inr (Or.inr (Or.inl rfl))) g⟩
  · rw [if_neg (show ¬ kwI 3 = 0 from by decide), if_neg (show ¬ kwI 3 = 1 from by decide), if_neg (show ¬ kwI 3 = 2 from by decide), if_pos (show kwI 3 = 3 from rfl)]
    refine ⟨fun g => ?_, fun g => ?_⟩
    · rw [if_neg (show ¬ (8 : Int32) ≤ nI P from nI_ge (b := 8) (by omega) (by omega))]
    · rw [if_pos (show (8 : Int32) ≤ nI P from nI_le (a := 8) (by omega) (by omega))]
  · rw [if_neg (show ¬ kwI 4 = 0 from by decide), if_neg (show ¬ kwI 4 = 1 from by decide), if_neg (show ¬ kwI 4 = 2 from by decide), if_neg (show ¬ kwI 4 = 3 from by decide), if_pos (show kwI 4 = 4 from rfl)]
    refine ⟨fun g => ?_, fun g => ?_⟩
    · rw [if_neg (show ¬ (6 : Int32) ≤ nI S from nI_ge (b := 6) (by omega) (by omega))]
    · rw [if_pos (show (6 : Int32) ≤ nI S from nI_le (a := 6) (by omega) (by omega))]
  · rw [if_neg (show ¬ kwI 5 = 0 from by decide), if_neg (show ¬ kwI 5 = 1 from by decide), if_neg (show ¬ kwI 5 = 2 from by decide), if_neg (show ¬ kwI 5 = 3 from by decide), if_neg (show ¬ kwI 5 = 4 from by decide)]
    exact ⟨fun g => by omega, fun _ => rfl⟩
theorem tell_lp {T : Nat} {r : Nat → Int32} : ∀ k a items f1 f2 s m W F P S t7 t10 t1 pp ps, T - a < k → a ≤ T → items ≤ a → T - a < f1 → T - a < f2 → TX s T r → s8_end s = nI a → MT m T r → RW m T r a → DR W F P S t7 t10 t1 pp ps m → TL T r (F_X5_tell_b10 f1 (nI items) s t7 t1 pp ps t10) (F_X12_read_b63 f2 (nI items) m) m := by
  intro k
  induction k with
  | zero => intro a items f1 f2 s m W F P S t7 t10 t1 pp ps hk; omega
  | succ k ih =>
    intro a items f1 f2 s m W F P S t7 t10 t1 pp ps hk ha hi hf1 hf2 hs he hM hR hD
    have h500 := hs.1
    obtain ⟨n1, rfl⟩ : ∃ n, f1 = n + 1 := ⟨f1 - 1, by omega⟩
    obtain ⟨n2, rfl⟩ : ∃ n, f2 = n + 1 := ⟨f2 - 1, by omega⟩
    obtain ⟨s1, e1, tc⟩ := advance_t hs ha he
    have kk := tK_lt (tb0 r) T a
    have hsort : s8_sort s1 = 0 ↔ tK (tb0 r) T a = 0 := by
      rw [tc.2.2.2, show (0 : Int32) = nI 0 from rfl, nI_eq (by omega) (by omega)]
    rw [F_X5_tell_b10, if_neg (show ¬ (500 : Int32) < nI items from nI_nlt (a := 500) (by omega) (by omega)), e1, Option.bind_some]
    unfold F_X8_isOut
    by_cases c0 : tK (tb0 r) T a = 0
    · rw [if_pos (hsort.mpr c0), Option.bind_some, if_neg (show ¬ (1 : Int32) = 0 from by decide)]
      refine Or.inl ⟨items, s1, W, F, P, S, t7, t1, pp, ps, t10, m, by omega, rfl, tc.1, ?_, hR.2, PD.rf m, hD⟩
      rw [F_X12_read_b63, well_1 hR.2, Option.bind_some, if_neg (show ¬ (1 : Int32) = 0 from by decide), if_pos (show mI m 5 = 0 from by rw [hR.1.2.2.1, c0]; rfl)]
    · rw [if_neg (fun z => c0 (hsort.mp z)), Option.bind_some, if_pos rfl]
      have hST : tS (tb0 r) T a < T := by
        by_cases z : tS (tb0 r) T a < T
        · exact z
        · exact absurd (tK_0.mpr z) c0
      have hS := tS_le (b := tb0 r) ha
      obtain ⟨n3, rfl⟩ : ∃ n, n2 = n + 1 := ⟨n2 - 1, by omega⟩
      obtain ⟨kw, b1, b2⟩ := begins_t hM ha hR.1
      obtain ⟨r1, r0⟩ := b63_k (n := n3 + 1) ha hM hR c0 b2 b1 hD (nI items)
      refine Decidable.byCases (dec := Classical.propDecidable _) (p := roomI kw W F P S) (fun g => ?_) (fun g => ?_)
      · rw [r1 g]
        unfold F_X12_read_b166
        rw [wants_1 1 (by decide) hR.2, Option.bind_some, well_1 hR.2, Option.bind_some, if_neg (show ¬ (1 : Int32) = 0 from by decide)]
        have hE := tE_le (b := tb0 r) ha
        obtain ⟨m1, x1, x2, x3⟩ := advM_t hM hE.2.1 hR.1.2.1
        have hM1 := hM.f x2
        have hR1 : RW m1 T r (tE (tb0 r) T a) := ⟨x3, (x2.1 8 (by decide)).trans hR.2⟩
        have hD1 := hD.fr (x2.wd (by decide) (fun _ z => z) (fun _ z => z))
        obtain ⟨q1, s2, u7, u1, up, us, u10, m2, y1, y2, y3, y4, y5, y6⟩ := item_it ha tc b2 hM1 hR1 hD1 g
        have p2 : PD m m2 := ((PD.rf m).fr x2).tr y3
        have hM2 : MT m2 T r := hM.fr (p2.1 3 (by decide)) (p2.2.1 2 (by decide))
        rw [x1, Option.bind_some, y1, Option.bind_some, y2, Option.bind_some]
        obtain ⟨tx2, y6⟩ := y6
        rcases y6 with ⟨a0, z1, z2, z3, ⟨z4, z5, z6, z7⟩ | ⟨z4, z5, z6⟩⟩ | ⟨fl, z1, z2, z3, z4⟩
        · -- the stop is there: the next item
          obtain ⟨W2, F2, P2, S2, hD2⟩ := z7
          have hE0 := tE_le (b := tb0 r) z2
          have hS0 := tS_le (b := tb0 r) z2
          have hST0 : tS (tb0 r) T a0 < T := by
            by_cases z : tS (tb0 r) T a0 < T
            · exact z
            · have := tK_0.mpr z; omega
          obtain ⟨m3, w1, w2, w3⟩ := advM_t hM2 hE0.2.1 z3.1.2.1
          have eb : F_X12_read_b185 (F_X12_read_b63 (n3 + 1)) (nI items) m2 = F_X12_read_b63 (n3 + 1) (nI (items + 1)) m3 := by
            unfold F_X12_read_b185 F_X12_read_b199 F_X12_read_b213
            rw [if_pos (show mI m2 5 = 3 from by rw [z3.1.2.2.1, z4]; rfl), wants_1 1 (by decide) z3.2, Option.bind_some, well_1 z3.2, Option.bind_some, if_neg (show ¬ (1 : Int32) = 0 from by decide), w1, Option.bind_some, nm_at, nI_1]
          rw [eb, z5]
          show TL T r (if (1 : Int32) = 0 then _ else nm (nI items + 1) fun v2_5 => (F_X5_tell_b10 n1) v2_5 s2 u7 u1 up us u10) _ m
          rw [if_neg (show ¬ (1 : Int32) = 0 from by decide), nm_at, nI_1]
          refine (ih (tE (tb0 r) T a0) (items + 1) n1 (n3 + 1) s2 m3 W2 F2 P2 S2 u7 u10 u1 up us (by omega) hE0.2.1 (by omega) (by omega) (by omega) tx2 z6 (hM2.f w2) ⟨w3, (w2.1 8 (by decide)).trans z3.2⟩ (hD2.fr (w2.wd (by decide) (fun _ z => z) (fun _ z => z)))).pd (p2.fr w2)
        · -- no stop
          have fl : tS (tb0 r) T a0 < 1000 := by have := (tS_le (b := tb0 r) z2).2; omega
          have fault : mI (mIs m2 8 (nI (tS (tb0 r) T a0))) 8 = nI (tS (tb0 r) T a0) := by rw [q_ii, if_pos rfl]
          have k0 := tK_lt (tb0 r) T a0
          have eb : F_X12_read_b185 (F_X12_read_b63 (n3 + 1)) (nI items) m2 = F_X12_read_b219 (nI items + 1) (mIs m2 8 (nI (tS (tb0 r) T a0))) := by
            unfold F_X12_read_b185 F_X12_read_b199 F_X12_read_b213
            rw [if_neg (show ¬ mI m2 5 = 3 from by rw [z3.1.2.2.1, show (3 : Int32) = nI 3 from rfl, nI_eq (by omega) (by omega)]; exact z4), wants_0 z3.2, Option.bind_some, z3.1.1, well_0 fl fault, Option.bind_some, if_pos rfl, nm_at, F_X12_read_b63, well_0 fl fault, Option.bind_some, if_pos rfl]
          rw [eb, z5]
          refine Or.inr ⟨_, _, s2, u7, u1, up, us, u10, _, fl, ?_, tx2, y4, y5, rfl, fault, p2.i 8 _ (by decide)⟩
          show (if (0 : Int32) = 0 then (F_X8_start s2).bind fun q_6 => some (-10 - q_6, s2, u7, u1, up, us, u10) else _) = _
          unfold F_X8_start
          rw [if_pos rfl, Option.bind_some, z6]
        · rw [ftail z1 z2, z3]
          refine Or.inr ⟨_, _, s2, u7, u1, up, us, u10, _, z1, ?_, tx2, y4, y5, rfl, z2, p2⟩
          show (if (0 : Int32) = 0 then (F_X8_start s2).bind fun q_6 => some (-10 - q_6, s2, u7, u1, up, us, u10) else _) = _
          unfold F_X8_start
          rw [if_pos rfl, Option.bind_some, z4]
      · rw [r0 g, item_full ha tc b2 hD g]
        have fl : tS (tb0 r) T a < 1000 := by omega
        have fault : mI (mIs m 8 (nI (tS (tb0 r) T a))) 8 = nI (tS (tb0 r) T a) := by rw [q_ii, if_pos rfl]
        have eb : F_X12_read_b166 (F_X12_read_b63 (n3 + 1)) (nI items) (kwI kw) m 0 = F_X12_read_b219 (nI items + 1) (mIs m 8 (nI (tS (tb0 r) T a))) := by
          unfold F_X12_read_b166
          rw [wants_0 hR.2, Option.bind_some, hR.1.1, well_0 fl fault, Option.bind_some, if_pos rfl, ftail fl fault]
        rw [eb, Option.bind_some]
        refine Or.inr ⟨_, _, s1, t7, t1, pp, ps, t10, _, fl, ?_, tc.1, hD.2.2.2.2.1.2.1, hD.2.2.2.2.2.2.1, rfl, fault, (PD.rf m).i 8 _ (by decide)⟩
        show (if (0 : Int32) = 0 then (F_X8_start s1).bind fun q_6 => some (-10 - q_6, s1, t7, t1, pp, ps, t10) else _) = _
        unfold F_X8_start
        rw [if_pos rfl, Option.bind_some, tc.2.1]

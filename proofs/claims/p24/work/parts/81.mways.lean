/-! ===== the reference counts the ways ===== -/
def jN (n : Nat) : Int64 := Int64.ofNat n
theorem jN_0 : (0 : Int64) = jN 0 := by decide
theorem jN_1 : (1 : Int64) = jN 1 := by decide
theorem jN_add (a b : Nat) : jN a + jN b = jN (a + b) := (Int64.ofNat_add a b).symm
theorem jN_mul (a b : Nat) : jN a * jN b = jN (a * b) := (Int64.ofNat_mul a b).symm
theorem jN_sub {a b : Nat} (h : b ≤ a) : jN a - jN b = jN (a - b) := (Int64.ofNat_sub a b h).symm
def WH (W n f : Nat) (aL : Nat → Nat) (okm : Nat → Nat → Bool) (s0 : SM) : Prop :=
  mI s0 13 = nI W ∧ W ≤ 16 ∧ mI s0 25 = nI n ∧ n ≤ 8 ∧ (∀ s, Fr [] [32] wJ s0 s → (∀ i, i < n → F_X12_letterOf s (nI f) (nI i) = some (nI (aL i))) ∧ ∀ i w, i < n → w < W → F_X12_isMetre s (nI f) (nI i) (nI w) = some (if okm i w = true then nI 1 else nI 0)) ∧ ∀ i, i < n → aL i < 8
theorem WH.fr {W n f : Nat} {aL : Nat → Nat} {okm : Nat → Nat → Bool} {s0 s : SM} (h : WH W n f aL okm s0) (hf : Fr [] [32] wJ s0 s) : WH W n f aL okm s := by
  obtain ⟨h1, h2, h3, h4, h5, h6⟩ := h
  exact ⟨(hf.1 13 (by simp)).trans h1, h2, (hf.1 25 (by simp)).trans h3, h4, fun s' hs' => h5 s' (hf.tr hs'), h6⟩
theorem wd_bd {L : Nat → Nat} {l W : Nat} {al : Nat → Nat → Bool} : ∀ i, (wd L l W al i).1 ≤ i := by
  intro i
  induction i with
  | zero => exact Nat.le_refl _
  | succ i ih =>
    rw [wd]
    by_cases c : L i = l
    · rw [if_pos c]; show _ + 1 ≤ _; omega
    · rw [if_neg c]; omega
def wo (L : Nat → Nat) (W n : Nat) (al : Nat → Nat → Bool) (l : Nat) : Nat := if (wd L l W al n).1 ≤ 1 then 0 else sm (wd L l W al n).2 W
theorem waysOf_t {W n f l its : Nat} {aL : Nat → Nat} {okm : Nat → Nat → Bool} {s : SM} (h : WH W n f aL okm s) (hl : l < 8) (hits : its < 26) : An (F_X12_waysOf s (nI f) (nI l) (nI its)) (fun q => q.1 = jN (wo aL W n (alw okm (mA s 32) (mA s 31) its) l) ∧ Fr [] [] wJ s q.2) := by
  have h13 := h.1
  have h16 := h.2.1
  have h25 := h.2.2.1
  have h8 := h.2.2.2.1
  obtain ⟨al, ea⟩ : ∃ al, al = alw okm (mA s 32) (mA s 31) its := ⟨_, rfl⟩
  rw [← ea]
  unfold F_X12_waysOf
  rw [nm_at, nm_at]
  refine lp_up (fun q v (x : Int32 × SM) => F_X12_waysOf_b6 (nI f) (nI l) (nI its) q x.1 v x.2) n (fun m x => Fr [] [] wJ s x.2 ∧ x.1 = nI (wd aL l W al m).1 ∧ ∀ w, w < W → ¬ (wd aL l W al m).1 = 0 → mJ x.2 34 w = jN ((wd aL l W al m).2 w)) _ ?_ ?_ fu 0 (nI 0, s) (by omega) (by unfold fu; omega) ⟨Fr.rf s, rfl, fun w _ e => absurd rfl e⟩
  · intro q m ⟨c, y⟩ hm ⟨hy, hc, hF⟩ hK
    simp only [] at hy hc hF
    have e13 : mI y 13 = nI W := (hy.1 13 (by simp)).trans h13
    have e25 : mI y 25 = nI n := (hy.1 25 (by simp)).trans h25
    have hcb : (wd aL l W al m).1 ≤ m := wd_bd m
    have al8 := h.2.2.2.2.2 m hm
    have el := (h.2.2.2.2.1 y (hy.wd (fun _ x => x) (by decide) (fun _ x => x))).1 m hm
    show An (F_X12_waysOf_b6 (nI f) (nI l) (nI its) (q + 1) c (nI m) y) _
    rw [F_X12_waysOf_b6, e25, if_neg (nI_ge hm (by omega)), el, Option.bind_some]
    by_cases g : aL m = l
    · rw [if_pos (show nI (aL m) = nI l from by rw [g]), nm_at, nm_at, hc]
      obtain ⟨k, ek⟩ : ∃ k, k = (wd aL l W al m).1 := ⟨_, rfl⟩
      obtain ⟨F, eF⟩ : ∃ F, F = (wd aL l W al m).2 := ⟨_, rfl⟩
      have en : wd aL l W al (m + 1) = (k + 1, fun w => if al m w = true then (if k = 0 then 1 else sm (fun v => if v = w then 0 else F v) W) else 0) := by rw [wd, if_pos g, ek, eF]
      rw [← ek] at hc hF hcb ⊢
      rw [← eF] at hF
      have kn : ¬ k = 0 → ¬ nI k = 0 := fun e => by rw [show (0 : Int32) = nI 0 from rfl, nI_eq (by omega) (by omega)]; exact e
      refine lp_up (fun q2 v (a : Int64) => F_X12_waysOf_b32 (nI f) (nI l) (nI its) (F_X12_waysOf_b6 (nI f) (nI l) (nI its) q) q2 (nI k) (nI m) a v y) W (fun v a => a = jN (if k = 0 then 0 else sm F v)) _ ?_ ?_ fu 0 0 (by omega) (by unfold fu; omega) (by split <;> exact jN_0)
      · intro q2 v a hv ha hK2
        show An (F_X12_waysOf_b32 (nI f) (nI l) (nI its) (F_X12_waysOf_b6 (nI f) (nI l) (nI its) q) (q2 + 1) (nI k) (nI m) a (nI v) y) _
        rw [F_X12_waysOf_b32, e13, if_neg (nI_ge hv (by omega))]
        unfold F_X12_waysOf_b59
        by_cases k0 : k = 0
        · rw [if_pos (show nI k = 0 from by rw [k0]; rfl), nm_at, nm_at, nI_1]
          refine hK2 _ ?_
          rw [ha, if_pos k0, if_pos k0, jN_0, jN_add]
        · rw [if_neg (kn k0), agLN (by omega) (by omega), Option.bind_some, nm_at, nm_at, nI_1]
          refine hK2 _ ?_
          rw [ha, if_neg k0, if_neg k0, hF v hv k0, jN_add]
          rfl
      · intro q2 a ha
        show An (F_X12_waysOf_b32 (nI f) (nI l) (nI its) (F_X12_waysOf_b6 (nI f) (nI l) (nI its) q) (q2 + 1) (nI k) (nI m) a (nI W) y) _
        rw [F_X12_waysOf_b32, e13, if_pos (nI_le (Nat.le_refl W) (by omega)), nm_at]
        refine lp_up (fun q3 v (z : SM) => F_X12_waysOf_b71 (nI f) (nI l) (nI its) (F_X12_waysOf_b6 (nI f) (nI l) (nI its) q) q3 (nI k) (nI m) a v z) W (fun w z => Fr [] [] wJ s z ∧ mJ z 34 = mJ y 34 ∧ ∀ u, u < w → mJ z 35 u = jN (if al m u = true then (if k = 0 then 1 else sm (fun v => if v = u then 0 else F v) W) else 0)) _ ?_ ?_ fu 0 y (by omega) (by unfold fu; omega) ⟨hy, rfl, fun u hu => by omega⟩
        · intro q3 w z hw ⟨hz, h34, h35⟩ hK3
          have z13 : mI z 13 = nI W := (hz.1 13 (by simp)).trans h13
          have em := (h.2.2.2.2.1 z (hz.wd (fun _ x => x) (by decide) (fun _ x => x))).2 m w hm hw
          have k160 : ∀ x : Nat, x = (if al m w = true then (if k = 0 then 1 else sm (fun v => if v = w then 0 else F v) W) else 0) → An (F_X12_waysOf_b160 (nI f) (nI l) (nI its) (F_X12_waysOf_b6 (nI f) (nI l) (nI its) q) (F_X12_waysOf_b71 (nI f) (nI l) (nI its) (F_X12_waysOf_b6 (nI f) (nI l) (nI its) q) q3) (nI k) (nI m) a (nI w) z (nI w) (jN x)) (fun q => q.1 = jN (wo aL W n al l) ∧ Fr [] [] wJ s q.2) := by
            intro x hx
            unfold F_X12_waysOf_b160
            rw [asLN _ (by omega) (by omega), Option.bind_some, nm_at, nm_at, nI_1]
            refine hK3 _ ⟨hz.j 35 _ (by decide), by rw [q_jj, if_neg (by decide)]; exact h34, fun u hu => ?_⟩
            rw [q_jj, if_pos rfl, uL_at]
            by_cases e : u = w
            · rw [if_pos e, hx, e]
            · rw [if_neg e]; exact h35 u (by omega)
          have no : al m w = false → An (F_X12_waysOf_b123 (nI f) (nI l) (nI its) (F_X12_waysOf_b6 (nI f) (nI l) (nI its) q) (F_X12_waysOf_b71 (nI f) (nI l) (nI its) (F_X12_waysOf_b6 (nI f) (nI l) (nI its) q) q3) (nI k) (nI m) a (nI w) z) (fun q => q.1 = jN (wo aL W n al l) ∧ Fr [] [] wJ s q.2) := by
            intro e
            unfold F_X12_waysOf_b123 F_X12_waysOf_b124
            rw [nm_at, if_pos rfl, jN_0]
            exact k160 0 (by rw [if_neg (by rw [e]; decide)])
          have yes : al m w = true → An (F_X12_waysOf_b124 (nI f) (nI l) (nI its) (F_X12_waysOf_b6 (nI f) (nI l) (nI its) q) (F_X12_waysOf_b71 (nI f) (nI l) (nI its) (F_X12_waysOf_b6 (nI f) (nI l) (nI its) q) q3) (nI k) (nI m) a (nI w) z 1) (fun q => q.1 = jN (wo aL W n al l) ∧ Fr [] [] wJ s q.2) := by
            intro e
            unfold F_X12_waysOf_b124
            rw [nm_at, if_neg (show ¬ (1 : Int32) = 0 from by decide)]
            by_cases k0 : k = 0
            · rw [if_pos (show nI k = 0 from by rw [k0]; rfl), jN_1]
              exact k160 1 (by rw [if_pos e, if_pos k0])
            · have hb := sm_but (g := F) hw
              have hv : a - jN (F w) = jN (sm (fun v => if v = w then 0 else F v) W) := by
                rw [ha, if_neg k0, jN_sub (by omega)]
                exact congrArg jN (by omega)
              rw [if_neg (kn k0), agLN (by omega) (by omega), Option.bind_some, h34, hF w hw k0, hv]
              exact k160 _ (by rw [if_pos e, if_neg k0])
          show An (F_X12_waysOf_b71 (nI f) (nI l) (nI its) (F_X12_waysOf_b6 (nI f) (nI l) (nI its) q) (q3 + 1) (nI k) (nI m) a (nI w) z) _
          rw [F_X12_waysOf_b71, z13, if_neg (nI_ge hw (by omega)), agN (by omega) (by omega), Option.bind_some, hz.2.1 32 (by decide)]
          rw [ea] at no yes
          unfold alw at no yes
          by_cases b1 : tb (mA s 32 m) w = true
          · rw [if_pos (show (mA s 32 m >>> (nI w &&& 31)) &&& 1 = 1 from by rw [tb_sh1 _ (by omega)]; exact b1), agN (by omega) (by omega), Option.bind_some, hz.2.1 31 (by decide)]
            by_cases b2 : mA s 31 w = nI its
            · rw [if_pos b2, em, Option.bind_some]
              by_cases b3 : okm m w = true
              · rw [if_pos b3, if_neg (show ¬ nI 1 = 0 from by decide)]
                rw [ea]
                exact yes (by simp [b1, b2, b3])
              · rw [if_neg b3, if_pos (show nI 0 = 0 from rfl)]
                rw [ea]
                exact no (by simp [b3])
            · rw [if_neg b2]
              rw [ea]
              exact no (by simp [b2])
          · rw [if_neg (show ¬ (mA s 32 m >>> (nI w &&& 31)) &&& 1 = 1 from by rw [tb_sh1 _ (by omega)]; exact b1)]
            rw [ea]
            exact no (by simp [b1])
        · intro q3 z ⟨hz, h34, h35⟩
          have z13 : mI z 13 = nI W := (hz.1 13 (by simp)).trans h13
          show An (F_X12_waysOf_b71 (nI f) (nI l) (nI its) (F_X12_waysOf_b6 (nI f) (nI l) (nI its) q) (q3 + 1) (nI k) (nI m) a (nI W) z) _
          rw [F_X12_waysOf_b71, z13, if_pos (nI_le (Nat.le_refl W) (by omega)), nm_at]
          refine lp_up (fun q4 v (z : SM) => F_X12_waysOf_b170 (nI f) (nI l) (nI its) (F_X12_waysOf_b6 (nI f) (nI l) (nI its) q) q4 (nI k) (nI m) v z) W (fun w z2 => Fr [] [] wJ s z2 ∧ mJ z2 35 = mJ z 35 ∧ ∀ u, u < w → mJ z2 34 u = mJ z 35 u) _ ?_ ?_ fu 0 z (by omega) (by unfold fu; omega) ⟨hz, rfl, fun u hu => by omega⟩
          · intro q4 w z2 hw ⟨g1, g2, g3⟩ hK4
            have z13 : mI z2 13 = nI W := (g1.1 13 (by simp)).trans h13
            show An (F_X12_waysOf_b170 (nI f) (nI l) (nI its) (F_X12_waysOf_b6 (nI f) (nI l) (nI its) q) (q4 + 1) (nI k) (nI m) (nI w) z2) _
            rw [F_X12_waysOf_b170, z13, if_neg (nI_ge hw (by omega)), agLN (by omega) (by omega), Option.bind_some, asLN _ (by omega) (by omega), Option.bind_some, nm_at, nm_at, nI_1]
            refine hK4 _ ⟨g1.j 34 _ (by decide), by rw [q_jj, if_neg (by decide)]; exact g2, fun u hu => ?_⟩
            rw [q_jj, if_pos rfl, uL_at]
            by_cases e : u = w
            · rw [if_pos e, e, g2]
            · rw [if_neg e]; exact g3 u (by omega)
          · intro q4 z2 ⟨g1, g2, g3⟩
            have z13 : mI z2 13 = nI W := (g1.1 13 (by simp)).trans h13
            show An (F_X12_waysOf_b170 (nI f) (nI l) (nI its) (F_X12_waysOf_b6 (nI f) (nI l) (nI its) q) (q4 + 1) (nI k) (nI m) (nI W) z2) _
            rw [F_X12_waysOf_b170, z13, if_pos (nI_le (Nat.le_refl W) (by omega)), nm_at]
            unfold F_X12_waysOf_b202
            rw [nm_at, nI_1, nI_1]
            refine hK (nI (k + 1), z2) ⟨g1, ?_, fun w hw _ => ?_⟩
            · show nI (k + 1) = nI (wd aL l W al (m + 1)).1
              rw [en]
            · show mJ z2 34 w = jN ((wd aL l W al (m + 1)).2 w)
              rw [en, g3 w hw, h35 w hw]
    · rw [if_neg (show ¬ nI (aL m) = nI l from by rw [nI_eq (by omega) (by omega)]; exact g)]
      unfold F_X12_waysOf_b202
      rw [nm_at, nI_1]
      have en : wd aL l W al (m + 1) = wd aL l W al m := by rw [wd, if_neg g]
      exact hK (c, y) ⟨hy, by rw [en]; exact hc, by rw [en]; exact hF⟩
  · intro q ⟨c, y⟩ ⟨hy, hc, hF⟩
    simp only [] at hy hc hF
    have e13 : mI y 13 = nI W := (hy.1 13 (by simp)).trans h13
    have e25 : mI y 25 = nI n := (hy.1 25 (by simp)).trans h25
    have hcb : (wd aL l W al n).1 ≤ n := wd_bd n
    show An (F_X12_waysOf_b6 (nI f) (nI l) (nI its) (q + 1) c (nI n) y) _
    rw [F_X12_waysOf_b6, e25, if_pos (nI_le (Nat.le_refl n) (by omega)), nm_at, nm_at, hc]
    refine lp_up (fun q2 v (a : Int64) => F_X12_waysOf_b214 (nI f) (nI l) (nI its) q2 (nI (wd aL l W al n).1) a v y) W (fun v a => a = jN (if (wd aL l W al n).1 ≤ 1 then 0 else sm (wd aL l W al n).2 v)) _ ?_ ?_ fu 0 0 (by omega) (by unfold fu; omega) (by split <;> exact jN_0)
    · intro q2 w a hw ha hK2
      show An (F_X12_waysOf_b214 (nI f) (nI l) (nI its) (q2 + 1) (nI (wd aL l W al n).1) a (nI w) y) _
      rw [F_X12_waysOf_b214, e13, if_neg (nI_ge hw (by omega))]
      unfold F_X12_waysOf_b247
      by_cases k1 : (wd aL l W al n).1 ≤ 1
      · rw [if_pos (show nI (wd aL l W al n).1 ≤ 1 from nI_le (b := 1) k1 (by omega))]
        refine An_some ⟨?_, hy⟩
        show a = jN (wo aL W n al l)
        rw [ha, if_pos k1]
        unfold wo
        rw [if_pos k1]
      · rw [if_neg (show ¬ nI (wd aL l W al n).1 ≤ 1 from nI_ge (a := 1) (by omega) (by omega)), agLN (by omega) (by omega), Option.bind_some, nm_at, nm_at, nI_1]
        refine hK2 _ ?_
        rw [ha, if_neg k1, if_neg k1, hF w hw (by omega), jN_add]
        rfl
    · intro q2 a ha
      show An (F_X12_waysOf_b214 (nI f) (nI l) (nI its) (q2 + 1) (nI (wd aL l W al n).1) a (nI W) y) _
      rw [F_X12_waysOf_b214, e13, if_pos (nI_le (Nat.le_refl W) (by omega))]
      unfold F_X12_waysOf_b247
      refine An_some ⟨?_, hy⟩
      show a = jN (wo aL W n al l)
      rw [ha]
      rfl
/-! all letters -/
def pr (g : Nat → Nat) : Nat → Nat
  | 0 => 1
  | l + 1 => pr g l * g l
def cl (L : Nat → Nat) (l : Nat) : Nat → Nat
  | 0 => 0
  | i + 1 => if L i = l then cl L l i + 1 else cl L l i
theorem wd_cl {L : Nat → Nat} {l W : Nat} {al : Nat → Nat → Bool} : ∀ i, (wd L l W al i).1 = cl L l i := by
  intro i
  induction i with
  | zero => rfl
  | succ i ih =>
    rw [wd, cl]
    by_cases c : L i = l
    · rw [if_pos c, if_pos c]; show _ + 1 = _ + 1; rw [ih]
    · rw [if_neg c, if_neg c]; exact ih
def wl (L : Nat → Nat) (W n : Nat) (al : Nat → Nat → Nat → Bool) (l : Nat) : Nat := if cl L l n = 0 then 1 else sm (fun its => wo L W n (al its) l) 26
def wa (L : Nat → Nat) (W n : Nat) (al : Nat → Nat → Nat → Bool) : Nat := if n = 0 then 0 else pr (wl L W n al) 8
theorem waysAll_t {W n f : Nat} {aL : Nat → Nat} {okm : Nat → Nat → Bool} {s : SM} (h : WH W n f aL okm s) : An (F_X12_waysAll s (nI f)) (fun q => q.1 = jN (wa aL W n (alw okm (mA s 32) (mA s 31))) ∧ Fr [] [] wJ s q.2) := by
  have h25 := h.2.2.1
  have h8 := h.2.2.2.1
  obtain ⟨al, ea⟩ : ∃ al, al = alw okm (mA s 32) (mA s 31) := ⟨_, rfl⟩
  rw [← ea]
  unfold F_X12_waysAll
  rw [nm_at, nm_at]
  refine lp_up (fun q v (x : Int64 × SM) => F_X12_waysAll_b5 (nI f) q x.1 v x.2) 8 (fun l x => Fr [] [] wJ s x.2 ∧ x.1 = jN (pr (wl aL W n al) l)) _ ?_ ?_ fu 0 (1, s) (by omega) (by unfold fu; omega) ⟨Fr.rf s, jN_1⟩
  · intro q l ⟨a, y⟩ hl ⟨hy, ha⟩ hK
    simp only [] at hy ha
    have e25 : mI y 25 = nI n := (hy.1 25 (by simp)).trans h25
    show An (F_X12_waysAll_b5 (nI f) (q + 1) a (nI l) y) _
    rw [F_X12_waysAll_b5, if_neg (show ¬ (8 : Int32) ≤ nI l from nI_ge (b := 8) hl (by omega)), nm_at, nm_at]
    refine lp_up (fun q2 v (c : Int32) => F_X12_waysAll_b18 (nI f) (F_X12_waysAll_b5 (nI f) q) q2 a (nI l) c v y) n (fun m c => c = if cl aL l m = 0 then 0 else 1) _ ?_ ?_ fu 0 0 (by omega) (by unfold fu; omega) rfl
    · intro q2 m c hm hc hK2
      have al8 := h.2.2.2.2.2 m hm
      have el := (h.2.2.2.2.1 y (hy.wd (fun _ x => x) (by decide) (fun _ x => x))).1 m hm
      show An (F_X12_waysAll_b18 (nI f) (F_X12_waysAll_b5 (nI f) q) (q2 + 1) a (nI l) c (nI m) y) _
      rw [F_X12_waysAll_b18, e25, if_neg (nI_ge hm (by omega)), el, Option.bind_some]
      unfold F_X12_waysAll_b46
      by_cases g : aL m = l
      · rw [if_pos (show nI (aL m) = nI l from by rw [g]), nm_at, nm_at, nI_1]
        refine hK2 _ ?_
        rw [cl, if_pos g, if_neg (by omega), hc]
        split <;> decide
      · rw [if_neg (show ¬ nI (aL m) = nI l from by rw [nI_eq (by omega) (by omega)]; exact g), nm_at, nm_at, nI_1]
        refine hK2 _ ?_
        rw [cl, if_neg g, hc]
        split <;> decide
    · intro q2 c hc
      show An (F_X12_waysAll_b18 (nI f) (F_X12_waysAll_b5 (nI f) q) (q2 + 1) a (nI l) c (nI n) y) _
      rw [F_X12_waysAll_b18, e25, if_pos (nI_le (Nat.le_refl n) (by omega)), nm_at, nm_at]
      by_cases c0 : cl aL l n = 0
      · rw [if_pos c0] at hc
        obtain ⟨u, eu⟩ : ∃ u, fu = u + 1 := ⟨fu - 1, by unfold fu; omega⟩
        rw [eu, F_X12_waysAll_b61, if_neg (show ¬ (26 : Int32) ≤ 0 from by decide), if_pos hc]
        unfold F_X12_waysAll_b93 F_X12_waysAll_b105
        rw [if_pos hc, nm_at, nm_at, nI_1]
        refine hK (_, y) ⟨hy, ?_⟩
        show a * 1 = jN (pr (wl aL W n al) l * wl aL W n al l)
        rw [ha, jN_1, jN_mul]
        unfold wl
        rw [if_pos c0]
      · rw [if_neg c0] at hc
        have hc0 : ¬ c = 0 := by rw [hc]; decide
        refine lp_up (fun q3 v (x : Int64 × SM) => F_X12_waysAll_b61 (nI f) (F_X12_waysAll_b5 (nI f) q) q3 a (nI l) c x.1 v x.2) 26 (fun t x => Fr [] [] wJ s x.2 ∧ x.1 = jN (sm (fun its => wo aL W n (al its) l) t)) _ ?_ ?_ fu 0 (0, y) (by omega) (by unfold fu; omega) ⟨hy, jN_0⟩
        · intro q3 t ⟨b, z⟩ ht ⟨hz, hb⟩ hK3
          simp only [] at hz hb
          show An (F_X12_waysAll_b61 (nI f) (F_X12_waysAll_b5 (nI f) q) (q3 + 1) a (nI l) c b (nI t) z) _
          rw [F_X12_waysAll_b61, if_neg (show ¬ (26 : Int32) ≤ nI t from nI_ge (b := 26) ht (by omega)), if_neg hc0]
          refine An_bind (waysOf_t (h.fr (hz.wd (fun _ x => x) (by decide) (fun _ x => x))) hl ht) fun q4 ⟨g1, g2⟩ => ?_
          rw [hz.2.1 32 (by decide), hz.2.1 31 (by decide)] at g1
          rw [nm_at, nm_at, nI_1]
          refine hK3 (_, _) ⟨hz.tr g2, ?_⟩
          show b + q4.1 = jN (sm _ t + wo aL W n (al t) l)
          rw [hb, g1, jN_add, ea]
        · intro q3 ⟨b, z⟩ ⟨hz, hb⟩
          simp only [] at hz hb
          show An (F_X12_waysAll_b61 (nI f) (F_X12_waysAll_b5 (nI f) q) (q3 + 1) a (nI l) c b (nI 26) z) _
          rw [F_X12_waysAll_b61, if_pos (show (26 : Int32) ≤ nI 26 from nI_le (a := 26) (by omega) (by omega))]
          unfold F_X12_waysAll_b93 F_X12_waysAll_b105
          rw [if_neg hc0, nm_at, nm_at, nI_1]
          refine hK (_, z) ⟨hz, ?_⟩
          show a * b = jN (pr (wl aL W n al) l * wl aL W n al l)
          rw [ha, hb, jN_mul]
          unfold wl
          rw [if_neg c0]
  · intro q ⟨a, y⟩ ⟨hy, ha⟩
    simp only [] at hy ha
    have e25 : mI y 25 = nI n := (hy.1 25 (by simp)).trans h25
    show An (F_X12_waysAll_b5 (nI f) (q + 1) a (nI 8) y) _
    rw [F_X12_waysAll_b5, if_pos (show (8 : Int32) ≤ nI 8 from nI_le (a := 8) (by omega) (by omega)), e25]
    by_cases c : n = 0
    · rw [if_pos (show nI n = 0 from by rw [c]; rfl)]
      exact An_some ⟨by show (0 : Int64) = jN (wa _ _ _ _); unfold wa; rw [if_pos c]; exact jN_0, hy⟩
    · rw [if_neg (show ¬ nI n = 0 from by rw [show (0 : Int32) = nI 0 from rfl, nI_eq (by omega) (by omega)]; exact c)]
      exact An_some ⟨by show a = jN (wa _ _ _ _); unfold wa; rw [if_neg c]; exact ha, hy⟩

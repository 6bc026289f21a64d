/-! ===== burnt: the reference's answer ===== -/
/-- how many words below W are marked -/
def ctp (p : Nat → Bool) : Nat → Nat
  | 0 => 0
  | w + 1 => ctp p w + if p w = true then 1 else 0
theorem als_alw (okm : Nat → Nat → Bool) (my sd : Nat → Int32) : alw okm my sd = als (fun i w => tb (my i) w && okm i w) sd := by
  funext its i w
  unfold alw als
  show (tb (my i) w && decide (sd w = nI its) && okm i w) = (tb (my i) w && okm i w && decide (sd w = nI its))
  cases tb (my i) w <;> cases decide (sd w = nI its) <;> cases okm i w <;> rfl
theorem lgc {x : Nat} (h : x < 2 ^ 63) : (lg_cmp (jN x) 0 ≤ 0) ↔ x = 0 := by
  have e : (jN x).toInt = x := Int64.toInt_ofNat_of_lt h
  unfold lg_cmp
  by_cases c : x = 0
  · rw [c]
    exact ⟨fun _ => rfl, fun _ => by decide⟩
  · rw [if_pos (show (0 : Int64) < jN x from Int64.lt_iff_toInt_lt.mpr (by rw [e, show (0 : Int64).toInt = 0 from by decide]; omega))]
    exact ⟨fun q => absurd q (by decide), fun q => absurd q c⟩
theorem wa_cg {L : Nat → Nat} {W n : Nat} {ok ok2 : Nat → Nat → Bool} {sd sd2 : Nat → Int32} (h : ∀ i w, i < n → w < W → ok i w = ok2 i w) (hs : ∀ w, w < W → sd w = sd2 w) : wa L W n (als ok sd) = wa L W n (als ok2 sd2) := by
  unfold wa
  have e : ∀ l, wl L W n (als ok sd) l = wl L W n (als ok2 sd2) l := by
    intro l
    unfold wl wo
    rw [sm_cg fun its _ => show (if (wd L l W (als ok sd its) n).1 ≤ 1 then 0 else sm (wd L l W (als ok sd its) n).2 W) = (if (wd L l W (als ok2 sd2 its) n).1 ≤ 1 then 0 else sm (wd L l W (als ok2 sd2 its) n).2 W) from by
      rw [wd_cnt L l W (als ok sd its) (als ok2 sd2 its) n, sm_cg (wd_cg (al := als ok sd its) (al2 := als ok2 sd2 its) fun j hj _ v hv => by unfold als; rw [h j v hj hv, hs v hv])]]
  rw [pr_cg fun l _ => e l]
theorem pow16 {n x : Nat} (hn : n ≤ 8) (h : x ≤ 16 ^ n) : x < 2 ^ 63 := by
  have : 16 ^ n ≤ 16 ^ 8 := Nat.pow_le_pow_right (by decide) hn
  omega
def bP (W n : Nat) (aL : Nat → Nat) (ok : Nat → Nat → Bool) (un : Nat → Nat → Bool) (sd : Nat → Int32) (x4 : Int32) (s : SM) (q : Int64 × SM) : Prop := Fr [] [32] wJ s q.2 ∧ ((x4 = -1 ∧ q.1 = jN (wa aL W n (als ok sd))) ∨ ∃ i, i < n ∧ x4 = nI i ∧ q.1 = jN (ctp (fun w => un i w && decide (0 < wa aL W n (als (one ok i w) sd))) W))
theorem burntM_v {W n f : Nat} {aL : Nat → Nat} {okm : Nat → Nat → Bool} {pw : Nat → Nat} {s : SM} (h : WH W n f aL okm s) (hsd : ∀ w, w < W → Lb (mA s 31 w) 26) (hpw : ∀ i, i < n → mA s 21 (1 + 3 * i) = nI (pw i) ∧ pw i < W) (x2 set : Int32) {x4 : Int32} {ok un : Nat → Nat → Bool} (hun : ∀ i w, i < n → w < W → un i w = (tb set i || decide (w = pw i))) (hok : ∀ i w, i < n → w < W → ok i w = (un i w && okm i w)) (h4 : x4 = -1 ∨ ∃ i, i < n ∧ x4 = nI i) : An (F_X12_burnt_b45 (nI f) x2 set x4 fu (nI 0) s) (bP W n aL ok un (mA s 31) x4 s) := by
  have h25 := h.2.2.1
  have h8 := h.2.2.2.1
  have h13 := h.1
  have h16 := h.2.1
  refine lp_up (fun q v z => F_X12_burnt_b45 (nI f) x2 set x4 q v z) n (fun m z => Fr [] [32] wJ s z ∧ ∀ j, j < m → ∀ w, w < W → tb (mA z 32 j) w = un j w) _ ?_ ?_ fu 0 s (by omega) (by unfold fu; omega) ⟨Fr.rf s, fun j hj => by omega⟩
  · intro q m y hm ⟨hy, hb⟩ hK
    obtain ⟨p1, p2⟩ := hpw m hm
    have e25 : mI y 25 = nI n := (hy.1 25 (by simp)).trans h25
    have e13 : mI y 13 = nI W := (hy.1 13 (by simp)).trans h13
    show An (F_X12_burnt_b45 (nI f) x2 set x4 (q + 1) (nI m) y) _
    rw [F_X12_burnt_b45, e25, if_neg (nI_ge hm (by omega))]
    have k94 : ∀ v : Int32, (∀ w, w < W → tb v w = un m w) → An (F_X12_burnt_b94 (nI f) x2 set x4 (F_X12_burnt_b45 (nI f) x2 set x4 q) (nI m) y (nI m) v) (bP W n aL ok un (mA s 31) x4 s) := by
      intro v hv
      unfold F_X12_burnt_b94
      rw [asN v (by omega) (by omega), Option.bind_some, nm_at, nm_at, nI_1]
      refine hK _ ⟨hy.a 32 _ (by decide), fun j hj w hw => ?_⟩
      rw [q_aa, if_pos rfl, u_at]
      by_cases e : j = m
      · rw [if_pos e, e]; exact hv w hw
      · rw [if_neg e]; exact hb j (by omega) w hw
    by_cases c : tb set m = true
    · rw [if_pos (show (set >>> (nI m &&& 31)) &&& 1 = 1 from by rw [tb_sh1 _ (by omega)]; exact c), e13]
      refine k94 _ fun w hw => ?_
      rw [tb_ones (by omega) w (by omega), hun m w hm hw, c]
      simp [hw]
    · rw [if_neg (show ¬ (set >>> (nI m &&& 31)) &&& 1 = 1 from by rw [tb_sh1 _ (by omega)]; exact c), show (1 : Int32) + 3 * nI m = nI (1 + 3 * m) from by rw [show (3 : Int32) * nI m = nI (3 * m) from nI_mul 3 m]; exact nI_add 1 _, agN (by omega) (by omega), Option.bind_some, hy.2.1 21 (by decide), p1]
      refine k94 _ fun w hw => ?_
      rw [tb_nI (by omega) w (by omega), hun m w hm hw]
      simp [c]
  · intro q y ⟨hy, hb⟩
    have e25 : mI y 25 = nI n := (hy.1 25 (by simp)).trans h25
    have e31 : mA y 31 = mA s 31 := hy.2.1 31 (by decide)
    show An (F_X12_burnt_b45 (nI f) x2 set x4 (q + 1) (nI n) y) _
    rw [F_X12_burnt_b45, e25, if_pos (nI_le (Nat.le_refl n) (by omega))]
    rcases h4 with h4 | ⟨i, hi, h4⟩
    · rw [if_neg (show ¬ (0 : Int32) ≤ x4 from by rw [h4]; decide)]
      refine An_bind (waysAll_t (h.fr hy)) fun q2 ⟨g1, g2⟩ => An_some ⟨hy.tr (g2.wd (by simp) (by simp) (fun _ x => x)), Or.inl ⟨h4, ?_⟩⟩
      show q2.1 = _
      rw [g1, als_alw, wa_cg (ok := fun i w => tb (mA y 32 i) w && okm i w) (ok2 := ok) (sd2 := mA s 31) (fun j w hj hw => by rw [hok j w hj hw, hb j hj w hw]) fun w _ => by rw [e31]]
    · rw [if_pos (show (0 : Int32) ≤ x4 from by rw [h4]; exact nI_pos' (by omega)), h4, agN (by omega) (by omega), Option.bind_some, nm_at, nm_at, nm_at]
      refine An_mono (P := fun q => Fr [] [32] wJ s q.2 ∧ q.1 = jN (ctp (fun w => un i w && decide (0 < wa aL W n (als (one ok i w) (mA s 31)))) W)) ?_ fun q2 g => ⟨g.1, Or.inr ⟨i, hi, rfl, g.2⟩⟩
      refine lp_up (fun q2 v (x : Int64 × SM) => F_X12_burnt_b127 (nI f) x2 set (nI i) q2 (mA y 32 i) x.1 v x.2) W (fun w x => Fr [] [32] wJ s x.2 ∧ (∀ j, ¬ j = i → mA x.2 32 j = mA y 32 j) ∧ x.1 = jN (ctp (fun w => un i w && decide (0 < wa aL W n (als (one ok i w) (mA s 31)))) w)) _ ?_ ?_ fu 0 (0, y) (by omega) (by unfold fu; omega) ⟨hy, fun _ _ => rfl, jN_0⟩
      · intro q2 w ⟨a, z⟩ hw ⟨hz, ho, ha⟩ hK2
        simp only [] at hz ho ha
        have z13 : mI z 13 = nI W := (hz.1 13 (by simp)).trans h13
        show An (F_X12_burnt_b127 (nI f) x2 set (nI i) (q2 + 1) (mA y 32 i) a (nI w) z) _
        rw [F_X12_burnt_b127, z13, if_neg (nI_ge hw (by omega)), asN _ (by omega) (by omega), Option.bind_some, nm_at]
        obtain ⟨z1, ez⟩ : ∃ z1, z1 = mAs z 32 (upd (mA z 32) i (mA y 32 i &&& (1 <<< (nI w &&& 31)))) := ⟨_, rfl⟩
        rw [← ez]
        have f1 : Fr [] [32] wJ s z1 := by rw [ez]; exact hz.a 32 _ (by decide)
        have k1 : mA z1 32 i = mA y 32 i &&& (1 <<< (nI w &&& 31)) := by rw [ez, q_aa, if_pos rfl, u_at, if_pos rfl]
        have o1 : ∀ j, ¬ j = i → mA z1 32 j = mA y 32 j := fun j hj => by rw [ez, q_aa, if_pos rfl, u_at, if_neg hj]; exact ho j hj
        have k177 : ∀ (z2 : SM) (b : Nat), Fr [] [32] wJ s z2 → (∀ j, ¬ j = i → mA z2 32 j = mA y 32 j) → b = (if (un i w && decide (0 < wa aL W n (als (one ok i w) (mA s 31)))) = true then 1 else 0) → An (F_X12_burnt_b177 (nI f) x2 set (nI i) (F_X12_burnt_b127 (nI f) x2 set (nI i) q2) (mA y 32 i) (nI w) z2 a (jN b)) (fun q => Fr [] [32] wJ s q.2 ∧ q.1 = jN (ctp (fun w => un i w && decide (0 < wa aL W n (als (one ok i w) (mA s 31)))) W)) := by
          intro z2 b g1 g2 g3
          unfold F_X12_burnt_b177
          rw [nm_at, nm_at, nI_1]
          refine hK2 (_, z2) ⟨g1, g2, ?_⟩
          show a + jN b = jN (ctp _ w + _)
          rw [ha, jN_add, g3]
        rw [agN (by omega) (by omega), Option.bind_some, k1]
        unfold F_X12_burnt_b176
        by_cases c : tb (mA y 32 i) w = true
        · rw [if_neg (fun e => by rw [(and_0 (by omega)).mp e] at c; cases c)]
          refine An_bind (waysAll_t (h.fr f1)) fun q3 ⟨g1, g2⟩ => ?_
          have f2 : Fr [] [32] wJ s q3.2 := f1.tr (g2.wd (by simp) (by simp) (fun _ x => x))
          have o2 : ∀ j, ¬ j = i → mA q3.2 32 j = mA y 32 j := fun j hj => by rw [g2.2.1 32 (by decide)]; exact o1 j hj
          have ew : wa aL W n (alw okm (mA z1 32) (mA z1 31)) = wa aL W n (als (one ok i w) (mA s 31)) := by
            rw [als_alw]
            refine wa_cg (fun j v hj hv => ?_) fun v _ => by rw [f1.2.1 31 (by decide)]
            unfold one
            by_cases e : j = i
            · rw [if_pos e, e, k1, tb_and, tb_nI (by omega) v (by omega), hok i v hi hv, hb i hi v hv]
              cases un i v <;> cases decide (v = w) <;> cases okm i v <;> rfl
            · rw [if_neg e, o1 j e, hok j v hj hv, hb j hj v hv]
          have hu : un i w = true := by rw [← hb i hi w hw]; exact c
          rw [ew] at g1
          have hlt := pow16 h8 (wa_bd (L := aL) (n := n) (ok := one ok i w) h16 hsd)
          rw [g1]
          by_cases e : wa aL W n (als (one ok i w) (mA s 31)) = 0
          · rw [if_pos ((lgc hlt).mpr e), jN_0]
            exact k177 q3.2 0 f2 o2 (by rw [if_neg (by rw [e]; simp)])
          · rw [if_neg (fun q => e ((lgc hlt).mp q)), jN_1]
            exact k177 q3.2 1 f2 o2 (by rw [if_pos (by rw [hu]; simp; omega)])
        · rw [if_pos ((and_0 (by omega)).mpr (by simpa using c)), jN_0]
          have hu : un i w = false := by rw [← hb i hi w hw]; simpa using c
          exact k177 z1 0 f1 o1 (by rw [if_neg (by rw [hu]; simp)])
      · intro q2 ⟨a, z⟩ ⟨hz, ho, ha⟩
        simp only [] at hz ho ha
        have z13 : mI z 13 = nI W := (hz.1 13 (by simp)).trans h13
        show An (F_X12_burnt_b127 (nI f) x2 set (nI i) (q2 + 1) (mA y 32 i) a (nI W) z) _
        rw [F_X12_burnt_b127, z13, if_pos (nI_le (Nat.le_refl W) (by omega))]
        exact An_some ⟨hz, ha⟩

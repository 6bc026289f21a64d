/-! ===== mended: the class's row ===== -/
theorem cow_le {pw : Nat → Nat} (i w : Nat) : cow pw i w ≤ 1 := by
  unfold cow
  split <;> omega
theorem sm_if {g : Nat → Nat} {a c : Nat} : ∀ m, sm (fun l => if a = l then g l + c else g l) m = sm g m + if a < m then c else 0 := by
  intro m
  induction m with
  | zero => rfl
  | succ m ih =>
    rw [sm, sm, ih]
    by_cases e : a = m
    · rw [if_pos e, if_neg (by omega), if_pos (by omega)]; omega
    · rw [if_neg e]
      by_cases d : a < m
      · rw [if_pos d, if_pos (by omega)]; omega
      · rw [if_neg d, if_neg (by omega)]; omega
theorem cost_ts {L : Nat → Nat} {co : Nat → Nat → Nat} {r : Nat → Nat} : ∀ n, (∀ i, i < n → L i < 8) → cost L n co r = sm (fun i => co i (r i)) n := by
  intro n
  induction n with
  | zero =>
    intro _
    unfold cost
    rfl
  | succ n ih =>
    intro h
    have e := ih fun i hi => h i (by omega)
    have e2 : cost L (n + 1) co r = sm (fun l => if L n = l then hd L l co r n + co n (r n) else hd L l co r n) 8 := by
      unfold cost
      exact sm_cg fun l _ => by rw [hd]
    rw [e2, sm_if (g := fun l => hd L l co r n), if_pos (h n (by omega))]
    show sm (fun l => hd L l co r n) 8 + co n (r n) = sm (fun i => co i (r i)) n + co n (r n)
    rw [← e]
    rfl
def mdP (L : Nat → Nat) (W P : Nat) (ok : Nat → Nat → Bool) (sd : Nat → Int32) (pw : Nat → Nat) (q : Int32 × S3) : Prop := (∃ R, PRS L P ∧ (∀ i, i < P → GR L W P ok sd (cow pw) R i ∧ s3_row q.2 i = nI (R i)) ∧ q.1 = nI (sm (fun i => cow pw i (R i)) P)) ∨ (q.1 = -9 ∧ (¬ PRS L P ∨ ∀ r, ¬ VL L W P ok sd r))
theorem mend_t {t7 : S7} {t10 : S10} {t1 : S1} {tp : S4} {W F P f d : Nat} {rf rm rw sd bf : Nat → Int32} {pw : Nat → Nat} (h : GM t7 t10 t1 tp W F P f d rf rm rw sd pw bf) {ok : Nat → Nat → Bool} (hok : ∀ i w, i < P → w < W → ok i w = (decide (rw (4 * w + 2) = rw (4 * pw i + 2)) && okv rm rw (vL rf f i) w (bf i))) (s : S3) : An (F_X3_mend t7 s t1 tp t10 (nI f) (nI d)) (mdP (vL rf f) W P ok sd pw) := by
  have hG := h
  obtain ⟨hM, hW, hF, hf, hp, h8, hd3, hs, hpp⟩ := h
  have h16 := hW.1
  have hz := hW.2.1
  have hL : ∀ i, vL rf f i < 8 := fun i => (vL_lt hF hf i).1
  unfold F_X3_mend F_X4_size
  rw [hp, Option.bind_some, nm_at]
  refine An_bind (pairs_s hF hf (by omega)) fun b hb => ?_
  rcases hb with ⟨eb, hb⟩ | ⟨eb, hb⟩
  · rw [if_neg (show ¬ b = 0 from by rw [eb]; decide), nm_at]
    refine lp_dn (fun q v (z : S3) => F_X3_mend_b31 t7 t1 tp t10 (nI f) (nI d) q (nI P) v z) (fun m z => m ≤ P ∧ ∀ j v, m ≤ j → j < P → v < W → s3_costs z (16 * j + v) = nI (ck (vL rf f) W P ok sd (cow pw) j v)) _ ?_ ?_ fu P s (by unfold fu; omega) ⟨Nat.le_refl P, fun j v h1 h2 => by omega⟩
    · intro q m z ⟨hm, hj⟩ hK
      show An (F_X3_mend_b31 t7 t1 tp t10 (nI f) (nI d) (q + 1) (nI P) (nI m) z) _
      rw [F_X3_mend_b31, if_neg (nI_pos (by omega))]
      refine An_bind (weigh3_t hG (by omega) (fun w hw => hok m w (by omega) hw) (fun j v h1 h2 h3 => hj j v (by omega) h2 h3)) fun z2 ⟨g1, g2, g3⟩ => ?_
      rw [nm_at]
      refine hK z2 ⟨by omega, fun j v h1 h2 h3 => ?_⟩
      by_cases e : j = m
      · rw [e]; exact g3 v h3
      · rw [g2 j v e (by omega)]; exact hj j v (by omega) h2 h3
    · intro q z ⟨_, hj⟩
      show An (F_X3_mend_b31 t7 t1 tp t10 (nI f) (nI d) (q + 1) (nI P) (nI 0 - 1) z) _
      rw [F_X3_mend_b31, if_pos (show nI 0 - 1 < 0 from by decide), nm_at, nm_at]
      refine lp_up (fun q v (x : Int32 × S3) => F_X3_mend_b57 t7 t1 tp t10 (nI f) (nI d) q (nI P) x.1 v x.2) P (fun m x => (∀ j v, j < P → v < W → s3_costs x.2 (16 * j + v) = nI (ck (vL rf f) W P ok sd (cow pw) j v)) ∧ ∃ R, (∀ i, i < m → GR (vL rf f) W P ok sd (cow pw) R i ∧ s3_row x.2 i = nI (R i)) ∧ x.1 = nI (sm (fun i => cow pw i (R i)) m)) _ ?_ ?_ fu 0 (0, z) (by omega) (by unfold fu; omega) ⟨fun j v h1 h2 => hj j v (by omega) h1 h2, fun _ => 0, fun i hi => by omega, rfl⟩
      · intro q2 m ⟨c, y⟩ hm ⟨hc, R, hR, hs2⟩ hK
        simp only [] at hc hR hs2
        obtain ⟨p1, p2, -⟩ := hpp m hm
        show An (F_X3_mend_b57 t7 t1 tp t10 (nI f) (nI d) (q2 + 1) (nI P) c (nI m) y) _
        rw [F_X3_mend_b57, if_neg (nI_ge hm (by omega))]
        have k99 : ∀ (x4 : Int32) (rr : Nat → Bool), ((x4 = -1 ∧ ∀ v, rr v = true) ∨ ∃ w, w < W ∧ x4 = nI w ∧ ∀ v, rr v = rhv sd w v) → (mv (fun v => if rr v = true then ck (vL rf f) W P ok sd (cow pw) m v else 1000) W = 1000 → ∀ r, ¬ VL (vL rf f) W P ok sd r) → (∀ u, u < W → rr u = true → ck (vL rf f) W P ok sd (cow pw) m u < 1000 → (∀ v, v < W → rr v = true → ck (vL rf f) W P ok sd (cow pw) m u ≤ ck (vL rf f) W P ok sd (cow pw) m v) → (∀ v, v < u → rr v = true → ck (vL rf f) W P ok sd (cow pw) m u < ck (vL rf f) W P ok sd (cow pw) m v) → ∀ R2 : Nat → Nat, R2 m = u → (∀ j, j < m → R2 j = R j) → GR (vL rf f) W P ok sd (cow pw) R2 m) → An (F_X3_mend_b99 t7 t1 tp t10 (nI f) (nI d) (F_X3_mend_b57 t7 t1 tp t10 (nI f) (nI d) q2) (nI P) c (nI m) y (nI d) (nI m) x4) (mdP (vL rf f) W P ok sd pw) := by
          intro x4 rr hx hno hgr
          unfold F_X3_mend_b99
          refine An_bind (best_t (g := ck (vL rf f) W P ok sd (cow pw) m) (rr := rr) hz h16 hd3 hs (by omega) (fun v hv => ⟨hc m v hm hv, ck_bd⟩) hx) fun b hbs => ?_
          rw [nm_at]
          rcases hbs with ⟨b1, b2⟩ | ⟨u, u1, b1, b2, b3, b4⟩
          · rw [if_neg (show ¬ (0 : Int32) ≤ b from by rw [b1]; decide)]
            exact An_some (Or.inr ⟨rfl, Or.inr (hno b2)⟩)
          · have b2 : (if rr u = true then ck (vL rf f) W P ok sd (cow pw) m u else 1000) = mv (fun v => if rr v = true then ck (vL rf f) W P ok sd (cow pw) m v else 1000) W := b2
            have er : rr u = true := Decidable.byContradiction fun q => by rw [if_neg q] at b2; omega
            rw [if_pos er] at b2
            have hg := hgr u u1 er (by omega) (fun v hv hr => by
              have : mv (fun v => if rr v = true then ck (vL rf f) W P ok sd (cow pw) m v else 1000) W ≤ (if rr v = true then ck (vL rf f) W P ok sd (cow pw) m v else 1000) := mv_at (g := fun v => if rr v = true then ck (vL rf f) W P ok sd (cow pw) m v else 1000) hv
              rw [if_pos hr] at this
              omega) (fun v hv hr => by
              have : mv (fun v => if rr v = true then ck (vL rf f) W P ok sd (cow pw) m v else 1000) W < (if rr v = true then ck (vL rf f) W P ok sd (cow pw) m v else 1000) := b4 v hv
              rw [if_pos hr] at this
              omega) (fun j => if j = m then u else R j) (if_pos rfl) fun j hj => if_neg (by omega)
            have es : sm (fun i => cow pw i (if i = m then u else R i)) m = sm (fun i => cow pw i (R i)) m := sm_cg fun i hi => by
              show cow pw i (if i = m then u else R i) = cow pw i (R i)
              rw [if_neg (by omega)]
            have k144 : ∀ x : Nat, x = cow pw m u → An (F_X3_mend_b144 t7 t1 tp t10 (nI f) (nI d) (F_X3_mend_b57 t7 t1 tp t10 (nI f) (nI d) q2) (nI P) (nI m) (u3_row y (setv 8 (s3_row y) (nI m) (nI u))) c (nI x)) (mdP (vL rf f) W P ok sd pw) := by
              intro x ex
              unfold F_X3_mend_b144
              rw [nm_at, nm_at, nI_1]
              refine hK (_, _) ⟨hc, fun j => if j = m then u else R j, fun i hi => ?_, ?_⟩
              · show GR (vL rf f) W P ok sd (cow pw) (fun j => if j = m then u else R j) i ∧ setv 8 (s3_row y) (nI m) (nI u) i = nI (if i = m then u else R i)
                rw [setvN (by omega) (by omega), u_at]
                by_cases e : i = m
                · rw [if_pos e, if_pos e, e]
                  exact ⟨hg, rfl⟩
                · rw [if_neg e, if_neg e]
                  exact ⟨GR_cg (hR i (by omega)).1 fun j hj => if_neg (by omega), (hR i (by omega)).2⟩
              · show c + nI x = nI (sm (fun i => cow pw i (if i = m then u else R i)) (m + 1))
                rw [hs2, nI_add, sm, if_pos rfl, ex, es]
            rw [if_pos (show (0 : Int32) ≤ b from by rw [b1]; exact nI_pos' (by omega)), set_total (by omega), Option.bind_some, wordAt_t, Option.bind_some, p1, b1]
            by_cases e : u = pw m
            · rw [if_pos (show nI u = nI (pw m) from by rw [e])]
              exact k144 0 (by unfold cow; rw [if_pos e])
            · rw [if_neg (show ¬ nI u = nI (pw m) from by rw [nI_eq (by omega) (by omega)]; exact e)]
              exact k144 1 (by unfold cow; rw [if_neg e])
        refine An_bind (ahead_s hF hf (by omega)) fun aa hh => ?_
        rw [nm_at]
        rcases hh with ⟨ea, na⟩ | ⟨a, a1, a2, a3, ea⟩
        · rw [if_neg (show ¬ (0 : Int32) ≤ aa from by rw [ea]; decide)]
          refine k99 (-1) (fun _ => true) (Or.inl ⟨rfl, fun _ => rfl⟩) (fun e r hr => ?_) fun u u1 _ u2 u3 u4 R2 r1 _ => ?_
          · obtain ⟨its, -, hv⟩ := hr (vL rf f m) (hL m)
            have q1 := mv_at (g := fun v => if true = true then ck (vL rf f) W P ok sd (cow pw) m v else 1000) (hv m hm rfl).1
            have q1 : mv (fun v => if true = true then ck (vL rf f) W P ok sd (cow pw) m v else 1000) W ≤ (if true = true then ck (vL rf f) W P ok sd (cow pw) m (r m) else 1000) := q1
            have e : mv (fun v => if true = true then ck (vL rf f) W P ok sd (cow pw) m v else 1000) W = 1000 := e
            rw [e, if_pos rfl] at q1
            have q2 := ck_le (co := cow pw) hv hm
            have q3 := tl_bd (L := vL rf f) (l := vL rf f m) (r := r) (n := P) (cow_le (pw := pw)) (P - (m + 1))
            have q4 := cow_le (pw := pw) m (r m)
            omega
          · unfold GR
            rw [r1]
            exact ⟨u1, u2, Or.inl ⟨na, fun v hv => u3 v hv rfl, fun v hv => u4 v hv rfl⟩⟩
        · obtain ⟨gr, er⟩ := hR a a1
          rw [if_pos (show (0 : Int32) ≤ aa from by rw [ea]; exact nI_pos' (by omega)), ea]
          unfold F_X3_wordAt
          rw [at_total (by omega), Option.bind_some, atvN (by omega) (by omega), Option.bind_some, er]
          refine k99 (nI (R a)) (rhv sd (R a)) (Or.inr ⟨R a, gr.1, rfl, fun _ => rfl⟩) (fun e r _ => ?_) fun u u1 ur u2 u3 u4 R2 r1 r2 => ?_
          · have q1 := (ck_lt gr.2.1).2
            have q2 := lc_ah (W := W) (ok := ok) (sd := sd) (co := cow pw) a1 hm a2.symm (fun x h1 h2 => by rw [a2]; exact a3 x h1 h2) (R a)
            have q3 := gr.2.1
            omega
          · unfold GR
            rw [r1]
            exact ⟨u1, u2, Or.inr ⟨a, a1, a2, a3, by rw [r2 a a1]; exact ur, by rw [r2 a a1]; exact u3, by rw [r2 a a1]; exact u4⟩⟩
      · intro q2 ⟨c, y⟩ ⟨_, R, hR, hs2⟩
        simp only [] at hR hs2
        show An (F_X3_mend_b57 t7 t1 tp t10 (nI f) (nI d) (q2 + 1) (nI P) c (nI P) y) _
        rw [F_X3_mend_b57, if_pos (nI_le (Nat.le_refl P) (by omega))]
        exact An_some (Or.inl ⟨R, hb, hR, hs2⟩)
  · rw [if_pos eb]
    exact An_some (Or.inr ⟨rfl, Or.inl hb⟩)

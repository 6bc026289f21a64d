/-! ===== burnt: the words that a line can have ===== -/
/-- the word w can stand at line i -/
def psb (L : Nat → Nat) (W n : Nat) (ok : Nat → Nat → Bool) (sd : Nat → Int32) (i w : Nat) : Bool := decide (0 < fw L W ok sd i w * cm L (L i) W n ok sd (n - (i + 1)) w)
theorem wd_skip {L : Nat → Nat} {l W : Nat} {al : Nat → Nat → Bool} {a : Nat} : ∀ i, a ≤ i → (∀ m, a ≤ m → m < i → ¬ L m = l) → wd L l W al i = wd L l W al a := by
  intro i
  induction i with
  | zero => intro h _; rw [show a = 0 from by omega]
  | succ i ih =>
    intro h hn
    by_cases c : a = i + 1
    · rw [c]
    · rw [wd, if_neg (hn i (by omega) (by omega))]
      exact ih (by omega) fun m h1 h2 => hn m h1 (by omega)
theorem mul_pos2 {a b : Nat} : 0 < a * b ↔ 0 < a ∧ 0 < b := by
  constructor
  · intro h
    exact ⟨Nat.pos_of_ne_zero fun e => by rw [e, Nat.zero_mul] at h; omega, Nat.pos_of_ne_zero fun e => by rw [e, Nat.mul_zero] at h; omega⟩
  · intro h; exact Nat.mul_pos h.1 h.2
theorem ps_ah {L : Nat → Nat} {W n : Nat} {ok : Nat → Nat → Bool} {sd : Nat → Int32} (hsd : ∀ w, w < W → Lb (sd w) 26) {i w : Nat} (hi : i < n) (hw : w < W) {r : Int32} (hr : ahS L i r) : (r = -1 ∧ (psb L W n ok sd i w = true ↔ 0 < bk L W n ok sd i w)) ∨ ∃ a, a < i ∧ r = nI a ∧ (psb L W n ok sd i w = true ↔ 0 < bk L W n ok sd i w ∧ ∃ u, u < W ∧ psb L W n ok sd a u = true ∧ rhv sd u w = true) := by
  have hfw : ∀ u, fw L W ok sd i u = if als ok sd (cn (sd u)) i u = true then (if (wd L (L i) W (als ok sd (cn (sd u))) i).1 = 0 then 1 else sm (fun v => if v = u then 0 else (wd L (L i) W (als ok sd (cn (sd u))) i).2 v) W) else 0 := by
    intro u
    unfold fw
    rw [wd, if_pos rfl]
  obtain ⟨t, ht, et⟩ := hsd w hw
  have ct : cn (sd w) = t := by rw [et, cn_nI (by omega)]
  have ea : als ok sd (cn (sd w)) i w = ok i w := by
    unfold als
    rw [ct]; simp [et]
  have hb : 0 < bk L W n ok sd i w ↔ ok i w = true ∧ 0 < cm L (L i) W n ok sd (n - (i + 1)) w := by
    unfold bk
    by_cases c : ok i w = true
    · rw [if_pos c]; exact ⟨fun h => ⟨c, h⟩, fun h => h.2⟩
    · rw [if_neg c]; exact ⟨fun h => by omega, fun h => absurd h.1 c⟩
  have hps : psb L W n ok sd i w = true ↔ 0 < fw L W ok sd i w ∧ 0 < cm L (L i) W n ok sd (n - (i + 1)) w := by
    unfold psb
    rw [decide_eq_true_iff, mul_pos2]
  rcases hr with ⟨er, hn⟩ | ⟨a, a1, a2, a3, er⟩
  · refine Or.inl ⟨er, ?_⟩
    rw [hps, hb, hfw, ea, wd_none i hn]
    by_cases c : ok i w = true
    · rw [if_pos c, if_pos rfl]; exact ⟨fun h => ⟨c, h.2⟩, fun h => ⟨Nat.one_pos, h.2⟩⟩
    · rw [if_neg c]; exact ⟨fun h => absurd h.1 (by omega), fun h => absurd h.1 c⟩
  · refine Or.inr ⟨a, a1, er, ?_⟩
    have hsk : ∀ al, wd L (L i) W al i = wd L (L i) W al (a + 1) := fun al => wd_skip i (by omega) fun m h1 h2 => a3 m (by omega) h2
    have hps2 : ∀ u, psb L W n ok sd a u = true ↔ 0 < fw L W ok sd a u ∧ 0 < cm L (L a) W n ok sd (n - (a + 1)) u := by
      intro u
      unfold psb
      rw [decide_eq_true_iff, mul_pos2]
    have hp1 : ∀ al, ¬ (wd L (L i) W al (a + 1)).1 = 0 := fun al => by
      have := wd_pos (W := W) (al := al) a2 (a + 1) (by omega)
      omega
    rw [hps, hb, hfw, ea, hsk, if_neg (hp1 _), ct]
    -- on from a word ahead
    have hon : ∀ u, rhv sd u w = true → ok i w = true → 0 < cm L (L i) W n ok sd (n - (i + 1)) w → 0 < cm L (L a) W n ok sd (n - (a + 1)) u := by
      intro u h1 h2 h3
      rw [a2, cm_skip (l := L i) (i - (a + 1)) (a + 1) (fun m q1 q2 => a3 m (by omega) (by omega)) (by omega), show n - (a + 1 + (i - (a + 1))) = (n - (i + 1)) + 1 from by omega, cm, show n - (n - (i + 1) + 1) = i from by omega, if_pos rfl]
      refine Nat.lt_of_lt_of_le h3 (Nat.le_trans ?_ (sm_at (g := fun v => if (rhv sd u v && ok i v) = true then cm L (L i) W n ok sd (n - (i + 1)) v else 0) hw))
      show _ ≤ if (rhv sd u w && ok i w) = true then cm L (L i) W n ok sd (n - (i + 1)) w else 0
      rw [if_pos (by rw [h1, h2]; rfl)]
      exact Nat.le_refl _
    constructor
    · intro ⟨h1, h2⟩
      by_cases c : ok i w = true
      · rw [if_pos c] at h1
        obtain ⟨u, hu, h3⟩ := sm_pos h1
        by_cases e : u = w
        · rw [if_pos e] at h3; omega
        · rw [if_neg e] at h3
          have es := wd_sup (a + 1) u (show ¬ (wd L (L i) W (als ok sd t) (a + 1)).2 u = 0 from by omega)
          have hr : rhv sd u w = true := by unfold rhv; simp [e, es, et]
          refine ⟨⟨c, h2⟩, u, hu, (hps2 u).mpr ⟨?_, hon u hr c h2⟩, hr⟩
          unfold fw
          rw [a2, es, cn_nI (by omega)]
          exact h3
      · rw [if_neg c] at h1; omega
    · intro ⟨⟨c, h2⟩, u, hu, h3, h4⟩
      rw [if_pos c]
      refine ⟨?_, h2⟩
      have h5 := ((hps2 u).mp h3).1
      unfold rhv at h4
      simp only [Bool.and_eq_true, decide_eq_true_eq] at h4
      unfold fw at h5
      rw [a2, h4.2, ct] at h5
      refine Nat.lt_of_lt_of_le h5 (Nat.le_trans ?_ (sm_at (g := fun v => if v = w then 0 else (wd L (L i) W (als ok sd t) (a + 1)).2 v) hu))
      show _ ≤ if u = w then 0 else (wd L (L i) W (als ok sd t) (a + 1)).2 u
      rw [if_neg h4.1]
      exact Nat.le_refl _

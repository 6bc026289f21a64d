/-! ===== how many of sixteen bits ===== -/
def bcN (x : Nat) : Nat :=
  (fun a => (fun b => (fun c => (fun d => Nat.land (Nat.add d (Nat.shiftRight d 16)) 63) (Nat.add c (Nat.shiftRight c 8))) (Nat.land (Nat.add b (Nat.shiftRight b 4)) 252645135)) (Nat.add (Nat.land a 858993459) (Nat.land (Nat.shiftRight a 2) 858993459))) (Nat.sub x (Nat.land (Nat.shiftRight x 1) 1431655765))
def tbN (x k : Nat) : Nat := Nat.land (Nat.shiftRight x k) 1
def scN (x : Nat) : Nat := Nat.add (Nat.add (Nat.add (Nat.add (Nat.add (Nat.add (Nat.add (Nat.add (Nat.add (Nat.add (Nat.add (Nat.add (Nat.add (Nat.add (Nat.add (tbN x 0) (tbN x 1)) (tbN x 2)) (tbN x 3)) (tbN x 4)) (tbN x 5)) (tbN x 6)) (tbN x 7)) (tbN x 8)) (tbN x 9)) (tbN x 10)) (tbN x 11)) (tbN x 12)) (tbN x 13)) (tbN x 14)) (tbN x 15)
noncomputable def ckN (c n : Nat) : Bool := Nat.rec true (fun i b => Nat.beq (bcN (Nat.add c i)) (scN (Nat.add c i)) && b) n
theorem ckN_s (c n : Nat) : ckN c (n + 1) = (Nat.beq (bcN (Nat.add c n)) (scN (Nat.add c n)) && ckN c n) := rfl
theorem ckN_at {c : Nat} : ∀ {n : Nat}, ckN c n = true → ∀ i, i < n → bcN (c + i) = scN (c + i) := by
  intro n
  induction n with
  | zero => intro _ i hi; omega
  | succ n ih =>
    intro h i hi
    rw [ckN_s, Bool.and_eq_true] at h
    by_cases e : i = n
    · rw [e]; exact Nat.eq_of_beq_eq_true h.1
    · exact ih h.2 i (by omega)
theorem bc_k0 : ckN 0 4096 = true := by decide +kernel
theorem bc_k1 : ckN 4096 4096 = true := by decide +kernel
theorem bc_k2 : ckN 8192 4096 = true := by decide +kernel
theorem bc_k3 : ckN 12288 4096 = true := by decide +kernel
theorem bc_k4 : ckN 16384 4096 = true := by decide +kernel
theorem bc_k5 : ckN 20480 4096 = true := by decide +kernel
theorem bc_k6 : ckN 24576 4096 = true := by decide +kernel
theorem bc_k7 : ckN 28672 4096 = true := by decide +kernel
theorem bc_k8 : ckN 32768 4096 = true := by decide +kernel
theorem bc_k9 : ckN 36864 4096 = true := by decide +kernel
theorem bc_k10 : ckN 40960 4096 = true := by decide +kernel
theorem bc_k11 : ckN 45056 4096 = true := by decide +kernel
theorem bc_k12 : ckN 49152 4096 = true := by decide +kernel
theorem bc_k13 : ckN 53248 4096 = true := by decide +kernel
theorem bc_k14 : ckN 57344 4096 = true := by decide +kernel
theorem bc_k15 : ckN 61440 4096 = true := by decide +kernel
theorem amt32 : ∀ k : Fin 32, (Int32.toUInt32 (nI k.val) &&& Int32.toUInt32 31) = UInt32.ofNat k.val := by decide +kernel
theorem nI_shr {y : Nat} (hy : y < 2 ^ 32) {k : Nat} (hk : k < 32) : ((nI y).toUInt32 >>> (Int32.toUInt32 (nI k) &&& Int32.toUInt32 31)).toInt32 = nI (y >>> k) := by
  rw [amt32 ⟨k, hk⟩]
  have h1 : (UInt32.ofNat y).toNat = y := UInt32.toNat_ofNat_of_lt' hy
  have h2 : (UInt32.ofNat k).toNat = k := UInt32.toNat_ofNat_of_lt' (show k < 2 ^ 32 from by omega)
  have h3 : (UInt32.ofNat (y >>> k)).toNat = y >>> k := UInt32.toNat_ofNat_of_lt' (Nat.lt_of_le_of_lt (Nat.shiftRight_le y k) hy)
  have e : UInt32.ofNat y >>> UInt32.ofNat k = UInt32.ofNat (y >>> k) := by
    apply UInt32.toNat_inj.mp
    rw [UInt32.toNat_shiftRight, h1, h2, h3, Nat.mod_eq_of_lt hk]
  show (UInt32.ofNat y >>> UInt32.ofNat k).toInt32 = nI (y >>> k)
  rw [e]
  rfl
theorem nI_and (a b : Nat) : nI a &&& nI b = nI (a &&& b) := by
  apply Int32.toBitVec_inj.mp
  unfold nI
  rw [Int32.toBitVec_and, Int32.toBitVec_ofNat', Int32.toBitVec_ofNat', Int32.toBitVec_ofNat', BitVec.ofNat_and]
theorem tb_N {x : Nat} {k : Nat} (hk : k < 32) : (if tb (nI x) k = true then 1 else 0) = tbN x k := by
  have e : tb (nI x) k = decide ((x >>> k) % 2 = 1) := by
    unfold tb nI
    rw [Int32.toBitVec_ofNat', BitVec.getLsbD_ofNat, decide_eq_true hk, Bool.true_and, Nat.testBit_eq_decide_div_mod_eq, Nat.shiftRight_eq_div_pow]
  have e2 : tbN x k = (x >>> k) % 2 := Nat.and_one_is_mod (x >>> k)
  rw [e, e2]
  by_cases c : (x >>> k) % 2 = 1
  · rw [decide_eq_true c, if_pos rfl, c]
  · rw [decide_eq_false c, if_neg (by decide)]
    omega
theorem bc_t {v : Nat} (hv : v < 65536) : F_J6_bitCount_0f7a4 (nI v) = some (nI (bcN v)) := by
  obtain ⟨a, ea⟩ : ∃ a, a = v - ((v >>> 1) &&& 1431655765) := ⟨_, rfl⟩
  obtain ⟨b, eb⟩ : ∃ b, b = (a &&& 858993459) + ((a >>> 2) &&& 858993459) := ⟨_, rfl⟩
  obtain ⟨c, ec⟩ : ∃ c, c = (b + (b >>> 4)) &&& 252645135 := ⟨_, rfl⟩
  obtain ⟨d, ed⟩ : ∃ d, d = c + (c >>> 8) := ⟨_, rfl⟩
  have e : bcN v = (d + (d >>> 16)) &&& 63 := by
    rw [ed, ec, eb, ea]; rfl
  have hv1 : (v >>> 1) &&& 1431655765 ≤ v := Nat.le_trans Nat.and_le_left (Nat.shiftRight_le v 1)
  have ha : a < 65536 := by omega
  have hb1 : a &&& 858993459 ≤ a := Nat.and_le_left
  have hb2 : (a >>> 2) &&& 858993459 ≤ a := Nat.le_trans Nat.and_le_left (Nat.shiftRight_le a 2)
  have hb : b < 131072 := by omega
  have hb3 := Nat.shiftRight_le b 4
  have hc : c < 262144 := by
    have : (b + (b >>> 4)) &&& 252645135 ≤ b + (b >>> 4) := Nat.and_le_left
    omega
  have hc3 := Nat.shiftRight_le c 8
  have hd : d < 524288 := by omega
  have l1 : nI v - (((nI v).toUInt32 >>> (Int32.toUInt32 1 &&& Int32.toUInt32 31)).toInt32 &&& 1431655765) = nI a := by
    rw [show ((nI v).toUInt32 >>> (Int32.toUInt32 1 &&& Int32.toUInt32 31)).toInt32 = nI (v >>> 1) from nI_shr (k := 1) (by omega) (by omega), show (1431655765 : Int32) = nI 1431655765 from rfl, nI_and, nI_sub hv1, ea]
  have l2 : (nI a &&& 858993459) + (((nI a).toUInt32 >>> (Int32.toUInt32 2 &&& Int32.toUInt32 31)).toInt32 &&& 858993459) = nI b := by
    rw [show ((nI a).toUInt32 >>> (Int32.toUInt32 2 &&& Int32.toUInt32 31)).toInt32 = nI (a >>> 2) from nI_shr (k := 2) (by omega) (by omega), show (858993459 : Int32) = nI 858993459 from rfl, nI_and, nI_and, nI_add, eb]
  have l3 : (nI b + ((nI b).toUInt32 >>> (Int32.toUInt32 4 &&& Int32.toUInt32 31)).toInt32) &&& 252645135 = nI c := by
    rw [show ((nI b).toUInt32 >>> (Int32.toUInt32 4 &&& Int32.toUInt32 31)).toInt32 = nI (b >>> 4) from nI_shr (k := 4) (by omega) (by omega), show (252645135 : Int32) = nI 252645135 from rfl, nI_add, nI_and, ec]
  have l4 : nI c + ((nI c).toUInt32 >>> (Int32.toUInt32 8 &&& Int32.toUInt32 31)).toInt32 = nI d := by
    rw [show ((nI c).toUInt32 >>> (Int32.toUInt32 8 &&& Int32.toUInt32 31)).toInt32 = nI (c >>> 8) from nI_shr (k := 8) (by omega) (by omega), nI_add, ed]
  have l5 : (nI d + ((nI d).toUInt32 >>> (Int32.toUInt32 16 &&& Int32.toUInt32 31)).toInt32) &&& (63 : Int32) = nI ((d + (d >>> 16)) &&& 63) := by
    rw [show ((nI d).toUInt32 >>> (Int32.toUInt32 16 &&& Int32.toUInt32 31)).toInt32 = nI (d >>> 16) from nI_shr (k := 16) (by omega) (by omega), nI_add, show (63 : Int32) = nI 63 from rfl, nI_and]
  unfold F_J6_bitCount_0f7a4
  rw [nm_at, l1, nm_at, l2, nm_at, l3, nm_at, l4, nm_at, l5, e]
theorem pc_sc (v : Nat) : pcN (nI v) 16 = scN v := by
  have h : pcN (nI v) 16 = 0 + tbN v 0 + tbN v 1 + tbN v 2 + tbN v 3 + tbN v 4 + tbN v 5 + tbN v 6 + tbN v 7 + tbN v 8 + tbN v 9 + tbN v 10 + tbN v 11 + tbN v 12 + tbN v 13 + tbN v 14 + tbN v 15 := by
    simp only [pcN, tb_N (x := v) (k := 0) (by decide), tb_N (x := v) (k := 1) (by decide), tb_N (x := v) (k := 2) (by decide), tb_N (x := v) (k := 3) (by decide), tb_N (x := v) (k := 4) (by decide), tb_N (x := v) (k := 5) (by decide), tb_N (x := v) (k := 6) (by decide), tb_N (x := v) (k := 7) (by decide), tb_N (x := v) (k := 8) (by decide), tb_N (x := v) (k := 9) (by decide), tb_N (x := v) (k := 10) (by decide), tb_N (x := v) (k := 11) (by decide), tb_N (x := v) (k := 12) (by decide), tb_N (x := v) (k := 13) (by decide), tb_N (x := v) (k := 14) (by decide), tb_N (x := v) (k := 15) (by decide)]
  rw [h, Nat.zero_add]
  rfl
theorem bc_all {v : Nat} (hv : v < 65536) : bcN v = scN v := by
  have at_ : ∀ c, ckN c 4096 = true → c ≤ v → v < c + 4096 → bcN v = scN v := by
    intro c h h1 h2
    have := ckN_at h (v - c) (by omega)
    rw [show c + (v - c) = v from by omega] at this
    exact this
  by_cases g0 : v < 4096
  · exact at_ 0 bc_k0 (by omega) (by omega)
  by_cases g1 : v < 8192
  · exact at_ 4096 bc_k1 (by omega) (by omega)
  by_cases g2 : v < 12288
  · exact at_ 8192 bc_k2 (by omega) (by omega)
  by_cases g3 : v < 16384
  · exact at_ 12288 bc_k3 (by omega) (by omega)
  by_cases g4 : v < 20480
  · exact at_ 16384 bc_k4 (by omega) (by omega)
  by_cases g5 : v < 24576
  · exact at_ 20480 bc_k5 (by omega) (by omega)
  by_cases g6 : v < 28672
  · exact at_ 24576 bc_k6 (by omega) (by omega)
  by_cases g7 : v < 32768
  · exact at_ 28672 bc_k7 (by omega) (by omega)
  by_cases g8 : v < 36864
  · exact at_ 32768 bc_k8 (by omega) (by omega)
  by_cases g9 : v < 40960
  · exact at_ 36864 bc_k9 (by omega) (by omega)
  by_cases g10 : v < 45056
  · exact at_ 40960 bc_k10 (by omega) (by omega)
  by_cases g11 : v < 49152
  · exact at_ 45056 bc_k11 (by omega) (by omega)
  by_cases g12 : v < 53248
  · exact at_ 49152 bc_k12 (by omega) (by omega)
  by_cases g13 : v < 57344
  · exact at_ 53248 bc_k13 (by omega) (by omega)
  by_cases g14 : v < 61440
  · exact at_ 57344 bc_k14 (by omega) (by omega)
  exact at_ 61440 bc_k15 (by omega) (by omega)
theorem and65 (x : Int32) : Lb (x &&& 65535) 65536 := by
  refine ⟨(x &&& 65535).toBitVec.toNat, ?_, ?_⟩
  · rw [Int32.toBitVec_and, BitVec.toNat_and]
    have h : (65535 : Int32).toBitVec.toNat = 65535 := by decide
    rw [h]
    have := @Nat.and_le_right x.toBitVec.toNat 65535
    omega
  · apply Int32.toBitVec_inj.mp
    unfold nI
    rw [Int32.toBitVec_ofNat', BitVec.ofNat_toNat, BitVec.setWidth_eq]
theorem bit_t16 {x : Int32} (h : ∀ b, b < 32 → 16 ≤ b → tb x b = false) : F_J6_bitCount_0f7a4 x = some (nI (pcN x 16)) := by
  have e : x &&& 65535 = x := by
    refine tb_ext fun j hj => ?_
    rw [tb_and]
    have e4 : tb 65535 j = decide (j < 16) := by
      have h : ∀ j : Fin 32, tb 65535 j.val = decide (j.val < 16) := by decide +kernel
      exact h ⟨j, hj⟩
    rw [e4]
    by_cases c : j < 16
    · simp [c]
    · rw [h j hj (by omega)]; rfl
  obtain ⟨v, hv, ev⟩ := and65 x
  rw [e] at ev
  rw [ev, bc_t hv, bc_all hv, pc_sc]

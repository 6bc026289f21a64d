/-! A lighter logic over the kit's rows: gX the fixed facts of a walk, gW the walk at a frame whose heap holds the cells ws and whose locals are L. One list of words, TT, for every method. What a method does is a function F of its cells' contents into an Option; hf : F .. = some r goes along with the walk. -/
/-- the words that every method takes: all of the tables that a call keeps -/
def TT : List Cond := lw_tbl.filter goodWord
theorem tt_good : GoodIn TT TT := fun w h => ⟨h, good_of_word (List.mem_filter.mp h).2⟩
theorem tt_tbl : ∀ w ∈ TT, w ∈ lw_tbl := fun w h => (List.mem_filter.mp h).1
theorem tq0 {w : Cond} (i : Nat) (h : (k2_sels lw_privs)[i]? = some w) (hg : goodWord w = true) : w ∈ TT := List.mem_filter.mpr ⟨List.mem_append_left _ (List.mem_of_getElem? h), hg⟩
theorem tq1 {w : Cond} (i : Nat) (h : tables_1_1[i]? = some w) (hg : goodWord w = true) : w ∈ TT := List.mem_filter.mpr ⟨List.mem_append_right _ (List.mem_append_left _ (List.mem_of_getElem? h)), hg⟩
theorem tq2 {w : Cond} (i : Nat) (h : tables_1_2[i]? = some w) (hg : goodWord w = true) : w ∈ TT := List.mem_filter.mpr ⟨List.mem_append_right _ (List.mem_append_right _ (List.mem_append_left _ (List.mem_of_getElem? h))), hg⟩
theorem tq3 {w : Cond} (i : Nat) (h : tables_1_3[i]? = some w) (hg : goodWord w = true) : w ∈ TT := List.mem_filter.mpr ⟨List.mem_append_right _ (List.mem_append_right _ (List.mem_append_right _ (List.mem_append_left _ (List.mem_of_getElem? h)))), hg⟩
theorem tq4 {w : Cond} (i : Nat) (h : tables_1_4[i]? = some w) (hg : goodWord w = true) : w ∈ TT := List.mem_filter.mpr ⟨List.mem_append_right _ (List.mem_append_right _ (List.mem_append_right _ (List.mem_append_right _ (List.mem_append_left _ (List.mem_of_getElem? h))))), hg⟩
theorem tq5 {w : Cond} (i : Nat) (h : tables_1_5[i]? = some w) (hg : goodWord w = true) : w ∈ TT := List.mem_filter.mpr ⟨List.mem_append_right _ (List.mem_append_right _ (List.mem_append_right _ (List.mem_append_right _ (List.mem_append_right _ (List.mem_append_left _ (List.mem_of_getElem? h)))))), hg⟩
theorem tq6 {w : Cond} (i : Nat) (h : tables_1_6[i]? = some w) (hg : goodWord w = true) : w ∈ TT := List.mem_filter.mpr ⟨List.mem_append_right _ (List.mem_append_right _ (List.mem_append_right _ (List.mem_append_right _ (List.mem_append_right _ (List.mem_append_right _ (List.mem_of_getElem? h)))))), hg⟩
theorem inT0 : ∀ w ∈ u_ws RX0 TX0 6, w ∈ TT := List.forall_mem_cons.mpr ⟨tq1 (w := u_lay RX0 TX0 0) 141 rfl rfl, List.forall_mem_cons.mpr ⟨tq1 (w := u_lay RX0 TX0 1) 143 rfl rfl, List.forall_mem_cons.mpr ⟨tq1 (w := u_lay RX0 TX0 2) 145 rfl rfl, List.forall_mem_cons.mpr ⟨tq1 (w := u_lay RX0 TX0 3) 147 rfl rfl, List.forall_mem_cons.mpr ⟨tq1 (w := u_lay RX0 TX0 4) 149 rfl rfl, List.forall_mem_cons.mpr ⟨tq1 (w := u_lay RX0 TX0 5) 151 rfl rfl, fun _ h => absurd h List.not_mem_nil⟩⟩⟩⟩⟩⟩
theorem inT1 : ∀ w ∈ u_ws RX1 TX1 3, w ∈ TT := List.forall_mem_cons.mpr ⟨tq1 (w := u_lay RX1 TX1 0) 188 rfl rfl, List.forall_mem_cons.mpr ⟨tq1 (w := u_lay RX1 TX1 1) 190 rfl rfl, List.forall_mem_cons.mpr ⟨tq1 (w := u_lay RX1 TX1 2) 192 rfl rfl, fun _ h => absurd h List.not_mem_nil⟩⟩⟩
theorem inT2 : ∀ w ∈ u_ws RX2 TX2 2, w ∈ TT := List.forall_mem_cons.mpr ⟨tq1 (w := u_lay RX2 TX2 0) 121 rfl rfl, List.forall_mem_cons.mpr ⟨tq1 (w := u_lay RX2 TX2 1) 123 rfl rfl, fun _ h => absurd h List.not_mem_nil⟩⟩
theorem inT3 : ∀ w ∈ u_ws RX3 TX3 2, w ∈ TT := List.forall_mem_cons.mpr ⟨tq1 (w := u_lay RX3 TX3 0) 108 rfl rfl, List.forall_mem_cons.mpr ⟨tq1 (w := u_lay RX3 TX3 1) 110 rfl rfl, fun _ h => absurd h List.not_mem_nil⟩⟩
theorem inT4 : ∀ w ∈ u_ws RX4 TX4 5, w ∈ TT := List.forall_mem_cons.mpr ⟨tq1 (w := u_lay RX4 TX4 0) 89 rfl rfl, List.forall_mem_cons.mpr ⟨tq1 (w := u_lay RX4 TX4 1) 91 rfl rfl, List.forall_mem_cons.mpr ⟨tq1 (w := u_lay RX4 TX4 2) 93 rfl rfl, List.forall_mem_cons.mpr ⟨tq1 (w := u_lay RX4 TX4 3) 95 rfl rfl, List.forall_mem_cons.mpr ⟨tq1 (w := u_lay RX4 TX4 4) 97 rfl rfl, fun _ h => absurd h List.not_mem_nil⟩⟩⟩⟩⟩
theorem inT7 : ∀ w ∈ u_ws RX7 TX7 5, w ∈ TT := List.forall_mem_cons.mpr ⟨tq1 (w := u_lay RX7 TX7 0) 221 rfl rfl, List.forall_mem_cons.mpr ⟨tq1 (w := u_lay RX7 TX7 1) 223 rfl rfl, List.forall_mem_cons.mpr ⟨tq1 (w := u_lay RX7 TX7 2) 225 rfl rfl, List.forall_mem_cons.mpr ⟨tq1 (w := u_lay RX7 TX7 3) 227 rfl rfl, List.forall_mem_cons.mpr ⟨tq1 (w := u_lay RX7 TX7 4) 229 rfl rfl, fun _ h => absurd h List.not_mem_nil⟩⟩⟩⟩⟩
theorem inT8 : ∀ w ∈ u_ws RX8 TX8 5, w ∈ TT := List.forall_mem_cons.mpr ⟨tq1 (w := u_lay RX8 TX8 0) 40 rfl rfl, List.forall_mem_cons.mpr ⟨tq1 (w := u_lay RX8 TX8 1) 42 rfl rfl, List.forall_mem_cons.mpr ⟨tq1 (w := u_lay RX8 TX8 2) 44 rfl rfl, List.forall_mem_cons.mpr ⟨tq1 (w := u_lay RX8 TX8 3) 46 rfl rfl, List.forall_mem_cons.mpr ⟨tq1 (w := u_lay RX8 TX8 4) 48 rfl rfl, fun _ h => absurd h List.not_mem_nil⟩⟩⟩⟩⟩
theorem inT9 : ∀ w ∈ u_ws RX9 TX9 5, w ∈ TT := List.forall_mem_cons.mpr ⟨tq1 (w := u_lay RX9 TX9 0) 63 rfl rfl, List.forall_mem_cons.mpr ⟨tq1 (w := u_lay RX9 TX9 1) 65 rfl rfl, List.forall_mem_cons.mpr ⟨tq1 (w := u_lay RX9 TX9 2) 67 rfl rfl, List.forall_mem_cons.mpr ⟨tq1 (w := u_lay RX9 TX9 3) 69 rfl rfl, List.forall_mem_cons.mpr ⟨tq1 (w := u_lay RX9 TX9 4) 71 rfl rfl, fun _ h => absurd h List.not_mem_nil⟩⟩⟩⟩⟩
theorem inT10 : ∀ w ∈ u_ws RX10 TX10 4, w ∈ TT := List.forall_mem_cons.mpr ⟨tq1 (w := u_lay RX10 TX10 0) 170 rfl rfl, List.forall_mem_cons.mpr ⟨tq1 (w := u_lay RX10 TX10 1) 172 rfl rfl, List.forall_mem_cons.mpr ⟨tq1 (w := u_lay RX10 TX10 2) 174 rfl rfl, List.forall_mem_cons.mpr ⟨tq1 (w := u_lay RX10 TX10 3) 176 rfl rfl, fun _ h => absurd h List.not_mem_nil⟩⟩⟩⟩
theorem inT11 : ∀ w ∈ u_ws RX11 TX11 12, w ∈ TT := List.forall_mem_cons.mpr ⟨tq2 (w := u_lay RX11 TX11 0) 4 rfl rfl, List.forall_mem_cons.mpr ⟨tq2 (w := u_lay RX11 TX11 1) 6 rfl rfl, List.forall_mem_cons.mpr ⟨tq2 (w := u_lay RX11 TX11 2) 8 rfl rfl, List.forall_mem_cons.mpr ⟨tq2 (w := u_lay RX11 TX11 3) 10 rfl rfl, List.forall_mem_cons.mpr ⟨tq2 (w := u_lay RX11 TX11 4) 12 rfl rfl, List.forall_mem_cons.mpr ⟨tq2 (w := u_lay RX11 TX11 5) 14 rfl rfl, List.forall_mem_cons.mpr ⟨tq2 (w := u_lay RX11 TX11 6) 16 rfl rfl, List.forall_mem_cons.mpr ⟨tq2 (w := u_lay RX11 TX11 7) 18 rfl rfl, List.forall_mem_cons.mpr ⟨tq2 (w := u_lay RX11 TX11 8) 20 rfl rfl, List.forall_mem_cons.mpr ⟨tq2 (w := u_lay RX11 TX11 9) 22 rfl rfl, List.forall_mem_cons.mpr ⟨tq2 (w := u_lay RX11 TX11 10) 24 rfl rfl, List.forall_mem_cons.mpr ⟨tq2 (w := u_lay RX11 TX11 11) 26 rfl rfl, fun _ h => absurd h List.not_mem_nil⟩⟩⟩⟩⟩⟩⟩⟩⟩⟩⟩⟩
theorem inT12 : ∀ w ∈ u_ws RX12 TX12 38, w ∈ TT := List.forall_mem_cons.mpr ⟨tq5 (w := u_lay RX12 TX12 0) 21 rfl rfl, List.forall_mem_cons.mpr ⟨tq5 (w := u_lay RX12 TX12 1) 23 rfl rfl, List.forall_mem_cons.mpr ⟨tq5 (w := u_lay RX12 TX12 2) 25 rfl rfl, List.forall_mem_cons.mpr ⟨tq5 (w := u_lay RX12 TX12 3) 27 rfl rfl, List.forall_mem_cons.mpr ⟨tq5 (w := u_lay RX12 TX12 4) 29 rfl rfl, List.forall_mem_cons.mpr ⟨tq5 (w := u_lay RX12 TX12 5) 31 rfl rfl, List.forall_mem_cons.mpr ⟨tq5 (w := u_lay RX12 TX12 6) 33 rfl rfl, List.forall_mem_cons.mpr ⟨tq5 (w := u_lay RX12 TX12 7) 35 rfl rfl, List.forall_mem_cons.mpr ⟨tq5 (w := u_lay RX12 TX12 8) 37 rfl rfl, List.forall_mem_cons.mpr ⟨tq5 (w := u_lay RX12 TX12 9) 39 rfl rfl, List.forall_mem_cons.mpr ⟨tq5 (w := u_lay RX12 TX12 10) 41 rfl rfl, List.forall_mem_cons.mpr ⟨tq5 (w := u_lay RX12 TX12 11) 43 rfl rfl, List.forall_mem_cons.mpr ⟨tq5 (w := u_lay RX12 TX12 12) 45 rfl rfl, List.forall_mem_cons.mpr ⟨tq5 (w := u_lay RX12 TX12 13) 47 rfl rfl, List.forall_mem_cons.mpr ⟨tq5 (w := u_lay RX12 TX12 14) 49 rfl rfl, List.forall_mem_cons.mpr ⟨tq5 (w := u_lay RX12 TX12 15) 51 rfl rfl, List.forall_mem_cons.mpr ⟨tq5 (w := u_lay RX12 TX12 16) 53 rfl rfl, List.forall_mem_cons.mpr ⟨tq5 (w := u_lay RX12 TX12 17) 55 rfl rfl, List.forall_mem_cons.mpr ⟨tq5 (w := u_lay RX12 TX12 18) 57 rfl rfl, List.forall_mem_cons.mpr ⟨tq5 (w := u_lay RX12 TX12 19) 59 rfl rfl, List.forall_mem_cons.mpr ⟨tq5 (w := u_lay RX12 TX12 20) 61 rfl rfl, List.forall_mem_cons.mpr ⟨tq5 (w := u_lay RX12 TX12 21) 63 rfl rfl, List.forall_mem_cons.mpr ⟨tq5 (w := u_lay RX12 TX12 22) 65 rfl rfl, List.forall_mem_cons.mpr ⟨tq5 (w := u_lay RX12 TX12 23) 67 rfl rfl, List.forall_mem_cons.mpr ⟨tq5 (w := u_lay RX12 TX12 24) 69 rfl rfl, List.forall_mem_cons.mpr ⟨tq5 (w := u_lay RX12 TX12 25) 71 rfl rfl, List.forall_mem_cons.mpr ⟨tq5 (w := u_lay RX12 TX12 26) 73 rfl rfl, List.forall_mem_cons.mpr ⟨tq5 (w := u_lay RX12 TX12 27) 75 rfl rfl, List.forall_mem_cons.mpr ⟨tq5 (w := u_lay RX12 TX12 28) 77 rfl rfl, List.forall_mem_cons.mpr ⟨tq5 (w := u_lay RX12 TX12 29) 79 rfl rfl, List.forall_mem_cons.mpr ⟨tq5 (w := u_lay RX12 TX12 30) 81 rfl rfl, List.forall_mem_cons.mpr ⟨tq5 (w := u_lay RX12 TX12 31) 83 rfl rfl, List.forall_mem_cons.mpr ⟨tq5 (w := u_lay RX12 TX12 32) 85 rfl rfl, List.forall_mem_cons.mpr ⟨tq5 (w := u_lay RX12 TX12 33) 87 rfl rfl, List.forall_mem_cons.mpr ⟨tq5 (w := u_lay RX12 TX12 34) 89 rfl rfl, List.forall_mem_cons.mpr ⟨tq5 (w := u_lay RX12 TX12 35) 91 rfl rfl, List.forall_mem_cons.mpr ⟨tq5 (w := u_lay RX12 TX12 36) 93 rfl rfl, List.forall_mem_cons.mpr ⟨tq5 (w := u_lay RX12 TX12 37) 95 rfl rfl, fun _ h => absurd h List.not_mem_nil⟩⟩⟩⟩⟩⟩⟩⟩⟩⟩⟩⟩⟩⟩⟩⟩⟩⟩⟩⟩⟩⟩⟩⟩⟩⟩⟩⟩⟩⟩⟩⟩⟩⟩⟩⟩⟩⟩

theorem tt_in {c c' : Cond} (h : c' ∈ TT) : GoodIn (c :: TT) (c' :: TT) := by
  intro w hw
  rcases List.mem_cons.mp hw with rfl | h2
  · exact ⟨List.mem_cons_of_mem _ h, (tt_good _ h).2⟩
  · exact ⟨List.mem_cons_of_mem _ h2, (tt_good _ h2).2⟩
theorem tt_in2 {c : Cond} {l l2 : List Cond} (h : ∀ w ∈ l, w ∈ TT) (h2 : GoodIn (c :: TT) l2) : GoodIn (c :: TT) (l ++ l2) := by
  intro w hw
  rcases List.mem_append.mp hw with h3 | h3
  · exact ⟨List.mem_cons_of_mem _ (h w h3), (tt_good _ (h w h3)).2⟩
  · exact h2 w h3
/-! ===== what the functions are made of ===== -/
def nm {α β : Type} (x : α) (k : α → β) : β := k x
def fu : Nat := 1000000
def aget (n : Nat) (f : Nat → Int32) (i : Int32) : Option Int32 := if i < 0 ∨ n ≤ i.toNatClampNeg then none else some (f i.toNatClampNeg)
def aset (n : Nat) (f : Nat → Int32) (i x : Int32) : Option (Nat → Int32) := if i < 0 ∨ n ≤ i.toNatClampNeg then none else some (upd f i.toNatClampNeg x)
def agetL (n : Nat) (f : Nat → Int64) (i : Int32) : Option Int64 := if i < 0 ∨ n ≤ i.toNatClampNeg then none else some (f i.toNatClampNeg)
def asetL (n : Nat) (f : Nat → Int64) (i : Int32) (x : Int64) : Option (Nat → Int64) := if i < 0 ∨ n ≤ i.toNatClampNeg then none else some (vp_updL f i.toNatClampNeg x)
def orem (x y : Int32) : Option Int32 := if y = 0 then none else some (x - x / y * y)
def zb (x : Int32) : Option Int32 := if x = 0 ∨ x = 1 then some x else none
theorem ob {α β : Type} {o : Option α} {k : α → Option β} {b : β} {P : Prop} (h : o.bind k = some b) (c : ∀ a, o = some a → k a = some b → P) : P := by
  cases o with
  | none => simp at h
  | some a => exact c a rfl h
theorem aget_some {n : Nat} {f : Nat → Int32} {i v : Int32} (h : aget n f i = some v) : vp_in i n ∧ v = f i.toNatClampNeg := by
  unfold aget at h
  split at h
  · cases h
  · rename_i hc; exact ⟨hc, (Option.some.inj h).symm⟩
theorem aset_some {n : Nat} {f g : Nat → Int32} {i x : Int32} (h : aset n f i x = some g) : vp_in i n ∧ g = upd f i.toNatClampNeg x := by
  unfold aset at h
  split at h
  · cases h
  · rename_i hc; exact ⟨hc, (Option.some.inj h).symm⟩
theorem agetL_some {n : Nat} {f : Nat → Int64} {i : Int32} {v : Int64} (h : agetL n f i = some v) : vp_in i n ∧ v = f i.toNatClampNeg := by
  unfold agetL at h
  split at h
  · cases h
  · rename_i hc; exact ⟨hc, (Option.some.inj h).symm⟩
theorem asetL_some {n : Nat} {f g : Nat → Int64} {i : Int32} {x : Int64} (h : asetL n f i x = some g) : vp_in i n ∧ g = vp_updL f i.toNatClampNeg x := by
  unfold asetL at h
  split at h
  · cases h
  · rename_i hc; exact ⟨hc, (Option.some.inj h).symm⟩
theorem orem_some {x y v : Int32} (h : orem x y = some v) : ¬ y = 0 ∧ v = x - x / y * y := by
  unfold orem at h
  split at h
  · cases h
  · rename_i hc; exact ⟨hc, (Option.some.inj h).symm⟩
theorem zb_some {x v : Int32} (h : zb x = some v) : v = x ∧ narrow .boolean (.int x) = .int x := by
  unfold zb at h
  split at h
  · rename_i hc
    refine ⟨(Option.some.inj h).symm, ?_⟩
    rcases hc with rfl | rfl <;> rfl
  · cases h
/-! ===== the cells behind a call ===== -/
def wput {α : Type} : List α → List Nat → List α → List α
  | ws, i :: is, q :: qs => wput (ws.set i q) is qs
  | ws, _, _ => ws
theorem wput_len {α : Type} : ∀ (is : List Nat) (ws qs : List α), (wput ws is qs).length = ws.length
  | [], ws, qs => by cases qs <;> rfl
  | i :: is, ws, [] => rfl
  | i :: is, ws, q :: qs => by rw [wput, wput_len is, List.length_set]
theorem wput_at {α : Type} : ∀ (is : List Nat) (ws qs : List α), va_nd is = true → is.length = qs.length → ∀ (k : Nat) (q : α), (wput ws is qs)[k]? = some q → (∃ j : Nat, is[j]? = some k ∧ qs[j]? = some q) ∨ (k ∉ is ∧ ws[k]? = some q)
  | [], ws, qs, _, hlen, k, q, h => by cases qs with
    | nil => exact Or.inr ⟨by simp, h⟩
    | cons a b => simp at hlen
  | i :: is, ws, [], _, hlen, k, q, h => by simp at hlen
  | i :: is, ws, x :: qs, hn, hlen, k, q, h => by
    simp only [va_nd, Bool.and_eq_true, decide_eq_true_eq] at hn
    rw [wput] at h
    rcases wput_at is (ws.set i x) qs hn.2 (by simpa using hlen) k q h with ⟨j, h1, h2⟩ | ⟨h1, h2⟩
    · exact Or.inl ⟨j + 1, by simpa using h1, by simpa using h2⟩
    · by_cases hk : k = i
      · subst hk
        have hl : k < ws.length := by
          have := (List.getElem?_eq_some_iff.mp h2).1
          simpa using this
        rw [List.getElem?_set_self hl] at h2
        exact Or.inl ⟨0, rfl, by simpa using h2⟩
      · rw [List.getElem?_set_ne (Ne.symm hk)] at h2
        exact Or.inr ⟨by simp [hk, h1], h2⟩
theorem wput_self {α : Type} : ∀ (is : List Nat) (ws qs : List α), is.map (fun i => ws[i]?) = qs.map some → wput ws is qs = ws
  | [], ws, qs, _ => by cases qs <;> rfl
  | i :: is, ws, [], _ => rfl
  | i :: is, ws, q :: qs, h => by
    simp only [List.map_cons, List.cons.injEq] at h
    have h1 : ws.set i q = ws := by
      obtain ⟨hl, he⟩ := List.getElem?_eq_some_iff.mp h.1
      rw [← he]; exact List.set_getElem_self hl
    rw [wput, h1]
    exact wput_self is ws qs h.2
theorem wput_map {α β : Type} (F : α → β) : ∀ (is : List Nat) (ws qs : List α), (wput ws is qs).map F = wput (ws.map F) is (qs.map F)
  | [], ws, qs => by cases qs <;> rfl
  | i :: is, ws, [] => rfl
  | i :: is, ws, q :: qs => by
    rw [wput, wput_map F is, List.map_cons, wput, List.map_set]
/-! groups of cells -/
theorem vaP_mem {D : va_G} {cl : List vw_C} {ws : va_W} {H : Heap} : va_P D cl ws H ↔ ∀ q ∈ ws, va_at D cl q H := by
  refine ⟨fun h q hq => ?_, fun h k q hk => h q (List.mem_of_getElem? hk)⟩
  obtain ⟨k, hk⟩ := List.getElem?_of_mem hq
  exact h k q hk
theorem vaD_pw {A : Nat → Prop} {ws : va_W} : va_D A ws ↔ ws.Pairwise (fun p q => p.1 ≠ q.1) ∧ ∀ q ∈ ws, A q.1 := by
  constructor
  · intro h
    refine ⟨List.pairwise_iff_getElem.mpr fun i j hi hj hij e => ?_, fun q hq => ?_⟩
    · have := h.1 i j _ _ (List.getElem?_eq_getElem hi) (List.getElem?_eq_getElem hj) e
      omega
    · obtain ⟨k, hk⟩ := List.getElem?_of_mem hq
      exact h.2 k q hk
  · intro h
    refine ⟨fun i j p q hi hj e => ?_, fun k q hk => h.2 q (List.mem_of_getElem? hk)⟩
    obtain ⟨hi1, rfl⟩ := List.getElem?_eq_some_iff.mp hi
    obtain ⟨hj1, rfl⟩ := List.getElem?_eq_some_iff.mp hj
    rcases Nat.lt_trichotomy i j with h1 | h1 | h1
    · exact absurd e (List.pairwise_iff_getElem.mp h.1 i j hi1 hj1 h1)
    · exact h1
    · exact absurd e.symm (List.pairwise_iff_getElem.mp h.1 j i hj1 hi1 h1)
theorem vaD_adr {A : Nat → Prop} {ws w2 : va_W} (h : va_D A ws) (e : w2.map Prod.fst = ws.map Prod.fst) : va_D A w2 := by
  have key : ∀ (k : Nat) (q : Nat × va_E), w2[k]? = some q → ∃ x : va_E, ws[k]? = some (q.1, x) := by
    intro k q hk
    have h1 : (ws.map Prod.fst)[k]? = some q.1 := by rw [← e, List.getElem?_map, hk]; rfl
    rw [List.getElem?_map] at h1
    cases h2 : ws[k]? with
    | none => rw [h2] at h1; simp at h1
    | some y =>
      rw [h2] at h1
      have h3 : y.1 = q.1 := by simpa using h1
      exact ⟨y.2, by rw [← h3]⟩
  refine ⟨fun i j p q hi hj hpq => ?_, fun k q hk => ?_⟩
  · obtain ⟨x, h1⟩ := key i p hi
    obtain ⟨y, h2⟩ := key j q hj
    exact h.1 i j _ _ h1 h2 hpq
  · obtain ⟨x, h1⟩ := key k q hk
    exact h.2 k (q.1, x) h1
/-- cells of two different groups are apart -/
theorem grp_ne {A : Nat → Prop} {gs : List va_W} (hD : va_D A gs.flatten) {i j : Nat} {g1 g2 : va_W} (h1 : gs[i]? = some g1) (h2 : gs[j]? = some g2) (hij : i ≠ j) : ∀ p ∈ g1, ∀ q ∈ g2, p.1 ≠ q.1 := by
  have hp := (List.pairwise_flatten.mp (vaD_pw.mp hD).1).2
  obtain ⟨hi, rfl⟩ := List.getElem?_eq_some_iff.mp h1
  obtain ⟨hj, rfl⟩ := List.getElem?_eq_some_iff.mp h2
  intro p hp1 q hq1 e
  rcases Nat.lt_trichotomy i j with h | h | h
  · exact List.pairwise_iff_getElem.mp hp i j hi hj h p hp1 q hq1 e
  · exact hij h
  · exact List.pairwise_iff_getElem.mp hp j i hj hi h q hq1 p hp1 e.symm
theorem grp_at {gs gc : List va_W} {isG : List Nat} (hG : isG.map (fun i => gs[i]?) = gc.map some) {k : Nat} {g : va_W} (hk : gc[k]? = some g) : ∃ i, isG[k]? = some i ∧ gs[i]? = some g := by
  have h1 : (isG.map (fun i => gs[i]?))[k]? = some (some g) := by rw [hG, List.getElem?_map, hk]; rfl
  rw [List.getElem?_map] at h1
  cases hi : isG[k]? with
  | none => rw [hi] at h1; cases h1
  | some i => rw [hi] at h1; exact ⟨i, rfl, Option.some.inj h1⟩
theorem grp_P {D : va_G} {cl : List vw_C} {gs gc : List va_W} {H : Heap} {isG : List Nat} (hP : va_P D cl gs.flatten H) (hG : isG.map (fun i => gs[i]?) = gc.map some) : va_P D cl gc.flatten H := by
  refine vaP_mem.mpr fun q hq => ?_
  obtain ⟨g, hg, hq⟩ := List.mem_flatten.mp hq
  obtain ⟨k, hk⟩ := List.getElem?_of_mem hg
  obtain ⟨i, -, hi⟩ := grp_at hG hk
  exact vaP_mem.mp hP q (List.mem_flatten.mpr ⟨g, List.mem_of_getElem? hi, hq⟩)
theorem grp_D {A : Nat → Prop} {gs gc : List va_W} {isG : List Nat} (hD : va_D A gs.flatten) (hG : isG.map (fun i => gs[i]?) = gc.map some) (hn : va_nd isG = true) : va_D A gc.flatten := by
  refine vaD_pw.mpr ⟨List.pairwise_flatten.mpr ⟨fun g hg => ?_, List.pairwise_iff_getElem.mpr fun a b ha hb hab => ?_⟩, fun q hq => ?_⟩
  · obtain ⟨k, hk⟩ := List.getElem?_of_mem hg
    obtain ⟨i, -, hi⟩ := grp_at hG hk
    exact (List.pairwise_flatten.mp (vaD_pw.mp hD).1).1 g (List.mem_of_getElem? hi)
  · obtain ⟨i, h1, hi⟩ := grp_at hG (List.getElem?_eq_getElem ha)
    obtain ⟨j, h2, hj⟩ := grp_at hG (List.getElem?_eq_getElem hb)
    refine grp_ne hD hi hj fun e => ?_
    subst e
    have := va_nd_inj isG hn a b i h1 h2
    omega
  · obtain ⟨g, hg, hq⟩ := List.mem_flatten.mp hq
    obtain ⟨k, hk⟩ := List.getElem?_of_mem hg
    obtain ⟨i, -, hi⟩ := grp_at hG hk
    exact (vaD_pw.mp hD).2 q (List.mem_flatten.mpr ⟨g, List.mem_of_getElem? hi, hq⟩)
theorem grp_join {A0 : Nat → Prop} {D : va_G} {cl : List vw_C} {gs gc g1 : List va_W} {H H1 : Heap} (hP : va_P D cl gs.flatten H) (hD : va_D A0 gs.flatten) (isG : List Nat) (hG : isG.map (fun i => gs[i]?) = gc.map some) (hn : va_nd isG = true) (ha : g1.map (List.map Prod.fst) = gc.map (List.map Prod.fst))
    (hk : ∀ q : Nat, q < H.size → ¬ va_A gc.flatten H.size q → H1[q]? = H[q]?) (hP1 : va_P D cl g1.flatten H1) : va_P D cl (wput gs isG g1).flatten H1 ∧ va_D A0 (wput gs isG g1).flatten := by
  have hlen : isG.length = g1.length := by
    have h1 := congrArg List.length hG
    have h2 := congrArg List.length ha
    simp at h1 h2
    omega
  constructor
  · refine vaP_mem.mpr fun q hq => ?_
    obtain ⟨g, hg, hq⟩ := List.mem_flatten.mp hq
    obtain ⟨k, hk1⟩ := List.getElem?_of_mem hg
    rcases wput_at isG gs g1 hn hlen k g hk1 with ⟨j, h1, h2⟩ | ⟨h1, h2⟩
    · exact vaP_mem.mp hP1 q (List.mem_flatten.mpr ⟨g, List.mem_of_getElem? h2, hq⟩)
    · have h3 := vaP_mem.mp hP q (List.mem_flatten.mpr ⟨g, List.mem_of_getElem? h2, hq⟩)
      refine h3.kept (hk q.1 h3.lt ?_)
      rintro (⟨n, e, h4⟩ | h4)
      · obtain ⟨g2, hg2, hq2⟩ := List.mem_flatten.mp (List.mem_of_getElem? h4)
        obtain ⟨m, hm⟩ := List.getElem?_of_mem hg2
        obtain ⟨i, h5, h6⟩ := grp_at hG hm
        refine grp_ne hD h2 h6 ?_ q hq (q.1, e) hq2 rfl
        rintro rfl
        exact h1 (List.mem_of_getElem? h5)
      · exact absurd h3.lt (Nat.not_lt.mpr h4)
  · refine vaD_adr hD ?_
    rw [List.map_flatten, List.map_flatten, wput_map, ha, wput_self]
    rw [List.map_map]
    have h1 : isG.map (fun i => (gs.map (List.map Prod.fst))[i]?) = (isG.map (fun i => gs[i]?)).map (Option.map (List.map Prod.fst)) := by
      rw [List.map_map]
      refine List.map_congr_left fun i _ => ?_
      simp [List.getElem?_map]
    rw [h1, hG, List.map_map]
    rfl
theorem grp_free {A0 : Nat → Prop} {gs gc : List va_W} {H0 H : Heap} {locs : List Loc} (hD : va_D A0 gs.flatten) (hS : va_S A0 H0 H locs) (hA : ∀ q, H0.size ≤ q → A0 q) (isG : List Nat) (hG : isG.map (fun i => gs[i]?) = gc.map some) : ∀ q, va_A gc.flatten H.size q → A0 q := by
  rintro q (⟨k, e, h⟩ | h)
  · obtain ⟨g, hg, hq⟩ := List.mem_flatten.mp (List.mem_of_getElem? h)
    obtain ⟨k, hk⟩ := List.getElem?_of_mem hg
    obtain ⟨i, -, hi⟩ := grp_at hG hk
    exact (vaD_pw.mp hD).2 (q, e) (List.mem_flatten.mpr ⟨g, List.mem_of_getElem? hi, hq⟩)
  · exact hA q (Nat.le_trans hS.1 h)
theorem wput_join {A0 : Nat → Prop} {D : va_G} {cl : List vw_C} {ws wc w1 : va_W} {H H1 : Heap} (hP : va_P D cl ws H) (hD : va_D A0 ws) (isC : List Nat) (hC : isC.map (fun i => ws[i]?) = wc.map some) (hn : va_nd isC = true) (ha : w1.map Prod.fst = wc.map Prod.fst)
    (hk : ∀ q : Nat, q < H.size → ¬ va_A wc H.size q → H1[q]? = H[q]?) (hP1 : va_P D cl w1 H1) : va_P D cl (wput ws isC w1) H1 ∧ va_D A0 (wput ws isC w1) := by
  have hlen : isC.length = w1.length := by
    have h1 := congrArg List.length hC
    have h2 := congrArg List.length ha
    simp at h1 h2
    omega
  have hwc : ∀ (j k : Nat) (q : Nat × va_E), isC[j]? = some k → w1[j]? = some q → ∃ e : va_E, wc[j]? = some (q.1, e) ∧ ws[k]? = some (q.1, e) := by
    intro j k q h1 h2
    have h3 : (wc.map Prod.fst)[j]? = some q.1 := by rw [← ha, List.getElem?_map, h2]; rfl
    rw [List.getElem?_map] at h3
    cases h4 : wc[j]? with
    | none => rw [h4] at h3; simp at h3
    | some x =>
      rw [h4] at h3
      have h5 : x.1 = q.1 := by simpa using h3
      have h6 : (isC.map (fun i => ws[i]?))[j]? = some (some x) := by rw [hC, List.getElem?_map, h4]; rfl
      rw [List.getElem?_map, h1] at h6
      have h7 : ws[k]? = some x := by simpa using h6
      exact ⟨x.2, by rw [← h5], by rw [h7, ← h5]⟩
  constructor
  · intro k q h
    rcases wput_at isC ws w1 hn hlen k q h with ⟨j, h1, h2⟩ | ⟨h1, h2⟩
    · exact hP1 j q h2
    · refine (hP k q h2).kept (hk q.1 (hP k q h2).lt ?_)
      rintro (⟨j, e, h3⟩ | h3)
      · have h6 : (isC.map (fun i => ws[i]?))[j]? = some (some (q.1, e)) := by rw [hC, List.getElem?_map, h3]; rfl
        rw [List.getElem?_map] at h6
        cases h7 : isC[j]? with
        | none => rw [h7] at h6; simp at h6
        | some i =>
          rw [h7] at h6
          have h8 : ws[i]? = some (q.1, e) := by simpa using h6
          have h9 := hD.1 k i q (q.1, e) h2 h8 rfl
          exact h1 (by rw [h9]; exact List.mem_of_getElem? h7)
      · exact absurd (hP k q h2).lt (Nat.not_lt.mpr h3)
  · have key : ∀ (k : Nat) (q : Nat × va_E), (wput ws isC w1)[k]? = some q → ∃ e : va_E, ws[k]? = some (q.1, e) := by
      intro k q h
      rcases wput_at isC ws w1 hn hlen k q h with ⟨j, h1, h2⟩ | ⟨h1, h2⟩
      · obtain ⟨e, -, h3⟩ := hwc j k q h1 h2
        exact ⟨e, h3⟩
      · exact ⟨q.2, h2⟩
    refine ⟨fun i j x y hi hj hxy => ?_, fun k q hk => ?_⟩
    · obtain ⟨e1, h1⟩ := key i x hi
      obtain ⟨e2, h2⟩ := key j y hj
      exact hD.1 i j _ _ h1 h2 hxy
    · obtain ⟨e1, h1⟩ := key k q hk
      exact hD.2 k (q.1, e1) h1
/-! the String constants of the class, by their places; what the cells of D are beside -/
abbrev gG : Type := va_G × (Nat → Nat) × (Nat → Nat)
def sLen : List Nat := [4, 4, 5, 4, 5]
def sByt : List (List Int32) := [[119, 111, 114, 100], [102, 111, 114, 109], [109, 101, 116, 114, 101], [108, 105, 110, 101], [115, 116, 111, 99, 107]]
def SF (D : gG) (A : Nat → Prop) (U : State) (H : Heap) : Prop :=
  vk_S 5 sLen sByt D.2.1 D.2.2 A U H ∧ (vk_R RX5 39 "word" (D.2.1 0) U ∧ vk_R RX5 53 "form" (D.2.1 1) U ∧ vk_R RX5 63 "metre" (D.2.1 2) U ∧ vk_R RX5 68 "line" (D.2.1 3) U ∧ vk_R RX5 78 "stock" (D.2.1 4) U) ∧ va_Z "java/lang/String" "COMPACT_STRINGS" "Z" (.int 1) A U H ∧ va_Zq "jdk/internal/util/Preconditions" "SIOOBE_FORMATTER" "Ljava/util/function/BiFunction;" A U H
theorem sf_at {D : gG} {A B : Nat → Prop} {s U : State} {H : Heap} {locs : List Loc} (h : SF D A s s.heap) (hS : va_S A s.heap H locs) (hB : ∀ q, B q → A q) (hU : U.heap = H) (hW : s.WarmedH U.vm) : SF D B U U.heap := by
  subst hU
  obtain ⟨h1, ⟨r0, r1, r2, r3, r4⟩, h3, h4⟩ := h
  exact ⟨((h1.kept hS.2.1).moved hW.alike).narrow hB, ⟨r0.warm hW, r1.warm hW, r2.warm hW, r3.warm hW, r4.warm hW⟩, ((h3.kept hS.2.1).moved hW.alike).narrow hB, ((h4.kept hS.2.1).moved hW.alike).narrow hB⟩
theorem sf_blind {D : gG} {B : Nat → Prop} {U : State} {g : JFrame} {mk : MethodId} {a : Array Value} (h : SF D B U U.heap) : SF D B (U.calling g mk a) (U.calling g mk a).heap := by
  obtain ⟨h1, ⟨r0, r1, r2, r3, r4⟩, h3, h4⟩ := h
  exact ⟨h1.moved (U := U.calling g mk a) (Vm.Alike.refl U.vm), ⟨r0.same (U := U.calling g mk a) rfl, r1.same (U := U.calling g mk a) rfl, r2.same (U := U.calling g mk a) rfl, r3.same (U := U.calling g mk a) rfl, r4.same (U := U.calling g mk a) rfl⟩, h3.moved (U := U.calling g mk a) (Vm.Alike.refl U.vm), h4.moved (U := U.calling g mk a) (Vm.Alike.refl U.vm)⟩
/-! ===== contracts and walks ===== -/
abbrev tyL (cB cI cJ cZ : ClassId) : List (ClassId × FieldType) := [(cB, .byte), (cI, .int), (cJ, .long), (cZ, .boolean)]
def PcM (D : gG) (tys : List (ClassId × FieldType)) (Av : List Value) (w0 : va_W) (sz : Nat) : Array Value → State → Prop :=
  va_Pc Av (fun U => U.heap.size = sz ∧ va_P D.1 vwCl w0 U.heap ∧ va_K D.1 vwCl tys U ∧ va_D (fun _ => True) w0 ∧ SF D (va_A w0 sz) U U.heap)
def QM (D : gG) (tys : List (ClassId × FieldType)) (ov : Option Value) (w0 w1 : va_W) (sz : Nat) : Array Value → State → Outcome → State → Prop :=
  fun _ st oc t => (oc = .returned ov ∧ va_P D.1 vwCl w1 t.heap ∧ va_K D.1 vwCl tys t ∧ va_D (va_A w0 sz) w1) ∧ va_F (va_A w0 sz) st t
def gX (p : Program) (s : State) (m : MethodId) (args : Array Value) (meth : Method) (c : Code) (cc : ByteArray) (nL : Nat) (own : String) (D : gG) (tys : List (ClassId × FieldType)) (A : Nat → Prop) : Prop :=
  p.tables.exec = Jvm.exec ∧ c.code = cc ∧ c.maxLocals = nL ∧ s.vm.findClass own = some m.cls ∧ (∀ w ∈ TT, w.before args s = true) ∧ va_K D.1 vwCl tys s ∧ (∀ q, s.heap.size ≤ q → A q) ∧ meth.locks = false ∧ SF D A s s.heap
def gW (p : Program) (l : Launch) (e : Env) (R : Room) (s : State) (m : MethodId) (args : Array Value) (below : List Frame) (meth : Method) (c : Code) (D : gG) (A : Nat → Prop) (nL : Nat) (Q : State → Prop) (cells slots : Nat) (ws : va_W) (L : List (Nat × Value)) (pc : Nat) (stk : List Value) : Prop :=
  cells ≤ R.cells ∧ slots ≤ R.slots → ∀ (H : Heap) (locs : List Loc) (ls : Array Slot), va_P D.1 vwCl ws H → va_D A ws → va_S A s.heap H locs → lv_has ls nL L → W p l e R s m args below meth c H locs cells slots Q (F0 m pc ls stk)
/-- the contract of method y: called with Av over the cells w0 it answers ov and leaves the cells w1 -/
def gM (l : Launch) (D : gG) (tys : List (ClassId × FieldType)) (y : MethodName) (cc : ByteArray) (maxL : Nat) (ret : Option FieldType) (rm : Room) (Av : List Value) (w0 : va_W) (ov : Option Value) (w1 : va_W) : Prop :=
  ∀ sz : Nat, Met l y (.code y cc maxL ret :: TT) rm (PcM D tys Av w0 sz) (QM D tys ov w0 w1 sz) 0 0 (va_A w0 sz)
theorem met_of {l : Launch} {D : gG} {tys : List (ClassId × FieldType)} {y : MethodName} {cc : ByteArray} {maxL : Nat} {ret : Option FieldType} {rm : Room} {Av : List Value} {w0 w1 : va_W} {ov : Option Value} (hy : plainName y.cls = true) (hn : (lg_sl Av).length ≤ maxL)
    (body : ∀ (p : Program) (e : Env) (s : State) (m : MethodId) (args : Array Value) (below : List Frame) (meth : Method) (c : Code) (A : Nat → Prop), gX p s m args meth c cc maxL y.cls D tys A → meth.sig.returnType = ret → A = va_A w0 s.heap.size →
      gW p l e rm s m args below meth c D A maxL (MQ below (QM D tys ov w0 w1 s.heap.size) args s 0 0 A) 0 0 w0 (lv_args 0 Av) 0 []) : gM l D tys y cc maxL ret rm Av w0 ov w1 := by
  intro sz
  refine Met.ofW (cc := cc) (maxL := maxL) (ret := ret) hy rfl ?_
  intro p e s m args below meth c s₁ B hml hv
  obtain ⟨rfl, hsz, hP, hK, hD0, hF0⟩ := hv
  subst hsz
  have hts := atoms_spec (ws := .code y cc maxL ret :: TT) B.pre
  have hown : s.vm.findClass y.cls = some m.cls := findClass_of_methodNamed B.named
  have hD := hD0.self (sz := s.heap.size)
  rw [lg_entry_eq]
  exact body p e s m _ below meth c (va_A w0 s.heap.size) ⟨B.exec, B.bytes, hml, hown, fun w h => hts w (List.mem_cons_of_mem _ h), hK, fun q h => Or.inr h, B.notSynchronized, hF0⟩ B.returns rfl ⟨Nat.zero_le _, Nat.zero_le _⟩ s.heap [] _ hP hD va_S.rf (lv_entry Av hn)
section GW
variable {p : Program} {l : Launch} {e : Env} {R : Room} {s : State} {m : MethodId} {args : Array Value} {below : List Frame} {meth : Method} {c : Code} {D : gG} {tys : List (ClassId × FieldType)} {A : Nat → Prop} {nL : Nat} {Q : State → Prop} {cells slots : Nat} {cc : ByteArray} {own : String}
variable {ws : va_W} {L L' : List (Nat × Value)} {pc : Nat} {stk : List Value} {β : Type} {r : β}
theorem g_sub (ks : List Nat) (hl : lv_pick L ks = L') (kk : gW p l e R s m args below meth c D A nL Q cells slots ws L' pc stk) : gW p l e R s m args below meth c D A nL Q cells slots ws L pc stk :=
  fun hc H locs ls hP hD hS h => kk hc H locs ls hP hD hS (lv_sub h ks hl)
theorem g_iln (cx : gX p s m args meth c cc nL own D tys A) {k : Fin 4} {x : Int32} (j : Nat) (hd : decode cc pc = .ok (.iload_n k, 1)) (hl : L[j]? = some ((k : Nat), .int x)) (kk : gW p l e R s m args below meth c D A nL Q cells slots ws L (pc + 1) (.int x :: stk)) : gW p l e R s m args below meth c D A nL Q cells slots ws L pc stk :=
  fun hc H locs ls hP hD hS h => lv_iload_n cx.1 cx.2.1 hd rfl (lv_at h j hl) (kk hc H locs ls hP hD hS h)
theorem g_il (cx : gX p s m args meth c cc nL own D tys A) {i : Nat} {x : Int32} (j : Nat) (hd : decode cc pc = .ok (.iload i, 2)) (hl : L[j]? = some (i, .int x)) (kk : gW p l e R s m args below meth c D A nL Q cells slots ws L (pc + 2) (.int x :: stk)) : gW p l e R s m args below meth c D A nL Q cells slots ws L pc stk :=
  fun hc H locs ls hP hD hS h => lv_iload cx.1 cx.2.1 hd (lv_at h j hl) (kk hc H locs ls hP hD hS h)
theorem g_lln (cx : gX p s m args meth c cc nL own D tys A) {k : Fin 4} {x : Int64} (j : Nat) (hd : decode cc pc = .ok (.lload_n k, 1)) (hl : L[j]? = some ((k : Nat), .long x)) (kk : gW p l e R s m args below meth c D A nL Q cells slots ws L (pc + 1) (.long x :: stk)) : gW p l e R s m args below meth c D A nL Q cells slots ws L pc stk :=
  fun hc H locs ls hP hD hS h => lv_lload_n cx.1 cx.2.1 hd rfl (lv_at h j hl) (kk hc H locs ls hP hD hS h)
theorem g_ll (cx : gX p s m args meth c cc nL own D tys A) {i : Nat} {x : Int64} (j : Nat) (hd : decode cc pc = .ok (.lload i, 2)) (hl : L[j]? = some (i, .long x)) (kk : gW p l e R s m args below meth c D A nL Q cells slots ws L (pc + 2) (.long x :: stk)) : gW p l e R s m args below meth c D A nL Q cells slots ws L pc stk :=
  fun hc H locs ls hP hD hS h => lv_lload cx.1 cx.2.1 hd (lv_at h j hl) (kk hc H locs ls hP hD hS h)
theorem g_aln (cx : gX p s m args meth c cc nL own D tys A) {k : Fin 4} {x : Nat} (j : Nat) (hd : decode cc pc = .ok (.aload_n k, 1)) (hl : L[j]? = some ((k : Nat), .ref x)) (kk : gW p l e R s m args below meth c D A nL Q cells slots ws L (pc + 1) (.ref x :: stk)) : gW p l e R s m args below meth c D A nL Q cells slots ws L pc stk :=
  fun hc H locs ls hP hD hS h => lv_aload_n cx.1 cx.2.1 hd rfl (lv_at h j hl) (kk hc H locs ls hP hD hS h)
theorem g_al (cx : gX p s m args meth c cc nL own D tys A) {i : Nat} {x : Nat} (j : Nat) (hd : decode cc pc = .ok (.aload i, 2)) (hl : L[j]? = some (i, .ref x)) (kk : gW p l e R s m args below meth c D A nL Q cells slots ws L (pc + 2) (.ref x :: stk)) : gW p l e R s m args below meth c D A nL Q cells slots ws L pc stk :=
  fun hc H locs ls hP hD hS h => lv_aload cx.1 cx.2.1 hd (lv_at h j hl) (kk hc H locs ls hP hD hS h)
theorem g_ic (cx : gX p s m args meth c cc nL own D tys A) {n : Int} {v : Int32} (hd : decode cc pc = .ok (.iconst n, 1)) (hv : Int32.ofInt n = v) (kk : gW p l e R s m args below meth c D A nL Q cells slots ws L (pc + 1) (.int v :: stk)) : gW p l e R s m args below meth c D A nL Q cells slots ws L pc stk :=
  fun hc H locs ls hP hD hS h => lv_iconst cx.1 cx.2.1 hd hv (kk hc H locs ls hP hD hS h)
theorem g_bp (cx : gX p s m args meth c cc nL own D tys A) {n : Int} {v : Int32} (hd : decode cc pc = .ok (.bipush n, 2)) (hv : (Int8.ofInt n).toInt32 = v) (kk : gW p l e R s m args below meth c D A nL Q cells slots ws L (pc + 2) (.int v :: stk)) : gW p l e R s m args below meth c D A nL Q cells slots ws L pc stk :=
  fun hc H locs ls hP hD hS h => lv_bipush cx.1 cx.2.1 hd hv (kk hc H locs ls hP hD hS h)
theorem g_sp (cx : gX p s m args meth c cc nL own D tys A) {n : Int} {v : Int32} (hd : decode cc pc = .ok (.sipush n, 3)) (hv : (Int16.ofInt n).toInt32 = v) (kk : gW p l e R s m args below meth c D A nL Q cells slots ws L (pc + 3) (.int v :: stk)) : gW p l e R s m args below meth c D A nL Q cells slots ws L pc stk :=
  fun hc H locs ls hP hD hS h => lv_sipush cx.1 cx.2.1 hd hv (kk hc H locs ls hP hD hS h)
theorem g_lc (cx : gX p s m args meth c cc nL own D tys A) {n : Fin 2} {v : Int64} (hd : decode cc pc = .ok (.lconst n, 1)) (hv : Int64.ofNat (n : Nat) = v) (kk : gW p l e R s m args below meth c D A nL Q cells slots ws L (pc + 1) (.long v :: stk)) : gW p l e R s m args below meth c D A nL Q cells slots ws L pc stk :=
  fun hc H locs ls hP hD hS h => lv_lconst cx.1 cx.2.1 hd hv (kk hc H locs ls hP hD hS h)
theorem g_ldc (cx : gX p s m args meth c cc nL own D tys A) {n : Nat} {v : Int32} (hw : Cond.constant own n v ∈ TT) (hd : decode cc pc = .ok (.ldc n, 2)) (kk : gW p l e R s m args below meth c D A nL Q cells slots ws L (pc + 2) (.int v :: stk)) : gW p l e R s m args below meth c D A nL Q cells slots ws L pc stk :=
  fun hc H locs ls hP hD hS h => lv_ldc cx.1 cx.2.1 cx.2.2.2.1 (cx.2.2.2.2.1 _ hw) hd (kk hc H locs ls hP hD hS h)
theorem g_ldc2 (cx : gX p s m args meth c cc nL own D tys A) {n : Nat} {v : Int64} (hw : Cond.constantLong own n v ∈ TT) (hd : decode cc pc = .ok (.ldc2_w n, 3)) (kk : gW p l e R s m args below meth c D A nL Q cells slots ws L (pc + 3) (.long v :: stk)) : gW p l e R s m args below meth c D A nL Q cells slots ws L pc stk :=
  fun hc H locs ls hP hD hS h => lv_ldc2 cx.1 cx.2.1 cx.2.2.2.1 (cx.2.2.2.2.1 _ hw) hd (kk hc H locs ls hP hD hS h)
theorem g_ldcw (cx : gX p s m args meth c cc nL own D tys A) {n : Nat} {v : Int32} (hw : Cond.constant own n v ∈ TT) (hd : decode cc pc = .ok (.ldc_w n, 3)) (kk : gW p l e R s m args below meth c D A nL Q cells slots ws L (pc + 3) (.int v :: stk)) : gW p l e R s m args below meth c D A nL Q cells slots ws L pc stk :=
  fun hc H locs ls hP hD hS h => lv_ldcw cx.1 cx.2.1 cx.2.2.2.1 (cx.2.2.2.2.1 _ hw) hd (kk hc H locs ls hP hD hS h)
theorem g_isn (cx : gX p s m args meth c cc nL own D tys A) {k : Fin 4} {x : Int32} {kf : Int32 → Option β} {L2 : Int32 → List (Nat × Value)} (hf : nm x kf = some r) (hd : decode cc pc = .ok (.istore_n k, 1)) (hn : (k : Nat) < nL) (hl : ∀ x, ((k : Nat), Value.int x) :: L.filter (fun q => !(q.1 == (k : Nat)) && !(q.1 + 1 == (k : Nat) && q.2.category == 2)) = L2 x)
    (kk : ∀ y : Int32, kf y = some r → gW p l e R s m args below meth c D A nL Q cells slots ws (L2 y) (pc + 1) stk) : gW p l e R s m args below meth c D A nL Q cells slots ws L pc (.int x :: stk) :=
  fun hc H locs ls hP hD hS h => lv_istore_n cx.1 cx.2.1 hd rfl h hn (hl x) (fun ls2 h2 => kk x hf hc H locs ls2 hP hD hS h2)
theorem g_is (cx : gX p s m args meth c cc nL own D tys A) {i : Nat} {x : Int32} {kf : Int32 → Option β} {L2 : Int32 → List (Nat × Value)} (hf : nm x kf = some r) (hd : decode cc pc = .ok (.istore i, 2)) (hn : i < nL) (hl : ∀ x, (i, Value.int x) :: L.filter (fun q => !(q.1 == i) && !(q.1 + 1 == i && q.2.category == 2)) = L2 x)
    (kk : ∀ y : Int32, kf y = some r → gW p l e R s m args below meth c D A nL Q cells slots ws (L2 y) (pc + 2) stk) : gW p l e R s m args below meth c D A nL Q cells slots ws L pc (.int x :: stk) :=
  fun hc H locs ls hP hD hS h => lv_istore cx.1 cx.2.1 hd h hn (hl x) (fun ls2 h2 => kk x hf hc H locs ls2 hP hD hS h2)
theorem g_lsn (cx : gX p s m args meth c cc nL own D tys A) {k : Fin 4} {x : Int64} {kf : Int64 → Option β} {L2 : Int64 → List (Nat × Value)} (hf : nm x kf = some r) (hd : decode cc pc = .ok (.lstore_n k, 1)) (hn : (k : Nat) + 1 < nL) (hl : ∀ x, ((k : Nat), Value.long x) :: L.filter (fun q => !(q.1 == (k : Nat)) && (!(q.1 == (k : Nat) + 1) && !(q.1 + 1 == (k : Nat) && q.2.category == 2))) = L2 x)
    (kk : ∀ y : Int64, kf y = some r → gW p l e R s m args below meth c D A nL Q cells slots ws (L2 y) (pc + 1) stk) : gW p l e R s m args below meth c D A nL Q cells slots ws L pc (.long x :: stk) :=
  fun hc H locs ls hP hD hS h => lv_lstore_n cx.1 cx.2.1 hd rfl h hn (hl x) (fun ls2 h2 => kk x hf hc H locs ls2 hP hD hS h2)
theorem g_ls (cx : gX p s m args meth c cc nL own D tys A) {i : Nat} {x : Int64} {kf : Int64 → Option β} {L2 : Int64 → List (Nat × Value)} (hf : nm x kf = some r) (hd : decode cc pc = .ok (.lstore i, 2)) (hn : i + 1 < nL) (hl : ∀ x, (i, Value.long x) :: L.filter (fun q => !(q.1 == i) && (!(q.1 == i + 1) && !(q.1 + 1 == i && q.2.category == 2))) = L2 x)
    (kk : ∀ y : Int64, kf y = some r → gW p l e R s m args below meth c D A nL Q cells slots ws (L2 y) (pc + 2) stk) : gW p l e R s m args below meth c D A nL Q cells slots ws L pc (.long x :: stk) :=
  fun hc H locs ls hP hD hS h => lv_lstore cx.1 cx.2.1 hd h hn (hl x) (fun ls2 h2 => kk x hf hc H locs ls2 hP hD hS h2)
theorem g_asn (cx : gX p s m args meth c cc nL own D tys A) {k : Fin 4} {x : Nat} (hd : decode cc pc = .ok (.astore_n k, 1)) (hn : (k : Nat) < nL) (hl : ((k : Nat), Value.ref x) :: L.filter (fun q => !(q.1 == (k : Nat)) && !(q.1 + 1 == (k : Nat) && q.2.category == 2)) = L')
    (kk : gW p l e R s m args below meth c D A nL Q cells slots ws L' (pc + 1) stk) : gW p l e R s m args below meth c D A nL Q cells slots ws L pc (.ref x :: stk) :=
  fun hc H locs ls hP hD hS h => lv_astore_n cx.1 cx.2.1 hd rfl h hn hl (fun ls2 h2 => kk hc H locs ls2 hP hD hS h2)
theorem g_as (cx : gX p s m args meth c cc nL own D tys A) {i : Nat} {x : Nat} (hd : decode cc pc = .ok (.astore i, 2)) (hn : i < nL) (hl : (i, Value.ref x) :: L.filter (fun q => !(q.1 == i) && !(q.1 + 1 == i && q.2.category == 2)) = L')
    (kk : gW p l e R s m args below meth c D A nL Q cells slots ws L' (pc + 2) stk) : gW p l e R s m args below meth c D A nL Q cells slots ws L pc (.ref x :: stk) :=
  fun hc H locs ls hP hD hS h => lv_astore cx.1 cx.2.1 hd h hn hl (fun ls2 h2 => kk hc H locs ls2 hP hD hS h2)
theorem g_inc (cx : gX p s m args meth c cc nL own D tys A) {i : Nat} {n : Int} {x v : Int32} {kf : Int32 → Option β} {L2 : Int32 → List (Nat × Value)} (j : Nat) (hf : nm v kf = some r) (hd : decode cc pc = .ok (.iinc i n, 3)) (hk : L[j]? = some (i, .int x)) (hv : x + Int32.ofInt n = v) (hn : i < nL) (hl : ∀ v, (i, Value.int v) :: L.filter (fun q => !(q.1 == i) && !(q.1 + 1 == i && q.2.category == 2)) = L2 v)
    (kk : ∀ y : Int32, kf y = some r → gW p l e R s m args below meth c D A nL Q cells slots ws (L2 y) (pc + 3) stk) : gW p l e R s m args below meth c D A nL Q cells slots ws L pc stk :=
  fun hc H locs ls hP hD hS h => lv_iinc cx.1 cx.2.1 hd h hk hv hn (hl v) (fun ls2 h2 => kk v hf hc H locs ls2 hP hD hS h2)
theorem g_dup (cx : gX p s m args meth c cc nL own D tys A) {va : Value} (hd : decode cc pc = .ok (.dup, 1)) (h1 : va.category = 1) (kk : gW p l e R s m args below meth c D A nL Q cells slots ws L (pc + 1) (va :: va :: stk)) : gW p l e R s m args below meth c D A nL Q cells slots ws L pc (va :: stk) :=
  fun hc H locs ls hP hD hS h => lv_dup cx.1 cx.2.1 hd h1 (kk hc H locs ls hP hD hS h)
theorem g_dup2 (cx : gX p s m args meth c cc nL own D tys A) {va vb : Value} (hd : decode cc pc = .ok (.dup2, 1)) (h1 : va.category = 1) (h2 : vb.category = 1) (kk : gW p l e R s m args below meth c D A nL Q cells slots ws L (pc + 1) (va :: vb :: va :: vb :: stk)) : gW p l e R s m args below meth c D A nL Q cells slots ws L pc (va :: vb :: stk) :=
  fun hc H locs ls hP hD hS h => lv_dup2_11 cx.1 cx.2.1 hd h1 h2 (kk hc H locs ls hP hD hS h)
theorem g_pop (cx : gX p s m args meth c cc nL own D tys A) {va : Value} (hd : decode cc pc = .ok (.pop, 1)) (h1 : va.category = 1) (kk : gW p l e R s m args below meth c D A nL Q cells slots ws L (pc + 1) stk) : gW p l e R s m args below meth c D A nL Q cells slots ws L pc (va :: stk) :=
  fun hc H locs ls hP hD hS h => lv_pop cx.1 cx.2.1 hd h1 (kk hc H locs ls hP hD hS h)
theorem g_iadd (cx : gX p s m args meth c cc nL own D tys A) {x y : Int32} (hd : decode cc pc = .ok (.iadd, 1)) (kk : gW p l e R s m args below meth c D A nL Q cells slots ws L (pc + 1) (.int (x + y) :: stk)) : gW p l e R s m args below meth c D A nL Q cells slots ws L pc (.int y :: .int x :: stk) :=
  fun hc H locs ls hP hD hS h => lv_iadd cx.1 cx.2.1 hd (kk hc H locs ls hP hD hS h)
theorem g_isub (cx : gX p s m args meth c cc nL own D tys A) {x y : Int32} (hd : decode cc pc = .ok (.isub, 1)) (kk : gW p l e R s m args below meth c D A nL Q cells slots ws L (pc + 1) (.int (x - y) :: stk)) : gW p l e R s m args below meth c D A nL Q cells slots ws L pc (.int y :: .int x :: stk) :=
  fun hc H locs ls hP hD hS h => lv_isub cx.1 cx.2.1 hd (kk hc H locs ls hP hD hS h)
theorem g_imul (cx : gX p s m args meth c cc nL own D tys A) {x y : Int32} (hd : decode cc pc = .ok (.imul, 1)) (kk : gW p l e R s m args below meth c D A nL Q cells slots ws L (pc + 1) (.int (x * y) :: stk)) : gW p l e R s m args below meth c D A nL Q cells slots ws L pc (.int y :: .int x :: stk) :=
  fun hc H locs ls hP hD hS h => lv_imul cx.1 cx.2.1 hd (kk hc H locs ls hP hD hS h)
theorem g_iand (cx : gX p s m args meth c cc nL own D tys A) {x y : Int32} (hd : decode cc pc = .ok (.iand, 1)) (kk : gW p l e R s m args below meth c D A nL Q cells slots ws L (pc + 1) (.int (x &&& y) :: stk)) : gW p l e R s m args below meth c D A nL Q cells slots ws L pc (.int y :: .int x :: stk) :=
  fun hc H locs ls hP hD hS h => lv_iand cx.1 cx.2.1 hd (kk hc H locs ls hP hD hS h)
theorem g_ior (cx : gX p s m args meth c cc nL own D tys A) {x y : Int32} (hd : decode cc pc = .ok (.ior, 1)) (kk : gW p l e R s m args below meth c D A nL Q cells slots ws L (pc + 1) (.int (x ||| y) :: stk)) : gW p l e R s m args below meth c D A nL Q cells slots ws L pc (.int y :: .int x :: stk) :=
  fun hc H locs ls hP hD hS h => lv_ior cx.1 cx.2.1 hd (kk hc H locs ls hP hD hS h)
theorem g_ixor (cx : gX p s m args meth c cc nL own D tys A) {x y : Int32} (hd : decode cc pc = .ok (.ixor, 1)) (kk : gW p l e R s m args below meth c D A nL Q cells slots ws L (pc + 1) (.int (x ^^^ y) :: stk)) : gW p l e R s m args below meth c D A nL Q cells slots ws L pc (.int y :: .int x :: stk) :=
  fun hc H locs ls hP hD hS h => lv_ixor cx.1 cx.2.1 hd (kk hc H locs ls hP hD hS h)
theorem g_ishl (cx : gX p s m args meth c cc nL own D tys A) {x y : Int32} (hd : decode cc pc = .ok (.ishl, 1)) (kk : gW p l e R s m args below meth c D A nL Q cells slots ws L (pc + 1) (.int (x <<< (y &&& 31)) :: stk)) : gW p l e R s m args below meth c D A nL Q cells slots ws L pc (.int y :: .int x :: stk) :=
  fun hc H locs ls hP hD hS h => lv_ishl cx.1 cx.2.1 hd (kk hc H locs ls hP hD hS h)
theorem g_ishr (cx : gX p s m args meth c cc nL own D tys A) {x y : Int32} (hd : decode cc pc = .ok (.ishr, 1)) (kk : gW p l e R s m args below meth c D A nL Q cells slots ws L (pc + 1) (.int (x >>> (y &&& 31)) :: stk)) : gW p l e R s m args below meth c D A nL Q cells slots ws L pc (.int y :: .int x :: stk) :=
  fun hc H locs ls hP hD hS h => lv_ishr cx.1 cx.2.1 hd (kk hc H locs ls hP hD hS h)
theorem g_ladd (cx : gX p s m args meth c cc nL own D tys A) {x y : Int64} (hd : decode cc pc = .ok (.ladd, 1)) (kk : gW p l e R s m args below meth c D A nL Q cells slots ws L (pc + 1) (.long (x + y) :: stk)) : gW p l e R s m args below meth c D A nL Q cells slots ws L pc (.long y :: .long x :: stk) :=
  fun hc H locs ls hP hD hS h => lv_ladd cx.1 cx.2.1 hd (kk hc H locs ls hP hD hS h)
theorem g_lsub (cx : gX p s m args meth c cc nL own D tys A) {x y : Int64} (hd : decode cc pc = .ok (.lsub, 1)) (kk : gW p l e R s m args below meth c D A nL Q cells slots ws L (pc + 1) (.long (x - y) :: stk)) : gW p l e R s m args below meth c D A nL Q cells slots ws L pc (.long y :: .long x :: stk) :=
  fun hc H locs ls hP hD hS h => lv_lsub cx.1 cx.2.1 hd (kk hc H locs ls hP hD hS h)
theorem g_lmul (cx : gX p s m args meth c cc nL own D tys A) {x y : Int64} (hd : decode cc pc = .ok (.lmul, 1)) (kk : gW p l e R s m args below meth c D A nL Q cells slots ws L (pc + 1) (.long (x * y) :: stk)) : gW p l e R s m args below meth c D A nL Q cells slots ws L pc (.long y :: .long x :: stk) :=
  fun hc H locs ls hP hD hS h => lv_lmul cx.1 cx.2.1 hd (kk hc H locs ls hP hD hS h)
theorem g_land (cx : gX p s m args meth c cc nL own D tys A) {x y : Int64} (hd : decode cc pc = .ok (.land, 1)) (kk : gW p l e R s m args below meth c D A nL Q cells slots ws L (pc + 1) (.long (x &&& y) :: stk)) : gW p l e R s m args below meth c D A nL Q cells slots ws L pc (.long y :: .long x :: stk) :=
  fun hc H locs ls hP hD hS h => lv_land cx.1 cx.2.1 hd (kk hc H locs ls hP hD hS h)
theorem g_lor (cx : gX p s m args meth c cc nL own D tys A) {x y : Int64} (hd : decode cc pc = .ok (.lor, 1)) (kk : gW p l e R s m args below meth c D A nL Q cells slots ws L (pc + 1) (.long (x ||| y) :: stk)) : gW p l e R s m args below meth c D A nL Q cells slots ws L pc (.long y :: .long x :: stk) :=
  fun hc H locs ls hP hD hS h => lv_lor cx.1 cx.2.1 hd (kk hc H locs ls hP hD hS h)
theorem g_i2l (cx : gX p s m args meth c cc nL own D tys A) {x : Int32} (hd : decode cc pc = .ok (.i2l, 1)) (kk : gW p l e R s m args below meth c D A nL Q cells slots ws L (pc + 1) (.long x.toInt64 :: stk)) : gW p l e R s m args below meth c D A nL Q cells slots ws L pc (.int x :: stk) :=
  fun hc H locs ls hP hD hS h => lv_i2l cx.1 cx.2.1 hd rfl (kk hc H locs ls hP hD hS h)
theorem g_l2i (cx : gX p s m args meth c cc nL own D tys A) {x : Int64} (hd : decode cc pc = .ok (.l2i, 1)) (kk : gW p l e R s m args below meth c D A nL Q cells slots ws L (pc + 1) (.int x.toInt32 :: stk)) : gW p l e R s m args below meth c D A nL Q cells slots ws L pc (.long x :: stk) :=
  fun hc H locs ls hP hD hS h => lv_l2i cx.1 cx.2.1 hd rfl (kk hc H locs ls hP hD hS h)
theorem g_i2b (cx : gX p s m args meth c cc nL own D tys A) {x : Int32} (hd : decode cc pc = .ok (.i2b, 1)) (kk : gW p l e R s m args below meth c D A nL Q cells slots ws L (pc + 1) (.int x.toInt8.toInt32 :: stk)) : gW p l e R s m args below meth c D A nL Q cells slots ws L pc (.int x :: stk) :=
  fun hc H locs ls hP hD hS h => lv_i2b cx.1 cx.2.1 hd rfl (kk hc H locs ls hP hD hS h)
theorem g_iushr (cx : gX p s m args meth c cc nL own D tys A) {x y : Int32} (hd : decode cc pc = .ok (.iushr, 1)) (kk : gW p l e R s m args below meth c D A nL Q cells slots ws L (pc + 1) (.int (x.toUInt32 >>> (y.toUInt32 &&& Int32.toUInt32 31)).toInt32 :: stk)) : gW p l e R s m args below meth c D A nL Q cells slots ws L pc (.int y :: .int x :: stk) :=
  fun hc H locs ls hP hD hS h => lv_iushr cx.1 cx.2.1 hd rfl (kk hc H locs ls hP hD hS h)
theorem g_lushr (cx : gX p s m args meth c cc nL own D tys A) {x : Int64} {y : Int32} (hd : decode cc pc = .ok (.lushr, 1)) (kk : gW p l e R s m args below meth c D A nL Q cells slots ws L (pc + 1) (.long (x.toUInt64 >>> (y.toInt64.toUInt64 &&& Int64.toUInt64 63)).toInt64 :: stk)) : gW p l e R s m args below meth c D A nL Q cells slots ws L pc (.int y :: .long x :: stk) :=
  fun hc H locs ls hP hD hS h => lv_lushr cx.1 cx.2.1 hd rfl (kk hc H locs ls hP hD hS h)
theorem g_lshr (cx : gX p s m args meth c cc nL own D tys A) {x : Int64} {y : Int32} (hd : decode cc pc = .ok (.lshr, 1)) (kk : gW p l e R s m args below meth c D A nL Q cells slots ws L (pc + 1) (.long (x >>> (y.toInt64 &&& 63)) :: stk)) : gW p l e R s m args below meth c D A nL Q cells slots ws L pc (.int y :: .long x :: stk) :=
  fun hc H locs ls hP hD hS h => lv_lshr cx.1 cx.2.1 hd rfl (kk hc H locs ls hP hD hS h)
theorem g_lshl (cx : gX p s m args meth c cc nL own D tys A) {x : Int64} {y : Int32} (hd : decode cc pc = .ok (.lshl, 1)) (kk : gW p l e R s m args below meth c D A nL Q cells slots ws L (pc + 1) (.long (x <<< (y.toInt64 &&& 63)) :: stk)) : gW p l e R s m args below meth c D A nL Q cells slots ws L pc (.int y :: .long x :: stk) :=
  fun hc H locs ls hP hD hS h => lv_lshl cx.1 cx.2.1 hd rfl (kk hc H locs ls hP hD hS h)
theorem g_lcmp (cx : gX p s m args meth c cc nL own D tys A) {x y : Int64} (hd : decode cc pc = .ok (.lcmp, 1)) (kk : gW p l e R s m args below meth c D A nL Q cells slots ws L (pc + 1) (.int (lg_cmp x y) :: stk)) : gW p l e R s m args below meth c D A nL Q cells slots ws L pc (.long y :: .long x :: stk) :=
  fun hc H locs ls hP hD hS h => W.lcmp cx.1 cx.2.1 hd (kk hc H locs ls hP hD hS h)
theorem g_irem (cx : gX p s m args meth c cc nL own D tys A) {x y : Int32} {kf : Int32 → Option β} (hf : (orem x y).bind kf = some r) (hd : decode cc pc = .ok (.irem, 1)) (kk : ∀ v : Int32, kf v = some r → gW p l e R s m args below meth c D A nL Q cells slots ws L (pc + 1) (.int v :: stk)) : gW p l e R s m args below meth c D A nL Q cells slots ws L pc (.int y :: .int x :: stk) := by
  refine ob hf (fun v h1 hf => ?_)
  obtain ⟨h2, rfl⟩ := orem_some h1
  exact fun hc H locs ls hP hD hS h => lv_irem cx.1 cx.2.1 hd h2 (kk _ hf hc H locs ls hP hD hS h)
theorem g_goto (cx : gX p s m args meth c cc nL own D tys A) {off : Int} {tgt : Nat} (hd : decode cc pc = .ok (.goto off, 3)) (ht : (pc : Int) + off = (tgt : Int)) (kk : gW p l e R s m args below meth c D A nL Q cells slots ws L tgt stk) : gW p l e R s m args below meth c D A nL Q cells slots ws L pc stk :=
  fun hc H locs ls hP hD hS h => lv_goto cx.1 cx.2.1 hd ht (kk hc H locs ls hP hD hS h)
theorem g_nn (cx : gX p s m args meth c cc nL own D tys A) {off : Int} {tgt x : Nat} (hd : decode cc pc = .ok (.ifnonnull off, 3)) (ht : (pc : Int) + off = (tgt : Int)) (kk : gW p l e R s m args below meth c D A nL Q cells slots ws L tgt stk) : gW p l e R s m args below meth c D A nL Q cells slots ws L pc (.ref x :: stk) :=
  fun hc H locs ls hP hD hS h => lv_ifnonnull cx.1 cx.2.1 hd ht (kk hc H locs ls hP hD hS h)
theorem g_nl (cx : gX p s m args meth c cc nL own D tys A) {off : Int} {x : Nat} (hd : decode cc pc = .ok (.ifnull off, 3)) (kk : gW p l e R s m args below meth c D A nL Q cells slots ws L (pc + 3) stk) : gW p l e R s m args below meth c D A nL Q cells slots ws L pc (.ref x :: stk) :=
  fun hc H locs ls hP hD hS h => lv_ifnull cx.1 cx.2.1 hd (kk hc H locs ls hP hD hS h)
theorem g_if_eq (cx : gX p s m args meth c cc nL own D tys A) {x : Int32} {F G : Option β} {off : Int} {tgt : Nat} (hf : (if x = 0 then F else G) = some r) (hd : decode cc pc = .ok (.ifCond .eq off, 3)) (ht : (pc : Int) + off = (tgt : Int)) (k1 : F = some r → gW p l e R s m args below meth c D A nL Q cells slots ws L tgt stk) (k2 : G = some r → gW p l e R s m args below meth c D A nL Q cells slots ws L (pc + 3) stk) : gW p l e R s m args below meth c D A nL Q cells slots ws L pc (.int x :: stk) :=
  fun hc H locs ls hP hD hS h => lv_if_eq cx.1 cx.2.1 hd ht (fun q => k1 (by rw [if_pos q] at hf; exact hf) hc H locs ls hP hD hS h) (fun q => k2 (by rw [if_neg q] at hf; exact hf) hc H locs ls hP hD hS h)
theorem g_if_ne (cx : gX p s m args meth c cc nL own D tys A) {x : Int32} {F G : Option β} {off : Int} {tgt : Nat} (hf : (if x = 0 then F else G) = some r) (hd : decode cc pc = .ok (.ifCond .ne off, 3)) (ht : (pc : Int) + off = (tgt : Int)) (k1 : G = some r → gW p l e R s m args below meth c D A nL Q cells slots ws L tgt stk) (k2 : F = some r → gW p l e R s m args below meth c D A nL Q cells slots ws L (pc + 3) stk) : gW p l e R s m args below meth c D A nL Q cells slots ws L pc (.int x :: stk) :=
  fun hc H locs ls hP hD hS h => lv_if_ne cx.1 cx.2.1 hd ht (fun q => k1 (by rw [if_neg q] at hf; exact hf) hc H locs ls hP hD hS h) (fun q => k2 (by rw [if_pos q] at hf; exact hf) hc H locs ls hP hD hS h)
theorem g_if_lt (cx : gX p s m args meth c cc nL own D tys A) {x : Int32} {F G : Option β} {off : Int} {tgt : Nat} (hf : (if x < 0 then F else G) = some r) (hd : decode cc pc = .ok (.ifCond .lt off, 3)) (ht : (pc : Int) + off = (tgt : Int)) (k1 : F = some r → gW p l e R s m args below meth c D A nL Q cells slots ws L tgt stk) (k2 : G = some r → gW p l e R s m args below meth c D A nL Q cells slots ws L (pc + 3) stk) : gW p l e R s m args below meth c D A nL Q cells slots ws L pc (.int x :: stk) :=
  fun hc H locs ls hP hD hS h => lv_if_lt cx.1 cx.2.1 hd ht (fun q => k1 (by rw [if_pos q] at hf; exact hf) hc H locs ls hP hD hS h) (fun q => k2 (by rw [if_neg q] at hf; exact hf) hc H locs ls hP hD hS h)
theorem g_if_ge (cx : gX p s m args meth c cc nL own D tys A) {x : Int32} {F G : Option β} {off : Int} {tgt : Nat} (hf : (if 0 ≤ x then F else G) = some r) (hd : decode cc pc = .ok (.ifCond .ge off, 3)) (ht : (pc : Int) + off = (tgt : Int)) (k1 : F = some r → gW p l e R s m args below meth c D A nL Q cells slots ws L tgt stk) (k2 : G = some r → gW p l e R s m args below meth c D A nL Q cells slots ws L (pc + 3) stk) : gW p l e R s m args below meth c D A nL Q cells slots ws L pc (.int x :: stk) :=
  fun hc H locs ls hP hD hS h => lv_if_ge cx.1 cx.2.1 hd ht (fun q => k1 (by rw [if_pos q] at hf; exact hf) hc H locs ls hP hD hS h) (fun q => k2 (by rw [if_neg q] at hf; exact hf) hc H locs ls hP hD hS h)
theorem g_if_gt (cx : gX p s m args meth c cc nL own D tys A) {x : Int32} {F G : Option β} {off : Int} {tgt : Nat} (hf : (if 0 < x then F else G) = some r) (hd : decode cc pc = .ok (.ifCond .gt off, 3)) (ht : (pc : Int) + off = (tgt : Int)) (k1 : F = some r → gW p l e R s m args below meth c D A nL Q cells slots ws L tgt stk) (k2 : G = some r → gW p l e R s m args below meth c D A nL Q cells slots ws L (pc + 3) stk) : gW p l e R s m args below meth c D A nL Q cells slots ws L pc (.int x :: stk) :=
  fun hc H locs ls hP hD hS h => lv_if_gt cx.1 cx.2.1 hd ht (fun q => k1 (by rw [if_pos q] at hf; exact hf) hc H locs ls hP hD hS h) (fun q => k2 (by rw [if_neg q] at hf; exact hf) hc H locs ls hP hD hS h)
theorem g_if_le (cx : gX p s m args meth c cc nL own D tys A) {x : Int32} {F G : Option β} {off : Int} {tgt : Nat} (hf : (if x ≤ 0 then F else G) = some r) (hd : decode cc pc = .ok (.ifCond .le off, 3)) (ht : (pc : Int) + off = (tgt : Int)) (k1 : F = some r → gW p l e R s m args below meth c D A nL Q cells slots ws L tgt stk) (k2 : G = some r → gW p l e R s m args below meth c D A nL Q cells slots ws L (pc + 3) stk) : gW p l e R s m args below meth c D A nL Q cells slots ws L pc (.int x :: stk) :=
  fun hc H locs ls hP hD hS h => lv_if_le cx.1 cx.2.1 hd ht (fun q => k1 (by rw [if_pos q] at hf; exact hf) hc H locs ls hP hD hS h) (fun q => k2 (by rw [if_neg q] at hf; exact hf) hc H locs ls hP hD hS h)
theorem g_ic_eq (cx : gX p s m args meth c cc nL own D tys A) {x y : Int32} {F G : Option β} {off : Int} {tgt : Nat} (hf : (if x = y then F else G) = some r) (hd : decode cc pc = .ok (.if_icmp .eq off, 3)) (ht : (pc : Int) + off = (tgt : Int)) (k1 : F = some r → gW p l e R s m args below meth c D A nL Q cells slots ws L tgt stk) (k2 : G = some r → gW p l e R s m args below meth c D A nL Q cells slots ws L (pc + 3) stk) : gW p l e R s m args below meth c D A nL Q cells slots ws L pc (.int y :: .int x :: stk) :=
  fun hc H locs ls hP hD hS h => lv_icmp_eq cx.1 cx.2.1 hd ht (fun q => k1 (by rw [if_pos q] at hf; exact hf) hc H locs ls hP hD hS h) (fun q => k2 (by rw [if_neg q] at hf; exact hf) hc H locs ls hP hD hS h)
theorem g_ic_ne (cx : gX p s m args meth c cc nL own D tys A) {x y : Int32} {F G : Option β} {off : Int} {tgt : Nat} (hf : (if x = y then F else G) = some r) (hd : decode cc pc = .ok (.if_icmp .ne off, 3)) (ht : (pc : Int) + off = (tgt : Int)) (k1 : G = some r → gW p l e R s m args below meth c D A nL Q cells slots ws L tgt stk) (k2 : F = some r → gW p l e R s m args below meth c D A nL Q cells slots ws L (pc + 3) stk) : gW p l e R s m args below meth c D A nL Q cells slots ws L pc (.int y :: .int x :: stk) :=
  fun hc H locs ls hP hD hS h => lv_icmp_ne cx.1 cx.2.1 hd ht (fun q => k1 (by rw [if_neg q] at hf; exact hf) hc H locs ls hP hD hS h) (fun q => k2 (by rw [if_pos q] at hf; exact hf) hc H locs ls hP hD hS h)
theorem g_ic_lt (cx : gX p s m args meth c cc nL own D tys A) {x y : Int32} {F G : Option β} {off : Int} {tgt : Nat} (hf : (if x < y then F else G) = some r) (hd : decode cc pc = .ok (.if_icmp .lt off, 3)) (ht : (pc : Int) + off = (tgt : Int)) (k1 : F = some r → gW p l e R s m args below meth c D A nL Q cells slots ws L tgt stk) (k2 : G = some r → gW p l e R s m args below meth c D A nL Q cells slots ws L (pc + 3) stk) : gW p l e R s m args below meth c D A nL Q cells slots ws L pc (.int y :: .int x :: stk) :=
  fun hc H locs ls hP hD hS h => lv_icmp_lt cx.1 cx.2.1 hd ht (fun q => k1 (by rw [if_pos q] at hf; exact hf) hc H locs ls hP hD hS h) (fun q => k2 (by rw [if_neg q] at hf; exact hf) hc H locs ls hP hD hS h)
theorem g_ic_ge (cx : gX p s m args meth c cc nL own D tys A) {x y : Int32} {F G : Option β} {off : Int} {tgt : Nat} (hf : (if y ≤ x then F else G) = some r) (hd : decode cc pc = .ok (.if_icmp .ge off, 3)) (ht : (pc : Int) + off = (tgt : Int)) (k1 : F = some r → gW p l e R s m args below meth c D A nL Q cells slots ws L tgt stk) (k2 : G = some r → gW p l e R s m args below meth c D A nL Q cells slots ws L (pc + 3) stk) : gW p l e R s m args below meth c D A nL Q cells slots ws L pc (.int y :: .int x :: stk) :=
  fun hc H locs ls hP hD hS h => lv_icmp_ge cx.1 cx.2.1 hd ht (fun q => k1 (by rw [if_pos q] at hf; exact hf) hc H locs ls hP hD hS h) (fun q => k2 (by rw [if_neg q] at hf; exact hf) hc H locs ls hP hD hS h)
theorem g_ic_gt (cx : gX p s m args meth c cc nL own D tys A) {x y : Int32} {F G : Option β} {off : Int} {tgt : Nat} (hf : (if y < x then F else G) = some r) (hd : decode cc pc = .ok (.if_icmp .gt off, 3)) (ht : (pc : Int) + off = (tgt : Int)) (k1 : F = some r → gW p l e R s m args below meth c D A nL Q cells slots ws L tgt stk) (k2 : G = some r → gW p l e R s m args below meth c D A nL Q cells slots ws L (pc + 3) stk) : gW p l e R s m args below meth c D A nL Q cells slots ws L pc (.int y :: .int x :: stk) :=
  fun hc H locs ls hP hD hS h => lv_icmp_gt cx.1 cx.2.1 hd ht (fun q => k1 (by rw [if_pos q] at hf; exact hf) hc H locs ls hP hD hS h) (fun q => k2 (by rw [if_neg q] at hf; exact hf) hc H locs ls hP hD hS h)
theorem g_ic_le (cx : gX p s m args meth c cc nL own D tys A) {x y : Int32} {F G : Option β} {off : Int} {tgt : Nat} (hf : (if x ≤ y then F else G) = some r) (hd : decode cc pc = .ok (.if_icmp .le off, 3)) (ht : (pc : Int) + off = (tgt : Int)) (k1 : F = some r → gW p l e R s m args below meth c D A nL Q cells slots ws L tgt stk) (k2 : G = some r → gW p l e R s m args below meth c D A nL Q cells slots ws L (pc + 3) stk) : gW p l e R s m args below meth c D A nL Q cells slots ws L pc (.int y :: .int x :: stk) :=
  fun hc H locs ls hP hD hS h => lv_icmp_le cx.1 cx.2.1 hd ht (fun q => k1 (by rw [if_pos q] at hf; exact hf) hc H locs ls hP hD hS h) (fun q => k2 (by rw [if_neg q] at hf; exact hf) hc H locs ls hP hD hS h)
/-- a field is read -/
theorem g_get (cx : gX p s m args meth c cc nL own D tys A) {ref C : String} {T : u_T} {N ci index a : Nat} {fs : List Value} {v : Value} (hin : ∀ w ∈ u_ws C T N, w ∈ TT) (hci : vwCl[ci]? = some (C, T, N)) (k : Nat) (hk : k < N) (hlink : Cond.fieldLink own index ref (T k).2.1 (T k).2.2.1 ∈ TT) (hsame : (T k).1 = ref)
    (q0 : Nat) (he : ws[q0]? = some (a, .inr (ci, fs))) (hv : fs[k]? = some v) (hd : decode cc pc = .ok (.getfield index, 3)) (kk : gW p l e R s m args below meth c D A nL Q cells slots ws L (pc + 3) (v :: stk)) : gW p l e R s m args below meth c D A nL Q cells slots ws L pc (.ref a :: stk) :=
  fun hc H locs ls hP hD hS h => va_get cx.1 cx.2.1 cx.2.2.2.2.1 hin cx.2.2.2.1 cx.2.2.2.2.2.1 hP q0 he hci k hk (cx.2.2.2.2.1 _ hlink) (fun x hx => by rw [← hsame]; exact hx) hv hd (kk hc H locs ls hP hD hS h)
/-- a field is written; its cells' state gets a new name -/
theorem g_put (cx : gX p s m args meth c cc nL own D tys A) {ref C : String} {T : u_T} {N ci index a : Nat} {fs : List Value} {v : Value} {ty0 : Nat → FieldType} (hin : ∀ w ∈ u_ws C T N, w ∈ TT) (hty : ∀ k, k < N → parseFieldDescriptor (T k).2.2.1 = some (ty0 k)) (hnm : ∀ a, a < N → ∀ b, b < N → a ≠ b → (T a).2.1 ≠ (T b).2.1) (hci : vwCl[ci]? = some (C, T, N)) (k : Nat) (hk : k < N) (hlink : Cond.fieldLink own index ref (T k).2.1 (T k).2.2.1 ∈ TT) (hsame : (T k).1 = ref)
    (hfin : (T k).2.2.2 = false) {ty : FieldType} (hde : parseFieldDescriptor (T k).2.2.1 = some ty) (hnr : narrow ty v = v) (hft : fits ty v = true)
    (q0 : Nat) (he : ws[q0]? = some (a, .inr (ci, fs))) (hl : k < fs.length) {ws' : va_W} (hw : ws.set q0 (a, .inr (ci, fs.set k v)) = ws') (hd : decode cc pc = .ok (.putfield index, 3)) (kk : gW p l e R s m args below meth c D A nL Q cells slots ws' L (pc + 3) stk) : gW p l e R s m args below meth c D A nL Q cells slots ws L pc (v :: .ref a :: stk) := by
  subst hw
  exact fun hc H locs ls hP hD hS h => va_put cx.1 cx.2.1 cx.2.2.2.2.1 hin ty0 hty hnm cx.2.2.2.1 cx.2.2.2.2.2.1 hP hD hS q0 he hci k hk (cx.2.2.2.2.1 _ hlink) (fun x hx => by rw [← hsame]; exact hx) hfin hde hnr hft hl hd (fun H1 locs1 hP hD hS => kk hc H1 locs1 ls hP hD hS h)
theorem g_alen (cx : gX p s m args meth c cc nL own D tys A) (q0 t0 : Nat) {a : Nat} {cA : ClassId} {x : vp_A} {ty : FieldType} {v : Int32} (he : ws[q0]? = some (a, .inl (cA, x))) (ht : tys[t0]? = some (cA, ty)) (hv : Int32.ofNat x.1 = v) (hd : decode cc pc = .ok (.arraylength, 1)) (kk : gW p l e R s m args below meth c D A nL Q cells slots ws L (pc + 1) (.int v :: stk)) : gW p l e R s m args below meth c D A nL Q cells slots ws L pc (.ref a :: stk) :=
  fun hc H locs ls hP hD hS h => va_alen cx.1 cx.2.1 cx.2.2.2.2.2.1 hP q0 t0 he ht hv hd (kk hc H locs ls hP hD hS h)
theorem g_iald (cx : gX p s m args meth c cc nL own D tys A) (q0 t0 : Nat) {a n : Nat} {cA : ClassId} {f : Nat → Int32} {i : Int32} {kf : Int32 → Option β} (hf : (aget n f i).bind kf = some r) (he : ws[q0]? = some (a, .inl (cA, n, .inl f))) (ht : tys[t0]? = some (cA, .int)) (hd : decode cc pc = .ok (.iaload, 1)) (kk : ∀ v : Int32, kf v = some r → gW p l e R s m args below meth c D A nL Q cells slots ws L (pc + 1) (.int v :: stk)) : gW p l e R s m args below meth c D A nL Q cells slots ws L pc (.int i :: .ref a :: stk) := by
  refine ob hf (fun v h1 hf => ?_)
  obtain ⟨h2, rfl⟩ := aget_some h1
  exact fun hc H locs ls hP hD hS h => va_iald cx.1 cx.2.1 cx.2.2.2.2.2.1 hP q0 t0 he ht h2 hd (kk _ hf hc H locs ls hP hD hS h)
theorem g_bald (cx : gX p s m args meth c cc nL own D tys A) (q0 t0 : Nat) {a n : Nat} {cA : ClassId} {f : Nat → Int32} {i : Int32} {kf : Int32 → Option β} (hf : (aget n f i).bind kf = some r) (he : ws[q0]? = some (a, .inl (cA, n, .inl f))) (ht : tys[t0]? = some (cA, .byte)) (hd : decode cc pc = .ok (.baload, 1)) (kk : ∀ v : Int32, kf v = some r → gW p l e R s m args below meth c D A nL Q cells slots ws L (pc + 1) (.int v :: stk)) : gW p l e R s m args below meth c D A nL Q cells slots ws L pc (.int i :: .ref a :: stk) := by
  refine ob hf (fun v h1 hf => ?_)
  obtain ⟨h2, rfl⟩ := aget_some h1
  exact fun hc H locs ls hP hD hS h => va_bald cx.1 cx.2.1 cx.2.2.2.2.2.1 hP q0 t0 he ht h2 hd (kk _ hf hc H locs ls hP hD hS h)
theorem g_zald (cx : gX p s m args meth c cc nL own D tys A) (q0 t0 : Nat) {a n : Nat} {cA : ClassId} {f : Nat → Int32} {i : Int32} {kf : Int32 → Option β} (hf : (aget n f i).bind kf = some r) (he : ws[q0]? = some (a, .inl (cA, n, .inl f))) (ht : tys[t0]? = some (cA, .boolean)) (hd : decode cc pc = .ok (.baload, 1)) (kk : ∀ v : Int32, kf v = some r → gW p l e R s m args below meth c D A nL Q cells slots ws L (pc + 1) (.int v :: stk)) : gW p l e R s m args below meth c D A nL Q cells slots ws L pc (.int i :: .ref a :: stk) := by
  refine ob hf (fun v h1 hf => ?_)
  obtain ⟨h2, rfl⟩ := aget_some h1
  exact fun hc H locs ls hP hD hS h => va_zald cx.1 cx.2.1 cx.2.2.2.2.2.1 hP q0 t0 he ht h2 hd (kk _ hf hc H locs ls hP hD hS h)
theorem g_lald (cx : gX p s m args meth c cc nL own D tys A) (q0 t0 : Nat) {a n : Nat} {cA : ClassId} {f : Nat → Int64} {i : Int32} {kf : Int64 → Option β} (hf : (agetL n f i).bind kf = some r) (he : ws[q0]? = some (a, .inl (cA, n, .inr (.inl f)))) (ht : tys[t0]? = some (cA, .long)) (hd : decode cc pc = .ok (.laload, 1)) (kk : ∀ v : Int64, kf v = some r → gW p l e R s m args below meth c D A nL Q cells slots ws L (pc + 1) (.long v :: stk)) : gW p l e R s m args below meth c D A nL Q cells slots ws L pc (.int i :: .ref a :: stk) := by
  refine ob hf (fun v h1 hf => ?_)
  obtain ⟨h2, rfl⟩ := agetL_some h1
  exact fun hc H locs ls hP hD hS h => va_lald cx.1 cx.2.1 cx.2.2.2.2.2.1 hP q0 t0 he ht h2 hd (kk _ hf hc H locs ls hP hD hS h)
theorem g_iast (cx : gX p s m args meth c cc nL own D tys A) (q0 t0 : Nat) {a n : Nat} {cA : ClassId} {f : Nat → Int32} {i x : Int32} {kf : (Nat → Int32) → Option β} {ws' : (Nat → Int32) → va_W} (hf : (aset n f i x).bind kf = some r) (he : ws[q0]? = some (a, .inl (cA, n, .inl f))) (ht : tys[t0]? = some (cA, .int)) (hw : ∀ f, ws.set q0 (a, .inl (cA, n, .inl f)) = ws' f) (hd : decode cc pc = .ok (.iastore, 1)) (kk : ∀ f, kf f = some r → gW p l e R s m args below meth c D A nL Q cells slots (ws' f) L (pc + 1) stk) : gW p l e R s m args below meth c D A nL Q cells slots ws L pc (.int x :: .int i :: .ref a :: stk) := by
  refine ob hf (fun v h1 hf => ?_)
  obtain ⟨h2, rfl⟩ := aset_some h1
  exact fun hc H locs ls hP hD hS h => va_iast cx.1 cx.2.1 cx.2.2.2.2.2.1 hP hD hS q0 t0 he ht h2 hd (fun H1 locs1 hP hD hS => kk _ hf hc H1 locs1 ls (by rw [← hw]; exact hP) (by rw [← hw]; exact hD) hS h)
theorem g_bast (cx : gX p s m args meth c cc nL own D tys A) (q0 t0 : Nat) {a n : Nat} {cA : ClassId} {f : Nat → Int32} {i x : Int32} {kf : (Nat → Int32) → Option β} {ws' : (Nat → Int32) → va_W} (hf : (aset n f i (vp_nar .byte x)).bind kf = some r) (he : ws[q0]? = some (a, .inl (cA, n, .inl f))) (ht : tys[t0]? = some (cA, .byte)) (hw : ∀ f, ws.set q0 (a, .inl (cA, n, .inl f)) = ws' f) (hd : decode cc pc = .ok (.bastore, 1)) (kk : ∀ f, kf f = some r → gW p l e R s m args below meth c D A nL Q cells slots (ws' f) L (pc + 1) stk) : gW p l e R s m args below meth c D A nL Q cells slots ws L pc (.int x :: .int i :: .ref a :: stk) := by
  refine ob hf (fun v h1 hf => ?_)
  obtain ⟨h2, rfl⟩ := aset_some h1
  exact fun hc H locs ls hP hD hS h => va_bast cx.1 cx.2.1 cx.2.2.2.2.2.1 hP hD hS q0 t0 he ht h2 hd (fun H1 locs1 hP hD hS => kk _ hf hc H1 locs1 ls (by rw [← hw]; exact hP) (by rw [← hw]; exact hD) hS h)
theorem g_zast (cx : gX p s m args meth c cc nL own D tys A) (q0 t0 : Nat) {a n : Nat} {cA : ClassId} {f : Nat → Int32} {i x : Int32} {kf : (Nat → Int32) → Option β} {ws' : (Nat → Int32) → va_W} (hf : (aset n f i (vp_nar .boolean x)).bind kf = some r) (he : ws[q0]? = some (a, .inl (cA, n, .inl f))) (ht : tys[t0]? = some (cA, .boolean)) (hw : ∀ f, ws.set q0 (a, .inl (cA, n, .inl f)) = ws' f) (hd : decode cc pc = .ok (.bastore, 1)) (kk : ∀ f, kf f = some r → gW p l e R s m args below meth c D A nL Q cells slots (ws' f) L (pc + 1) stk) : gW p l e R s m args below meth c D A nL Q cells slots ws L pc (.int x :: .int i :: .ref a :: stk) := by
  refine ob hf (fun v h1 hf => ?_)
  obtain ⟨h2, rfl⟩ := aset_some h1
  exact fun hc H locs ls hP hD hS h => va_zast cx.1 cx.2.1 cx.2.2.2.2.2.1 hP hD hS q0 t0 he ht h2 hd (fun H1 locs1 hP hD hS => kk _ hf hc H1 locs1 ls (by rw [← hw]; exact hP) (by rw [← hw]; exact hD) hS h)
theorem g_last (cx : gX p s m args meth c cc nL own D tys A) (q0 t0 : Nat) {a n : Nat} {cA : ClassId} {f : Nat → Int64} {i : Int32} {x : Int64} {kf : (Nat → Int64) → Option β} {ws' : (Nat → Int64) → va_W} (hf : (asetL n f i x).bind kf = some r) (he : ws[q0]? = some (a, .inl (cA, n, .inr (.inl f)))) (ht : tys[t0]? = some (cA, .long)) (hw : ∀ f, ws.set q0 (a, .inl (cA, n, .inr (.inl f))) = ws' f) (hd : decode cc pc = .ok (.lastore, 1)) (kk : ∀ f, kf f = some r → gW p l e R s m args below meth c D A nL Q cells slots (ws' f) L (pc + 1) stk) : gW p l e R s m args below meth c D A nL Q cells slots ws L pc (.long x :: .int i :: .ref a :: stk) := by
  refine ob hf (fun v h1 hf => ?_)
  obtain ⟨h2, rfl⟩ := asetL_some h1
  exact fun hc H locs ls hP hD hS h => va_last cx.1 cx.2.1 cx.2.2.2.2.2.1 hP hD hS q0 t0 he ht h2 hd (fun H1 locs1 hP hD hS => kk _ hf hc H1 locs1 ls (by rw [← hw]; exact hP) (by rw [← hw]; exact hD) hS h)
/-- a new name for a state -/
theorem g_nm {α : Type} {x : α} {kf : α → Option β} {w : α → va_W} (hf : nm x kf = some r) (kk : ∀ y : α, kf y = some r → gW p l e R s m args below meth c D A nL Q cells slots (w y) L pc stk) : gW p l e R s m args below meth c D A nL Q cells slots (w x) L pc stk := kk x hf
theorem g_topl {x : Int64} {kf : Int64 → Option β} (hf : nm x kf = some r) (kk : ∀ y : Int64, kf y = some r → gW p l e R s m args below meth c D A nL Q cells slots ws L pc (.long y :: stk)) : gW p l e R s m args below meth c D A nL Q cells slots ws L pc (.long x :: stk) := kk x hf
/-! returns -/
theorem g_iret {w0 : va_W} {ovf : β → Option Value} {wf : β → va_W} {b0 : β} {x : Int32} (cx : gX p s m args meth c cc nL own D tys A) (hA : A = va_A w0 s.heap.size) (hr : meth.sig.returnType = some .int) (hf : some b0 = some r) (h1 : ovf b0 = some (.int x)) (h2 : wf b0 = ws) (hd : decode cc pc = .ok (.ireturn, 1)) : gW p l e R s m args below meth c D A nL (MQ below (QM D tys (ovf r) w0 (wf r) s.heap.size) args s 0 0 A) 0 0 ws L pc [.int x] := by
  cases hf
  rw [h1, h2]
  subst hA
  exact fun hc H locs ls hP hD hS h => W.iret cx.1 cx.2.1 hr (fun t ht hW => ⟨⟨rfl, by rw [ht]; exact hP, va_K.moved hW.alike cx.2.2.2.2.2.1, hD⟩, hS.F ht⟩) hS.2.2 hd cx.2.2.2.2.2.2.2.1
theorem g_zret {w0 : va_W} {ovf : β → Option Value} {wf : β → va_W} {b0 : β} {x : Int32} (cx : gX p s m args meth c cc nL own D tys A) (hA : A = va_A w0 s.heap.size) (hr : meth.sig.returnType = some .boolean) (hz : narrow .boolean (.int x) = .int x) (hf : some b0 = some r) (h1 : ovf b0 = some (.int x)) (h2 : wf b0 = ws) (hd : decode cc pc = .ok (.ireturn, 1)) : gW p l e R s m args below meth c D A nL (MQ below (QM D tys (ovf r) w0 (wf r) s.heap.size) args s 0 0 A) 0 0 ws L pc [.int x] := by
  cases hf
  rw [h1, h2]
  subst hA
  exact fun hc H locs ls hP hD hS h => W.zret cx.1 cx.2.1 hr hz (fun t ht hW => ⟨⟨rfl, by rw [ht]; exact hP, va_K.moved hW.alike cx.2.2.2.2.2.1, hD⟩, hS.F ht⟩) hS.2.2 hd cx.2.2.2.2.2.2.2.1
theorem g_lret {w0 : va_W} {ovf : β → Option Value} {wf : β → va_W} {b0 : β} {x : Int64} (cx : gX p s m args meth c cc nL own D tys A) (hA : A = va_A w0 s.heap.size) (hr : meth.sig.returnType = some .long) (hf : some b0 = some r) (h1 : ovf b0 = some (.long x)) (h2 : wf b0 = ws) (hd : decode cc pc = .ok (.lreturn, 1)) : gW p l e R s m args below meth c D A nL (MQ below (QM D tys (ovf r) w0 (wf r) s.heap.size) args s 0 0 A) 0 0 ws L pc [.long x] := by
  cases hf
  rw [h1, h2]
  subst hA
  exact fun hc H locs ls hP hD hS h => W.lret cx.1 cx.2.1 hr (fun t ht hW => ⟨⟨rfl, by rw [ht]; exact hP, va_K.moved hW.alike cx.2.2.2.2.2.1, hD⟩, hS.F ht⟩) hS.2.2 hd cx.2.2.2.2.2.2.2.1
theorem g_vret {w0 : va_W} {ovf : β → Option Value} {wf : β → va_W} {b0 : β} (cx : gX p s m args meth c cc nL own D tys A) (hA : A = va_A w0 s.heap.size) (hr : meth.sig.returnType = none) (hf : some b0 = some r) (h1 : ovf b0 = none) (h2 : wf b0 = ws) (hd : decode cc pc = .ok (.return_, 1)) : gW p l e R s m args below meth c D A nL (MQ below (QM D tys (ovf r) w0 (wf r) s.heap.size) args s 0 0 A) 0 0 ws L pc [] := by
  cases hf
  rw [h1, h2]
  subst hA
  exact fun hc H locs ls hP hD hS h => W.vret cx.1 cx.2.1 hr (fun t ht hW => ⟨⟨rfl, by rw [ht]; exact hP, va_K.moved hW.alike cx.2.2.2.2.2.1, hD⟩, hS.F ht⟩) hS.2.2 hd cx.2.2.2.2.2.2.2.1
theorem g_aret {w0 : va_W} {ovf : β → Option Value} {wf : β → va_W} {b0 : β} {x : Nat} {C : String} (cx : gX p s m args meth c cc nL own D tys A) (hA : A = va_A w0 s.heap.size) (hr : meth.sig.returnType = some (.object C)) (hf : some b0 = some r) (h1 : ovf b0 = some (.ref x)) (h2 : wf b0 = ws) (hd : decode cc pc = .ok (.areturn, 1)) : gW p l e R s m args below meth c D A nL (MQ below (QM D tys (ovf r) w0 (wf r) s.heap.size) args s 0 0 A) 0 0 ws L pc [.ref x] := by
  cases hf
  rw [h1, h2]
  subst hA
  exact fun hc H locs ls hP hD hS h => W.aret cx.1 cx.2.1 hr (Or.inl ⟨C, rfl⟩) (Or.inr ⟨x, rfl⟩) (fun t ht hW => ⟨⟨rfl, by rw [ht]; exact hP, va_K.moved hW.alike cx.2.2.2.2.2.1, hD⟩, hS.F ht⟩) hS.2.2 hd cx.2.2.2.2.2.2.2.1
/-! calls -/
theorem g_blind {Av : List Value} {w0 : va_W} {sz : Nat} : FrameBlind (PcM D tys Av w0 sz) := fun a U g mk q => by
  obtain ⟨q0, q1, qP, qK, qD, qF⟩ := q
  exact ⟨q0, q1, qP, va_K.moved (u := U) (U := U.calling g mk a) (Vm.Alike.refl U.vm) qK, qD, sf_blind qF⟩
theorem g_run {H : Heap} {locs : List Loc} {ls : Array Slot} {rest stk0 : List Value} {wc wc1 ws' : va_W} {ov : Option Value} {a : Array Value} (cx : gX p s m args meth c cc nL own D tys A) (isC : List Nat) (hC : isC.map (fun i => ws[i]?) = wc.map some) (hn : va_nd isC = true) (ha : wc1.map Prod.fst = wc.map Prod.fst) (hw : wput ws isC wc1 = ws') (kk : gW p l e R s m args below meth c D A nL Q cells slots ws' L (pc + 3) (ov.toList ++ rest))
    (hP : va_P D.1 vwCl ws H) (hc : cells ≤ R.cells ∧ slots ≤ R.slots) (hD : va_D A ws) (hS : va_S A s.heap H locs) (hl : lv_has ls nL L) (hr : va_Run p l e R s m args below meth c H locs cells slots 0 0 (F0 m pc ls stk0) rest (QM D tys ov wc wc1 H.size a) (va_A wc H.size)) : W p l e R s m args below meth c H locs cells slots Q (F0 m pc ls stk0) := by
  subst hw
  have hF := va_free hD hS cx.2.2.2.2.2.2.1 isC hC
  intro T hT X
  obtain ⟨v, st₀, t, T', Lo, h0, X', hL, e1, e2, ⟨⟨hv, hP1, hK1, hD1⟩, hz, hk⟩, st⟩ := hr T hT X
  cases hv
  rw [h0] at hz hk
  rw [← e1] at hz hk hP1
  obtain ⟨hP2, hD2⟩ := wput_join hP hD isC hC hn ha (fun q h1 h2 => hk q h1 h2) hP1
  obtain ⟨t2, a1, b1⟩ := kk hc T'.heap (locs ++ Lo) ls hP2 hD2 ⟨Nat.le_trans hS.1 hz, fun q h1 h2 => by
      rw [hk q (Nat.lt_of_lt_of_le h1 hS.1) (fun z => h2 (hF q z))]; exact hS.2.1 q h1 h2, fun q hq => by
      rcases List.mem_append.mp hq with h | h
      · exact hS.2.2 q h
      · exact hF _ (hL q h)⟩ hl T' rfl X'
  exact ⟨t2, st t2 a1, b1⟩
theorem g_runF {H : Heap} {locs : List Loc} {ls : Array Slot} {rest stk0 : List Value} {wc1 : va_W} {ov : Option Value} {a : Array Value} (cx : gX p s m args meth c cc nL own D tys A) (kk : gW p l e R s m args below meth c D A nL Q cells slots wc1 L (pc + 3) (ov.toList ++ rest))
    (hc : cells ≤ R.cells ∧ slots ≤ R.slots) (hD : va_D A ws) (hS : va_S A s.heap H locs) (hl : lv_has ls nL L) (hr : va_Run p l e R s m args below meth c H locs cells slots 0 0 (F0 m pc ls stk0) rest (QM D tys ov ws wc1 H.size a) (va_A ws H.size)) : W p l e R s m args below meth c H locs cells slots Q (F0 m pc ls stk0) := by
  have hF : ∀ q, va_A ws H.size q → A q := fun q h => by
    rcases h with ⟨k, e, h⟩ | h
    · exact hD.2 k _ h
    · exact cx.2.2.2.2.2.2.1 q (Nat.le_trans hS.1 h)
  intro T hT X
  obtain ⟨v, st₀, t, T', Lo, h0, X', hL, e1, e2, ⟨⟨hv, hP1, hK1, hD1⟩, hz, hk⟩, st⟩ := hr T hT X
  cases hv
  rw [h0] at hz hk
  rw [← e1] at hz hk hP1
  obtain ⟨t2, a1, b1⟩ := kk hc T'.heap (locs ++ Lo) ls hP1 (hD1.weaken fun k q _ h => hF q.1 h) ⟨Nat.le_trans hS.1 hz, fun q h1 h2 => by
      rw [hk q (Nat.lt_of_lt_of_le h1 hS.1) (fun z => h2 (hF q z))]; exact hS.2.1 q h1 h2, fun q hq => by
      rcases List.mem_append.mp hq with h | h
      · exact hS.2.2 q h
      · exact hF _ (hL q h)⟩ hl T' rfl X'
  exact ⟨t2, st t2 a1, b1⟩
/-- the words of a virtual call -/
def vlk (own : String) (idx : Nat) (y : MethodName) (cy : ByteArray) (nY : Nat) (ret : Option FieldType) (n : Nat) : Prop :=
  (∀ w ∈ ([.methodLink own idx y, .instanceMethod y, .selects y.cls y y, .initialized y.cls] : List Cond), w ∈ TT) ∧ Cond.code y cy nY ret ∈ TT ∧ y.cls ≠ "java/lang/invoke/MethodHandle" ∧ y.cls ≠ "java/lang/invoke/VarHandle" ∧ (parseMethodDescriptor y.desc).map (fun d => d.parameters.length) = some n
/-- the words of a static call -/
def slk (own : String) (idx : Nat) (y : MethodName) (cy : ByteArray) (nY : Nat) (ret : Option FieldType) (n : Nat) : Prop :=
  (∀ w ∈ ([.methodLink own idx y, .static y, .initialized y.cls] : List Cond), w ∈ TT) ∧ Cond.code y cy nY ret ∈ TT ∧ y.cls ≠ "java/lang/invoke/MethodHandle" ∧ y.cls ≠ "java/lang/invoke/VarHandle" ∧ (parseMethodDescriptor y.desc).map (fun d => d.parameters.length) = some n
theorem g_callV {y : MethodName} {cy : ByteArray} {nY n idx b ci q1 : Nat} {ret : Option FieldType} {rm : Room} {As rest : List Value} {wc wc1 ws' : va_W} {ov : Option Value} {fs : List Value} {T : u_T} {N : Nat} (cx : gX p s m args meth c cc nL own D tys A) (lk : vlk own idx y cy nY ret n) (hM : gM l D tys y cy nY ret rm (.ref b :: As) wc ov wc1) (hlen : As.length = n)
    (isC : List Nat) (hC : isC.map (fun i => ws[i]?) = wc.map some) (hn : va_nd isC = true) (ha : wc1.map Prod.fst = wc.map Prod.fst) (hw : wput ws isC wc1 = ws') (hci : vwCl[ci]? = some (y.cls, T, N)) (hrc : wc[q1]? = some (b, .inr (ci, fs))) (hst : stk = As.reverse ++ .ref b :: rest) (hcat : (rest.map fun v => v.category).sum ≤ 8)
    (hR : rm.cells = 0 ∧ rm.slots = 0 ∧ rm.frames + 1 ≤ R.frames ∧ 8 + (nY + 11) + rm.locals ≤ R.locals) (hd : decode cc pc = .ok (.invokevirtual idx, 3)) (kk : gW p l e R s m args below meth c D A nL Q cells slots ws' L (pc + 3) (ov.toList ++ rest)) : gW p l e R s m args below meth c D A nL Q cells slots ws L pc stk := by
  intro hc H locs ls hP hD hS hl
  have hPc : va_P D.1 vwCl wc H := fun k q hk => by
    have h1 : (isC.map (fun i => ws[i]?))[k]? = some (some q) := by rw [hC, List.getElem?_map, hk]; rfl
    rw [List.getElem?_map] at h1
    cases hi : isC[k]? with
    | none => rw [hi] at h1; cases h1
    | some i => rw [hi] at h1; exact hP i q (Option.some.inj h1)
  have hDc : va_D A wc := hD.sub isC hn hC
  have hG : GoodIn (Cond.code y cy nY ret :: TT) (wsV own idx y.cls y (.code y cy nY ret :: TT)) := tt_in2 lk.1 (tt_in lk.2.1)
  have hts : ∀ w ∈ (Cond.code y cy nY ret :: TT), w.before args s = true := fun w h => by
    rcases List.mem_cons.mp h with rfl | h
    · exact cx.2.2.2.2.1 _ lk.2.1
    · exact cx.2.2.2.2.1 _ h
  exact g_run cx isC hC hn ha hw kk hP hc hD hS hl (va_runV (As := As) (rest := rest) ⟨cx.1, cx.2.1, cx.2.2.1, cx.2.2.2.1, hts⟩ (hM H.size) (cwV n hts hG rfl hR.1 hR.2.1 ⟨rfl, lk.2.2⟩ hR.2.2) ⟨g_blind, va_recv cx.2.2.2.2.2.1 hPc hci hrc, fun U hU hW => ⟨rfl, by rw [hU], by rw [hU]; exact hPc, va_K.moved hW.alike cx.2.2.2.2.2.1, hDc.weaken (fun _ _ _ _ => trivial), sf_at cx.2.2.2.2.2.2.2.2 hS (va_free hD hS cx.2.2.2.2.2.2.1 isC hC) hU hW⟩⟩ rfl hlen hl.1 hst (lv_room hcat) hd hc)
theorem g_callS {y : MethodName} {cy : ByteArray} {nY n idx : Nat} {ret : Option FieldType} {rm : Room} {As rest : List Value} {wc wc1 ws' : va_W} {ov : Option Value} (cx : gX p s m args meth c cc nL own D tys A) (lk : slk own idx y cy nY ret n) (hM : gM l D tys y cy nY ret rm As wc ov wc1) (hlen : As.length = n)
    (isC : List Nat) (hC : isC.map (fun i => ws[i]?) = wc.map some) (hn : va_nd isC = true) (ha : wc1.map Prod.fst = wc.map Prod.fst) (hw : wput ws isC wc1 = ws') (hst : stk = As.reverse ++ rest) (hcat : (rest.map fun v => v.category).sum ≤ 8)
    (hR : rm.cells = 0 ∧ rm.slots = 0 ∧ rm.frames + 1 ≤ R.frames ∧ 8 + (nY + 11) + rm.locals ≤ R.locals) (hd : decode cc pc = .ok (.invokestatic idx, 3)) (kk : gW p l e R s m args below meth c D A nL Q cells slots ws' L (pc + 3) (ov.toList ++ rest)) : gW p l e R s m args below meth c D A nL Q cells slots ws L pc stk := by
  intro hc H locs ls hP hD hS hl
  have hPc : va_P D.1 vwCl wc H := fun k q hk => by
    have h1 : (isC.map (fun i => ws[i]?))[k]? = some (some q) := by rw [hC, List.getElem?_map, hk]; rfl
    rw [List.getElem?_map] at h1
    cases hi : isC[k]? with
    | none => rw [hi] at h1; cases h1
    | some i => rw [hi] at h1; exact hP i q (Option.some.inj h1)
  have hDc : va_D A wc := hD.sub isC hn hC
  have hG : GoodIn (Cond.code y cy nY ret :: TT) (va_wsS own idx y (.code y cy nY ret :: TT)) := tt_in2 lk.1 (tt_in lk.2.1)
  have hts : ∀ w ∈ (Cond.code y cy nY ret :: TT), w.before args s = true := fun w h => by
    rcases List.mem_cons.mp h with rfl | h
    · exact cx.2.2.2.2.1 _ lk.2.1
    · exact cx.2.2.2.2.1 _ h
  exact g_run cx isC hC hn ha hw kk hP hc hD hS hl (va_runS (As := As) (rest := rest) ⟨cx.1, cx.2.1, cx.2.2.1, cx.2.2.2.1, hts⟩ (hM H.size) (va_cwS n hts hG rfl hR.1 hR.2.1 lk.2.2 hR.2.2) ⟨g_blind, fun U hU hW => ⟨rfl, by rw [hU], by rw [hU]; exact hPc, va_K.moved hW.alike cx.2.2.2.2.2.1, hDc.weaken (fun _ _ _ _ => trivial), sf_at cx.2.2.2.2.2.2.2.2 hS (va_free hD hS cx.2.2.2.2.2.2.1 isC hC) hU hW⟩⟩ rfl hlen hl.1 hst (lv_room hcat) hd hc)
theorem g_runG {gs gc g1 gs' : List va_W} {H : Heap} {locs : List Loc} {ls : Array Slot} {rest stk0 : List Value} {ov : Option Value} {a : Array Value} (cx : gX p s m args meth c cc nL own D tys A) (isG : List Nat) (hG : isG.map (fun i => gs[i]?) = gc.map some) (hn : va_nd isG = true) (ha : g1.map (List.map Prod.fst) = gc.map (List.map Prod.fst)) (hw : wput gs isG g1 = gs') (kk : gW p l e R s m args below meth c D A nL Q cells slots gs'.flatten L (pc + 3) (ov.toList ++ rest))
    (hP : va_P D.1 vwCl gs.flatten H) (hc : cells ≤ R.cells ∧ slots ≤ R.slots) (hD : va_D A gs.flatten) (hS : va_S A s.heap H locs) (hl : lv_has ls nL L) (hr : va_Run p l e R s m args below meth c H locs cells slots 0 0 (F0 m pc ls stk0) rest (QM D tys ov gc.flatten g1.flatten H.size a) (va_A gc.flatten H.size)) : W p l e R s m args below meth c H locs cells slots Q (F0 m pc ls stk0) := by
  subst hw
  have hF := grp_free hD hS cx.2.2.2.2.2.2.1 isG hG
  intro T hT X
  obtain ⟨v, st₀, t, T', Lo, h0, X', hL, e1, e2, ⟨⟨hv, hP1, hK1, hD1⟩, hz, hk⟩, st⟩ := hr T hT X
  cases hv
  rw [h0] at hz hk
  rw [← e1] at hz hk hP1
  obtain ⟨hP2, hD2⟩ := grp_join hP hD isG hG hn ha (fun q h1 h2 => hk q h1 h2) hP1
  obtain ⟨t2, a1, b1⟩ := kk hc T'.heap (locs ++ Lo) ls hP2 hD2 ⟨Nat.le_trans hS.1 hz, fun q h1 h2 => by
      rw [hk q (Nat.lt_of_lt_of_le h1 hS.1) (fun z => h2 (hF q z))]; exact hS.2.1 q h1 h2, fun q hq => by
      rcases List.mem_append.mp hq with h | h
      · exact hS.2.2 q h
      · exact hF _ (hL q h)⟩ hl T' rfl X'
  exact ⟨t2, st t2 a1, b1⟩
theorem g_callVG {y : MethodName} {cy : ByteArray} {nY n idx b ci q1 : Nat} {ret : Option FieldType} {rm : Room} {As rest : List Value} {gs gc g1 gs' : List va_W} {ov : Option Value} {fs : List Value} {T : u_T} {N : Nat} (cx : gX p s m args meth c cc nL own D tys A) (lk : vlk own idx y cy nY ret n) (hM : gM l D tys y cy nY ret rm (.ref b :: As) gc.flatten ov g1.flatten) (hlen : As.length = n)
    (isG : List Nat) (hG : isG.map (fun i => gs[i]?) = gc.map some) (hn : va_nd isG = true) (ha : g1.map (List.map Prod.fst) = gc.map (List.map Prod.fst)) (hw : wput gs isG g1 = gs') (hci : vwCl[ci]? = some (y.cls, T, N)) (hrc : gc.flatten[q1]? = some (b, .inr (ci, fs))) (hst : stk = As.reverse ++ .ref b :: rest) (hcat : (rest.map fun v => v.category).sum ≤ 8)
    (hR : rm.cells = 0 ∧ rm.slots = 0 ∧ rm.frames + 1 ≤ R.frames ∧ 8 + (nY + 11) + rm.locals ≤ R.locals) (hd : decode cc pc = .ok (.invokevirtual idx, 3)) (kk : gW p l e R s m args below meth c D A nL Q cells slots gs'.flatten L (pc + 3) (ov.toList ++ rest)) : gW p l e R s m args below meth c D A nL Q cells slots gs.flatten L pc stk := by
  intro hc H locs ls hP hD hS hl
  have hPc := grp_P hP hG
  have hDc := grp_D hD hG hn
  have hG2 : GoodIn (Cond.code y cy nY ret :: TT) (wsV own idx y.cls y (.code y cy nY ret :: TT)) := tt_in2 lk.1 (tt_in lk.2.1)
  have hts : ∀ w ∈ (Cond.code y cy nY ret :: TT), w.before args s = true := fun w h => by
    rcases List.mem_cons.mp h with rfl | h
    · exact cx.2.2.2.2.1 _ lk.2.1
    · exact cx.2.2.2.2.1 _ h
  exact g_runG cx isG hG hn ha hw kk hP hc hD hS hl (va_runV (As := As) (rest := rest) ⟨cx.1, cx.2.1, cx.2.2.1, cx.2.2.2.1, hts⟩ (hM H.size) (cwV n hts hG2 rfl hR.1 hR.2.1 ⟨rfl, lk.2.2⟩ hR.2.2) ⟨g_blind, va_recv cx.2.2.2.2.2.1 hPc hci hrc, fun U hU hW => ⟨rfl, by rw [hU], by rw [hU]; exact hPc, va_K.moved hW.alike cx.2.2.2.2.2.1, hDc.weaken (fun _ _ _ _ => trivial), sf_at cx.2.2.2.2.2.2.2.2 hS (grp_free hD hS cx.2.2.2.2.2.2.1 isG hG) hU hW⟩⟩ rfl hlen hl.1 hst (lv_room hcat) hd hc)
theorem g_callSG {y : MethodName} {cy : ByteArray} {nY n idx : Nat} {ret : Option FieldType} {rm : Room} {As rest : List Value} {gs gc g1 gs' : List va_W} {ov : Option Value} (cx : gX p s m args meth c cc nL own D tys A) (lk : slk own idx y cy nY ret n) (hM : gM l D tys y cy nY ret rm As gc.flatten ov g1.flatten) (hlen : As.length = n)
    (isG : List Nat) (hG : isG.map (fun i => gs[i]?) = gc.map some) (hn : va_nd isG = true) (ha : g1.map (List.map Prod.fst) = gc.map (List.map Prod.fst)) (hw : wput gs isG g1 = gs') (hst : stk = As.reverse ++ rest) (hcat : (rest.map fun v => v.category).sum ≤ 8)
    (hR : rm.cells = 0 ∧ rm.slots = 0 ∧ rm.frames + 1 ≤ R.frames ∧ 8 + (nY + 11) + rm.locals ≤ R.locals) (hd : decode cc pc = .ok (.invokestatic idx, 3)) (kk : gW p l e R s m args below meth c D A nL Q cells slots gs'.flatten L (pc + 3) (ov.toList ++ rest)) : gW p l e R s m args below meth c D A nL Q cells slots gs.flatten L pc stk := by
  intro hc H locs ls hP hD hS hl
  have hPc := grp_P hP hG
  have hDc := grp_D hD hG hn
  have hG2 : GoodIn (Cond.code y cy nY ret :: TT) (va_wsS own idx y (.code y cy nY ret :: TT)) := tt_in2 lk.1 (tt_in lk.2.1)
  have hts : ∀ w ∈ (Cond.code y cy nY ret :: TT), w.before args s = true := fun w h => by
    rcases List.mem_cons.mp h with rfl | h
    · exact cx.2.2.2.2.1 _ lk.2.1
    · exact cx.2.2.2.2.1 _ h
  exact g_runG cx isG hG hn ha hw kk hP hc hD hS hl (va_runS (As := As) (rest := rest) ⟨cx.1, cx.2.1, cx.2.2.1, cx.2.2.2.1, hts⟩ (hM H.size) (va_cwS n hts hG2 rfl hR.1 hR.2.1 lk.2.2 hR.2.2) ⟨g_blind, fun U hU hW => ⟨rfl, by rw [hU], by rw [hU]; exact hPc, va_K.moved hW.alike cx.2.2.2.2.2.1, hDc.weaken (fun _ _ _ _ => trivial), sf_at cx.2.2.2.2.2.2.2.2 hS (grp_free hD hS cx.2.2.2.2.2.2.1 isG hG) hU hW⟩⟩ rfl hlen hl.1 hst (lv_room hcat) hd hc)
theorem g_callVGi {y : MethodName} {cy : ByteArray} {nY n idx b ci q1 : Nat} {ret : Option FieldType} {rm : Room} {As rest : List Value} {gs gc g1 gs' : List va_W} {xr : Int32} {fs : List Value} {T : u_T} {N : Nat} (cx : gX p s m args meth c cc nL own D tys A) (lk : vlk own idx y cy nY ret n) (hM : gM l D tys y cy nY ret rm (.ref b :: As) gc.flatten (some (.int xr)) g1.flatten) (hlen : As.length = n) (isG : List Nat) (hG : isG.map (fun i => gs[i]?) = gc.map some) (hn : va_nd isG = true) (ha : g1.map (List.map Prod.fst) = gc.map (List.map Prod.fst)) (hw : wput gs isG g1 = gs') (hci : vwCl[ci]? = some (y.cls, T, N)) (hrc : gc.flatten[q1]? = some (b, .inr (ci, fs))) (hst : stk = As.reverse ++ .ref b :: rest) (hcat : (rest.map fun v => v.category).sum ≤ 8) (hR : rm.cells = 0 ∧ rm.slots = 0 ∧ rm.frames + 1 ≤ R.frames ∧ 8 + (nY + 11) + rm.locals ≤ R.locals) (hd : decode cc pc = .ok (.invokevirtual idx, 3)) (kk : gW p l e R s m args below meth c D A nL Q cells slots gs'.flatten L (pc + 3) (.int xr :: rest)) : gW p l e R s m args below meth c D A nL Q cells slots gs.flatten L pc stk :=
  g_callVG cx lk hM hlen isG hG hn ha hw hci hrc hst hcat hR hd kk
theorem g_callVGiR {y : MethodName} {cy : ByteArray} {nY n idx b ci q1 : Nat} {ret : Option FieldType} {rm : Room} {As rest : List Value} {gs gc : List va_W} {xr : Int32} {fs : List Value} {T : u_T} {N : Nat} (cx : gX p s m args meth c cc nL own D tys A) (lk : vlk own idx y cy nY ret n) (hM : gM l D tys y cy nY ret rm (.ref b :: As) gc.flatten (some (.int xr)) gc.flatten) (hlen : As.length = n) (isG : List Nat) (hG : isG.map (fun i => gs[i]?) = gc.map some) (hn : va_nd isG = true) (hci : vwCl[ci]? = some (y.cls, T, N)) (hrc : gc.flatten[q1]? = some (b, .inr (ci, fs))) (hst : stk = As.reverse ++ .ref b :: rest) (hcat : (rest.map fun v => v.category).sum ≤ 8) (hR : rm.cells = 0 ∧ rm.slots = 0 ∧ rm.frames + 1 ≤ R.frames ∧ 8 + (nY + 11) + rm.locals ≤ R.locals) (hd : decode cc pc = .ok (.invokevirtual idx, 3)) (kk : gW p l e R s m args below meth c D A nL Q cells slots gs.flatten L (pc + 3) (.int xr :: rest)) : gW p l e R s m args below meth c D A nL Q cells slots gs.flatten L pc stk :=
  g_callVG cx lk hM hlen isG hG hn rfl (wput_self isG gs gc hG) hci hrc hst hcat hR hd kk
theorem g_callVGl {y : MethodName} {cy : ByteArray} {nY n idx b ci q1 : Nat} {ret : Option FieldType} {rm : Room} {As rest : List Value} {gs gc g1 gs' : List va_W} {xr : Int64} {fs : List Value} {T : u_T} {N : Nat} (cx : gX p s m args meth c cc nL own D tys A) (lk : vlk own idx y cy nY ret n) (hM : gM l D tys y cy nY ret rm (.ref b :: As) gc.flatten (some (.long xr)) g1.flatten) (hlen : As.length = n) (isG : List Nat) (hG : isG.map (fun i => gs[i]?) = gc.map some) (hn : va_nd isG = true) (ha : g1.map (List.map Prod.fst) = gc.map (List.map Prod.fst)) (hw : wput gs isG g1 = gs') (hci : vwCl[ci]? = some (y.cls, T, N)) (hrc : gc.flatten[q1]? = some (b, .inr (ci, fs))) (hst : stk = As.reverse ++ .ref b :: rest) (hcat : (rest.map fun v => v.category).sum ≤ 8) (hR : rm.cells = 0 ∧ rm.slots = 0 ∧ rm.frames + 1 ≤ R.frames ∧ 8 + (nY + 11) + rm.locals ≤ R.locals) (hd : decode cc pc = .ok (.invokevirtual idx, 3)) (kk : gW p l e R s m args below meth c D A nL Q cells slots gs'.flatten L (pc + 3) (.long xr :: rest)) : gW p l e R s m args below meth c D A nL Q cells slots gs.flatten L pc stk :=
  g_callVG cx lk hM hlen isG hG hn ha hw hci hrc hst hcat hR hd kk
theorem g_callVGlR {y : MethodName} {cy : ByteArray} {nY n idx b ci q1 : Nat} {ret : Option FieldType} {rm : Room} {As rest : List Value} {gs gc : List va_W} {xr : Int64} {fs : List Value} {T : u_T} {N : Nat} (cx : gX p s m args meth c cc nL own D tys A) (lk : vlk own idx y cy nY ret n) (hM : gM l D tys y cy nY ret rm (.ref b :: As) gc.flatten (some (.long xr)) gc.flatten) (hlen : As.length = n) (isG : List Nat) (hG : isG.map (fun i => gs[i]?) = gc.map some) (hn : va_nd isG = true) (hci : vwCl[ci]? = some (y.cls, T, N)) (hrc : gc.flatten[q1]? = some (b, .inr (ci, fs))) (hst : stk = As.reverse ++ .ref b :: rest) (hcat : (rest.map fun v => v.category).sum ≤ 8) (hR : rm.cells = 0 ∧ rm.slots = 0 ∧ rm.frames + 1 ≤ R.frames ∧ 8 + (nY + 11) + rm.locals ≤ R.locals) (hd : decode cc pc = .ok (.invokevirtual idx, 3)) (kk : gW p l e R s m args below meth c D A nL Q cells slots gs.flatten L (pc + 3) (.long xr :: rest)) : gW p l e R s m args below meth c D A nL Q cells slots gs.flatten L pc stk :=
  g_callVG cx lk hM hlen isG hG hn rfl (wput_self isG gs gc hG) hci hrc hst hcat hR hd kk
theorem g_callVGr {y : MethodName} {cy : ByteArray} {nY n idx b ci q1 : Nat} {ret : Option FieldType} {rm : Room} {As rest : List Value} {gs gc g1 gs' : List va_W} {xr : Nat} {fs : List Value} {T : u_T} {N : Nat} (cx : gX p s m args meth c cc nL own D tys A) (lk : vlk own idx y cy nY ret n) (hM : gM l D tys y cy nY ret rm (.ref b :: As) gc.flatten (some (.ref xr)) g1.flatten) (hlen : As.length = n) (isG : List Nat) (hG : isG.map (fun i => gs[i]?) = gc.map some) (hn : va_nd isG = true) (ha : g1.map (List.map Prod.fst) = gc.map (List.map Prod.fst)) (hw : wput gs isG g1 = gs') (hci : vwCl[ci]? = some (y.cls, T, N)) (hrc : gc.flatten[q1]? = some (b, .inr (ci, fs))) (hst : stk = As.reverse ++ .ref b :: rest) (hcat : (rest.map fun v => v.category).sum ≤ 8) (hR : rm.cells = 0 ∧ rm.slots = 0 ∧ rm.frames + 1 ≤ R.frames ∧ 8 + (nY + 11) + rm.locals ≤ R.locals) (hd : decode cc pc = .ok (.invokevirtual idx, 3)) (kk : gW p l e R s m args below meth c D A nL Q cells slots gs'.flatten L (pc + 3) (.ref xr :: rest)) : gW p l e R s m args below meth c D A nL Q cells slots gs.flatten L pc stk :=
  g_callVG cx lk hM hlen isG hG hn ha hw hci hrc hst hcat hR hd kk
theorem g_callVGrR {y : MethodName} {cy : ByteArray} {nY n idx b ci q1 : Nat} {ret : Option FieldType} {rm : Room} {As rest : List Value} {gs gc : List va_W} {xr : Nat} {fs : List Value} {T : u_T} {N : Nat} (cx : gX p s m args meth c cc nL own D tys A) (lk : vlk own idx y cy nY ret n) (hM : gM l D tys y cy nY ret rm (.ref b :: As) gc.flatten (some (.ref xr)) gc.flatten) (hlen : As.length = n) (isG : List Nat) (hG : isG.map (fun i => gs[i]?) = gc.map some) (hn : va_nd isG = true) (hci : vwCl[ci]? = some (y.cls, T, N)) (hrc : gc.flatten[q1]? = some (b, .inr (ci, fs))) (hst : stk = As.reverse ++ .ref b :: rest) (hcat : (rest.map fun v => v.category).sum ≤ 8) (hR : rm.cells = 0 ∧ rm.slots = 0 ∧ rm.frames + 1 ≤ R.frames ∧ 8 + (nY + 11) + rm.locals ≤ R.locals) (hd : decode cc pc = .ok (.invokevirtual idx, 3)) (kk : gW p l e R s m args below meth c D A nL Q cells slots gs.flatten L (pc + 3) (.ref xr :: rest)) : gW p l e R s m args below meth c D A nL Q cells slots gs.flatten L pc stk :=
  g_callVG cx lk hM hlen isG hG hn rfl (wput_self isG gs gc hG) hci hrc hst hcat hR hd kk
theorem g_callVGv {y : MethodName} {cy : ByteArray} {nY n idx b ci q1 : Nat} {ret : Option FieldType} {rm : Room} {As rest : List Value} {gs gc g1 gs' : List va_W} {fs : List Value} {T : u_T} {N : Nat} (cx : gX p s m args meth c cc nL own D tys A) (lk : vlk own idx y cy nY ret n) (hM : gM l D tys y cy nY ret rm (.ref b :: As) gc.flatten none g1.flatten) (hlen : As.length = n) (isG : List Nat) (hG : isG.map (fun i => gs[i]?) = gc.map some) (hn : va_nd isG = true) (ha : g1.map (List.map Prod.fst) = gc.map (List.map Prod.fst)) (hw : wput gs isG g1 = gs') (hci : vwCl[ci]? = some (y.cls, T, N)) (hrc : gc.flatten[q1]? = some (b, .inr (ci, fs))) (hst : stk = As.reverse ++ .ref b :: rest) (hcat : (rest.map fun v => v.category).sum ≤ 8) (hR : rm.cells = 0 ∧ rm.slots = 0 ∧ rm.frames + 1 ≤ R.frames ∧ 8 + (nY + 11) + rm.locals ≤ R.locals) (hd : decode cc pc = .ok (.invokevirtual idx, 3)) (kk : gW p l e R s m args below meth c D A nL Q cells slots gs'.flatten L (pc + 3) rest) : gW p l e R s m args below meth c D A nL Q cells slots gs.flatten L pc stk :=
  g_callVG cx lk hM hlen isG hG hn ha hw hci hrc hst hcat hR hd kk
theorem g_callVGvR {y : MethodName} {cy : ByteArray} {nY n idx b ci q1 : Nat} {ret : Option FieldType} {rm : Room} {As rest : List Value} {gs gc : List va_W} {fs : List Value} {T : u_T} {N : Nat} (cx : gX p s m args meth c cc nL own D tys A) (lk : vlk own idx y cy nY ret n) (hM : gM l D tys y cy nY ret rm (.ref b :: As) gc.flatten none gc.flatten) (hlen : As.length = n) (isG : List Nat) (hG : isG.map (fun i => gs[i]?) = gc.map some) (hn : va_nd isG = true) (hci : vwCl[ci]? = some (y.cls, T, N)) (hrc : gc.flatten[q1]? = some (b, .inr (ci, fs))) (hst : stk = As.reverse ++ .ref b :: rest) (hcat : (rest.map fun v => v.category).sum ≤ 8) (hR : rm.cells = 0 ∧ rm.slots = 0 ∧ rm.frames + 1 ≤ R.frames ∧ 8 + (nY + 11) + rm.locals ≤ R.locals) (hd : decode cc pc = .ok (.invokevirtual idx, 3)) (kk : gW p l e R s m args below meth c D A nL Q cells slots gs.flatten L (pc + 3) rest) : gW p l e R s m args below meth c D A nL Q cells slots gs.flatten L pc stk :=
  g_callVG cx lk hM hlen isG hG hn rfl (wput_self isG gs gc hG) hci hrc hst hcat hR hd kk
theorem g_callSGi {y : MethodName} {cy : ByteArray} {nY n idx : Nat} {ret : Option FieldType} {rm : Room} {As rest : List Value} {gs gc g1 gs' : List va_W} {xr : Int32} (cx : gX p s m args meth c cc nL own D tys A) (lk : slk own idx y cy nY ret n) (hM : gM l D tys y cy nY ret rm As gc.flatten (some (.int xr)) g1.flatten) (hlen : As.length = n) (isG : List Nat) (hG : isG.map (fun i => gs[i]?) = gc.map some) (hn : va_nd isG = true) (ha : g1.map (List.map Prod.fst) = gc.map (List.map Prod.fst)) (hw : wput gs isG g1 = gs') (hst : stk = As.reverse ++ rest) (hcat : (rest.map fun v => v.category).sum ≤ 8) (hR : rm.cells = 0 ∧ rm.slots = 0 ∧ rm.frames + 1 ≤ R.frames ∧ 8 + (nY + 11) + rm.locals ≤ R.locals) (hd : decode cc pc = .ok (.invokestatic idx, 3)) (kk : gW p l e R s m args below meth c D A nL Q cells slots gs'.flatten L (pc + 3) (.int xr :: rest)) : gW p l e R s m args below meth c D A nL Q cells slots gs.flatten L pc stk :=
  g_callSG cx lk hM hlen isG hG hn ha hw hst hcat hR hd kk
theorem g_callSGiR {y : MethodName} {cy : ByteArray} {nY n idx : Nat} {ret : Option FieldType} {rm : Room} {As rest : List Value} {gs gc : List va_W} {xr : Int32} (cx : gX p s m args meth c cc nL own D tys A) (lk : slk own idx y cy nY ret n) (hM : gM l D tys y cy nY ret rm As gc.flatten (some (.int xr)) gc.flatten) (hlen : As.length = n) (isG : List Nat) (hG : isG.map (fun i => gs[i]?) = gc.map some) (hn : va_nd isG = true) (hst : stk = As.reverse ++ rest) (hcat : (rest.map fun v => v.category).sum ≤ 8) (hR : rm.cells = 0 ∧ rm.slots = 0 ∧ rm.frames + 1 ≤ R.frames ∧ 8 + (nY + 11) + rm.locals ≤ R.locals) (hd : decode cc pc = .ok (.invokestatic idx, 3)) (kk : gW p l e R s m args below meth c D A nL Q cells slots gs.flatten L (pc + 3) (.int xr :: rest)) : gW p l e R s m args below meth c D A nL Q cells slots gs.flatten L pc stk :=
  g_callSG cx lk hM hlen isG hG hn rfl (wput_self isG gs gc hG) hst hcat hR hd kk
theorem g_callSGl {y : MethodName} {cy : ByteArray} {nY n idx : Nat} {ret : Option FieldType} {rm : Room} {As rest : List Value} {gs gc g1 gs' : List va_W} {xr : Int64} (cx : gX p s m args meth c cc nL own D tys A) (lk : slk own idx y cy nY ret n) (hM : gM l D tys y cy nY ret rm As gc.flatten (some (.long xr)) g1.flatten) (hlen : As.length = n) (isG : List Nat) (hG : isG.map (fun i => gs[i]?) = gc.map some) (hn : va_nd isG = true) (ha : g1.map (List.map Prod.fst) = gc.map (List.map Prod.fst)) (hw : wput gs isG g1 = gs') (hst : stk = As.reverse ++ rest) (hcat : (rest.map fun v => v.category).sum ≤ 8) (hR : rm.cells = 0 ∧ rm.slots = 0 ∧ rm.frames + 1 ≤ R.frames ∧ 8 + (nY + 11) + rm.locals ≤ R.locals) (hd : decode cc pc = .ok (.invokestatic idx, 3)) (kk : gW p l e R s m args below meth c D A nL Q cells slots gs'.flatten L (pc + 3) (.long xr :: rest)) : gW p l e R s m args below meth c D A nL Q cells slots gs.flatten L pc stk :=
  g_callSG cx lk hM hlen isG hG hn ha hw hst hcat hR hd kk
theorem g_callSGlR {y : MethodName} {cy : ByteArray} {nY n idx : Nat} {ret : Option FieldType} {rm : Room} {As rest : List Value} {gs gc : List va_W} {xr : Int64} (cx : gX p s m args meth c cc nL own D tys A) (lk : slk own idx y cy nY ret n) (hM : gM l D tys y cy nY ret rm As gc.flatten (some (.long xr)) gc.flatten) (hlen : As.length = n) (isG : List Nat) (hG : isG.map (fun i => gs[i]?) = gc.map some) (hn : va_nd isG = true) (hst : stk = As.reverse ++ rest) (hcat : (rest.map fun v => v.category).sum ≤ 8) (hR : rm.cells = 0 ∧ rm.slots = 0 ∧ rm.frames + 1 ≤ R.frames ∧ 8 + (nY + 11) + rm.locals ≤ R.locals) (hd : decode cc pc = .ok (.invokestatic idx, 3)) (kk : gW p l e R s m args below meth c D A nL Q cells slots gs.flatten L (pc + 3) (.long xr :: rest)) : gW p l e R s m args below meth c D A nL Q cells slots gs.flatten L pc stk :=
  g_callSG cx lk hM hlen isG hG hn rfl (wput_self isG gs gc hG) hst hcat hR hd kk
theorem g_callSGr {y : MethodName} {cy : ByteArray} {nY n idx : Nat} {ret : Option FieldType} {rm : Room} {As rest : List Value} {gs gc g1 gs' : List va_W} {xr : Nat} (cx : gX p s m args meth c cc nL own D tys A) (lk : slk own idx y cy nY ret n) (hM : gM l D tys y cy nY ret rm As gc.flatten (some (.ref xr)) g1.flatten) (hlen : As.length = n) (isG : List Nat) (hG : isG.map (fun i => gs[i]?) = gc.map some) (hn : va_nd isG = true) (ha : g1.map (List.map Prod.fst) = gc.map (List.map Prod.fst)) (hw : wput gs isG g1 = gs') (hst : stk = As.reverse ++ rest) (hcat : (rest.map fun v => v.category).sum ≤ 8) (hR : rm.cells = 0 ∧ rm.slots = 0 ∧ rm.frames + 1 ≤ R.frames ∧ 8 + (nY + 11) + rm.locals ≤ R.locals) (hd : decode cc pc = .ok (.invokestatic idx, 3)) (kk : gW p l e R s m args below meth c D A nL Q cells slots gs'.flatten L (pc + 3) (.ref xr :: rest)) : gW p l e R s m args below meth c D A nL Q cells slots gs.flatten L pc stk :=
  g_callSG cx lk hM hlen isG hG hn ha hw hst hcat hR hd kk
theorem g_callSGrR {y : MethodName} {cy : ByteArray} {nY n idx : Nat} {ret : Option FieldType} {rm : Room} {As rest : List Value} {gs gc : List va_W} {xr : Nat} (cx : gX p s m args meth c cc nL own D tys A) (lk : slk own idx y cy nY ret n) (hM : gM l D tys y cy nY ret rm As gc.flatten (some (.ref xr)) gc.flatten) (hlen : As.length = n) (isG : List Nat) (hG : isG.map (fun i => gs[i]?) = gc.map some) (hn : va_nd isG = true) (hst : stk = As.reverse ++ rest) (hcat : (rest.map fun v => v.category).sum ≤ 8) (hR : rm.cells = 0 ∧ rm.slots = 0 ∧ rm.frames + 1 ≤ R.frames ∧ 8 + (nY + 11) + rm.locals ≤ R.locals) (hd : decode cc pc = .ok (.invokestatic idx, 3)) (kk : gW p l e R s m args below meth c D A nL Q cells slots gs.flatten L (pc + 3) (.ref xr :: rest)) : gW p l e R s m args below meth c D A nL Q cells slots gs.flatten L pc stk :=
  g_callSG cx lk hM hlen isG hG hn rfl (wput_self isG gs gc hG) hst hcat hR hd kk
theorem g_callSGv {y : MethodName} {cy : ByteArray} {nY n idx : Nat} {ret : Option FieldType} {rm : Room} {As rest : List Value} {gs gc g1 gs' : List va_W} (cx : gX p s m args meth c cc nL own D tys A) (lk : slk own idx y cy nY ret n) (hM : gM l D tys y cy nY ret rm As gc.flatten none g1.flatten) (hlen : As.length = n) (isG : List Nat) (hG : isG.map (fun i => gs[i]?) = gc.map some) (hn : va_nd isG = true) (ha : g1.map (List.map Prod.fst) = gc.map (List.map Prod.fst)) (hw : wput gs isG g1 = gs') (hst : stk = As.reverse ++ rest) (hcat : (rest.map fun v => v.category).sum ≤ 8) (hR : rm.cells = 0 ∧ rm.slots = 0 ∧ rm.frames + 1 ≤ R.frames ∧ 8 + (nY + 11) + rm.locals ≤ R.locals) (hd : decode cc pc = .ok (.invokestatic idx, 3)) (kk : gW p l e R s m args below meth c D A nL Q cells slots gs'.flatten L (pc + 3) rest) : gW p l e R s m args below meth c D A nL Q cells slots gs.flatten L pc stk :=
  g_callSG cx lk hM hlen isG hG hn ha hw hst hcat hR hd kk
theorem g_callSGvR {y : MethodName} {cy : ByteArray} {nY n idx : Nat} {ret : Option FieldType} {rm : Room} {As rest : List Value} {gs gc : List va_W} (cx : gX p s m args meth c cc nL own D tys A) (lk : slk own idx y cy nY ret n) (hM : gM l D tys y cy nY ret rm As gc.flatten none gc.flatten) (hlen : As.length = n) (isG : List Nat) (hG : isG.map (fun i => gs[i]?) = gc.map some) (hn : va_nd isG = true) (hst : stk = As.reverse ++ rest) (hcat : (rest.map fun v => v.category).sum ≤ 8) (hR : rm.cells = 0 ∧ rm.slots = 0 ∧ rm.frames + 1 ≤ R.frames ∧ 8 + (nY + 11) + rm.locals ≤ R.locals) (hd : decode cc pc = .ok (.invokestatic idx, 3)) (kk : gW p l e R s m args below meth c D A nL Q cells slots gs.flatten L (pc + 3) rest) : gW p l e R s m args below meth c D A nL Q cells slots gs.flatten L pc stk :=
  g_callSG cx lk hM hlen isG hG hn rfl (wput_self isG gs gc hG) hst hcat hR hd kk
theorem g_callVF {y : MethodName} {cy : ByteArray} {nY n idx b ci q1 : Nat} {ret : Option FieldType} {rm : Room} {As rest : List Value} {wc1 : va_W} {ov : Option Value} {fs : List Value} {T : u_T} {N : Nat} (cx : gX p s m args meth c cc nL own D tys A) (lk : vlk own idx y cy nY ret n) (hM : gM l D tys y cy nY ret rm (.ref b :: As) ws ov wc1) (hlen : As.length = n)
    (hci : vwCl[ci]? = some (y.cls, T, N)) (hrc : ws[q1]? = some (b, .inr (ci, fs))) (hst : stk = As.reverse ++ .ref b :: rest) (hcat : (rest.map fun v => v.category).sum ≤ 8)
    (hR : rm.cells = 0 ∧ rm.slots = 0 ∧ rm.frames + 1 ≤ R.frames ∧ 8 + (nY + 11) + rm.locals ≤ R.locals) (hd : decode cc pc = .ok (.invokevirtual idx, 3)) (kk : gW p l e R s m args below meth c D A nL Q cells slots wc1 L (pc + 3) (ov.toList ++ rest)) : gW p l e R s m args below meth c D A nL Q cells slots ws L pc stk := by
  intro hc H locs ls hP hD hS hl
  have hG : GoodIn (Cond.code y cy nY ret :: TT) (wsV own idx y.cls y (.code y cy nY ret :: TT)) := tt_in2 lk.1 (tt_in lk.2.1)
  have hts : ∀ w ∈ (Cond.code y cy nY ret :: TT), w.before args s = true := fun w h => by
    rcases List.mem_cons.mp h with rfl | h
    · exact cx.2.2.2.2.1 _ lk.2.1
    · exact cx.2.2.2.2.1 _ h
  exact g_runF cx kk hc hD hS hl (va_runV (As := As) (rest := rest) ⟨cx.1, cx.2.1, cx.2.2.1, cx.2.2.2.1, hts⟩ (hM H.size) (cwV n hts hG rfl hR.1 hR.2.1 ⟨rfl, lk.2.2⟩ hR.2.2) ⟨g_blind, va_recv cx.2.2.2.2.2.1 hP hci hrc, fun U hU hW => ⟨rfl, by rw [hU], by rw [hU]; exact hP, va_K.moved hW.alike cx.2.2.2.2.2.1, hD.weaken (fun _ _ _ _ => trivial), sf_at cx.2.2.2.2.2.2.2.2 hS (fun q h => by rcases h with ⟨k, e, h⟩ | h; exact hD.2 k _ h; exact cx.2.2.2.2.2.2.1 q (Nat.le_trans hS.1 h)) hU hW⟩⟩ rfl hlen hl.1 hst (lv_room hcat) hd hc)
theorem g_callSF {y : MethodName} {cy : ByteArray} {nY n idx : Nat} {ret : Option FieldType} {rm : Room} {As rest : List Value} {wc1 : va_W} {ov : Option Value} (cx : gX p s m args meth c cc nL own D tys A) (lk : slk own idx y cy nY ret n) (hM : gM l D tys y cy nY ret rm As ws ov wc1) (hlen : As.length = n)
    (hst : stk = As.reverse ++ rest) (hcat : (rest.map fun v => v.category).sum ≤ 8)
    (hR : rm.cells = 0 ∧ rm.slots = 0 ∧ rm.frames + 1 ≤ R.frames ∧ 8 + (nY + 11) + rm.locals ≤ R.locals) (hd : decode cc pc = .ok (.invokestatic idx, 3)) (kk : gW p l e R s m args below meth c D A nL Q cells slots wc1 L (pc + 3) (ov.toList ++ rest)) : gW p l e R s m args below meth c D A nL Q cells slots ws L pc stk := by
  intro hc H locs ls hP hD hS hl
  have hG : GoodIn (Cond.code y cy nY ret :: TT) (va_wsS own idx y (.code y cy nY ret :: TT)) := tt_in2 lk.1 (tt_in lk.2.1)
  have hts : ∀ w ∈ (Cond.code y cy nY ret :: TT), w.before args s = true := fun w h => by
    rcases List.mem_cons.mp h with rfl | h
    · exact cx.2.2.2.2.1 _ lk.2.1
    · exact cx.2.2.2.2.1 _ h
  exact g_runF cx kk hc hD hS hl (va_runS (As := As) (rest := rest) ⟨cx.1, cx.2.1, cx.2.2.1, cx.2.2.2.1, hts⟩ (hM H.size) (va_cwS n hts hG rfl hR.1 hR.2.1 lk.2.2 hR.2.2) ⟨g_blind, fun U hU hW => ⟨rfl, by rw [hU], by rw [hU]; exact hP, va_K.moved hW.alike cx.2.2.2.2.2.1, hD.weaken (fun _ _ _ _ => trivial), sf_at cx.2.2.2.2.2.2.2.2 hS (fun q h => by rcases h with ⟨k, e, h⟩ | h; exact hD.2 k _ h; exact cx.2.2.2.2.2.2.1 q (Nat.le_trans hS.1 h)) hU hW⟩⟩ rfl hlen hl.1 hst (lv_room hcat) hd hc)
theorem g_callVFi {y : MethodName} {cy : ByteArray} {nY n idx b ci q1 : Nat} {ret : Option FieldType} {rm : Room} {As rest : List Value} {wc1 : va_W} {xr : Int32} {fs : List Value} {T : u_T} {N : Nat} (cx : gX p s m args meth c cc nL own D tys A) (lk : vlk own idx y cy nY ret n) (hM : gM l D tys y cy nY ret rm (.ref b :: As) ws (some (.int xr)) wc1) (hlen : As.length = n) (hci : vwCl[ci]? = some (y.cls, T, N)) (hrc : ws[q1]? = some (b, .inr (ci, fs))) (hst : stk = As.reverse ++ .ref b :: rest) (hcat : (rest.map fun v => v.category).sum ≤ 8) (hR : rm.cells = 0 ∧ rm.slots = 0 ∧ rm.frames + 1 ≤ R.frames ∧ 8 + (nY + 11) + rm.locals ≤ R.locals) (hd : decode cc pc = .ok (.invokevirtual idx, 3)) (kk : gW p l e R s m args below meth c D A nL Q cells slots wc1 L (pc + 3) (.int xr :: rest)) : gW p l e R s m args below meth c D A nL Q cells slots ws L pc stk :=
  g_callVF cx lk hM hlen hci hrc hst hcat hR hd kk
theorem g_callVFl {y : MethodName} {cy : ByteArray} {nY n idx b ci q1 : Nat} {ret : Option FieldType} {rm : Room} {As rest : List Value} {wc1 : va_W} {xr : Int64} {fs : List Value} {T : u_T} {N : Nat} (cx : gX p s m args meth c cc nL own D tys A) (lk : vlk own idx y cy nY ret n) (hM : gM l D tys y cy nY ret rm (.ref b :: As) ws (some (.long xr)) wc1) (hlen : As.length = n) (hci : vwCl[ci]? = some (y.cls, T, N)) (hrc : ws[q1]? = some (b, .inr (ci, fs))) (hst : stk = As.reverse ++ .ref b :: rest) (hcat : (rest.map fun v => v.category).sum ≤ 8) (hR : rm.cells = 0 ∧ rm.slots = 0 ∧ rm.frames + 1 ≤ R.frames ∧ 8 + (nY + 11) + rm.locals ≤ R.locals) (hd : decode cc pc = .ok (.invokevirtual idx, 3)) (kk : gW p l e R s m args below meth c D A nL Q cells slots wc1 L (pc + 3) (.long xr :: rest)) : gW p l e R s m args below meth c D A nL Q cells slots ws L pc stk :=
  g_callVF cx lk hM hlen hci hrc hst hcat hR hd kk
theorem g_callVFr {y : MethodName} {cy : ByteArray} {nY n idx b ci q1 : Nat} {ret : Option FieldType} {rm : Room} {As rest : List Value} {wc1 : va_W} {xr : Nat} {fs : List Value} {T : u_T} {N : Nat} (cx : gX p s m args meth c cc nL own D tys A) (lk : vlk own idx y cy nY ret n) (hM : gM l D tys y cy nY ret rm (.ref b :: As) ws (some (.ref xr)) wc1) (hlen : As.length = n) (hci : vwCl[ci]? = some (y.cls, T, N)) (hrc : ws[q1]? = some (b, .inr (ci, fs))) (hst : stk = As.reverse ++ .ref b :: rest) (hcat : (rest.map fun v => v.category).sum ≤ 8) (hR : rm.cells = 0 ∧ rm.slots = 0 ∧ rm.frames + 1 ≤ R.frames ∧ 8 + (nY + 11) + rm.locals ≤ R.locals) (hd : decode cc pc = .ok (.invokevirtual idx, 3)) (kk : gW p l e R s m args below meth c D A nL Q cells slots wc1 L (pc + 3) (.ref xr :: rest)) : gW p l e R s m args below meth c D A nL Q cells slots ws L pc stk :=
  g_callVF cx lk hM hlen hci hrc hst hcat hR hd kk
theorem g_callVFv {y : MethodName} {cy : ByteArray} {nY n idx b ci q1 : Nat} {ret : Option FieldType} {rm : Room} {As rest : List Value} {wc1 : va_W} {fs : List Value} {T : u_T} {N : Nat} (cx : gX p s m args meth c cc nL own D tys A) (lk : vlk own idx y cy nY ret n) (hM : gM l D tys y cy nY ret rm (.ref b :: As) ws none wc1) (hlen : As.length = n) (hci : vwCl[ci]? = some (y.cls, T, N)) (hrc : ws[q1]? = some (b, .inr (ci, fs))) (hst : stk = As.reverse ++ .ref b :: rest) (hcat : (rest.map fun v => v.category).sum ≤ 8) (hR : rm.cells = 0 ∧ rm.slots = 0 ∧ rm.frames + 1 ≤ R.frames ∧ 8 + (nY + 11) + rm.locals ≤ R.locals) (hd : decode cc pc = .ok (.invokevirtual idx, 3)) (kk : gW p l e R s m args below meth c D A nL Q cells slots wc1 L (pc + 3) rest) : gW p l e R s m args below meth c D A nL Q cells slots ws L pc stk :=
  g_callVF cx lk hM hlen hci hrc hst hcat hR hd kk
theorem g_callSFi {y : MethodName} {cy : ByteArray} {nY n idx : Nat} {ret : Option FieldType} {rm : Room} {As rest : List Value} {wc1 : va_W} {xr : Int32} (cx : gX p s m args meth c cc nL own D tys A) (lk : slk own idx y cy nY ret n) (hM : gM l D tys y cy nY ret rm As ws (some (.int xr)) wc1) (hlen : As.length = n) (hst : stk = As.reverse ++ rest) (hcat : (rest.map fun v => v.category).sum ≤ 8) (hR : rm.cells = 0 ∧ rm.slots = 0 ∧ rm.frames + 1 ≤ R.frames ∧ 8 + (nY + 11) + rm.locals ≤ R.locals) (hd : decode cc pc = .ok (.invokestatic idx, 3)) (kk : gW p l e R s m args below meth c D A nL Q cells slots wc1 L (pc + 3) (.int xr :: rest)) : gW p l e R s m args below meth c D A nL Q cells slots ws L pc stk :=
  g_callSF cx lk hM hlen hst hcat hR hd kk
theorem g_callSFl {y : MethodName} {cy : ByteArray} {nY n idx : Nat} {ret : Option FieldType} {rm : Room} {As rest : List Value} {wc1 : va_W} {xr : Int64} (cx : gX p s m args meth c cc nL own D tys A) (lk : slk own idx y cy nY ret n) (hM : gM l D tys y cy nY ret rm As ws (some (.long xr)) wc1) (hlen : As.length = n) (hst : stk = As.reverse ++ rest) (hcat : (rest.map fun v => v.category).sum ≤ 8) (hR : rm.cells = 0 ∧ rm.slots = 0 ∧ rm.frames + 1 ≤ R.frames ∧ 8 + (nY + 11) + rm.locals ≤ R.locals) (hd : decode cc pc = .ok (.invokestatic idx, 3)) (kk : gW p l e R s m args below meth c D A nL Q cells slots wc1 L (pc + 3) (.long xr :: rest)) : gW p l e R s m args below meth c D A nL Q cells slots ws L pc stk :=
  g_callSF cx lk hM hlen hst hcat hR hd kk
theorem g_callSFr {y : MethodName} {cy : ByteArray} {nY n idx : Nat} {ret : Option FieldType} {rm : Room} {As rest : List Value} {wc1 : va_W} {xr : Nat} (cx : gX p s m args meth c cc nL own D tys A) (lk : slk own idx y cy nY ret n) (hM : gM l D tys y cy nY ret rm As ws (some (.ref xr)) wc1) (hlen : As.length = n) (hst : stk = As.reverse ++ rest) (hcat : (rest.map fun v => v.category).sum ≤ 8) (hR : rm.cells = 0 ∧ rm.slots = 0 ∧ rm.frames + 1 ≤ R.frames ∧ 8 + (nY + 11) + rm.locals ≤ R.locals) (hd : decode cc pc = .ok (.invokestatic idx, 3)) (kk : gW p l e R s m args below meth c D A nL Q cells slots wc1 L (pc + 3) (.ref xr :: rest)) : gW p l e R s m args below meth c D A nL Q cells slots ws L pc stk :=
  g_callSF cx lk hM hlen hst hcat hR hd kk
theorem g_callSFv {y : MethodName} {cy : ByteArray} {nY n idx : Nat} {ret : Option FieldType} {rm : Room} {As rest : List Value} {wc1 : va_W} (cx : gX p s m args meth c cc nL own D tys A) (lk : slk own idx y cy nY ret n) (hM : gM l D tys y cy nY ret rm As ws none wc1) (hlen : As.length = n) (hst : stk = As.reverse ++ rest) (hcat : (rest.map fun v => v.category).sum ≤ 8) (hR : rm.cells = 0 ∧ rm.slots = 0 ∧ rm.frames + 1 ≤ R.frames ∧ 8 + (nY + 11) + rm.locals ≤ R.locals) (hd : decode cc pc = .ok (.invokestatic idx, 3)) (kk : gW p l e R s m args below meth c D A nL Q cells slots wc1 L (pc + 3) rest) : gW p l e R s m args below meth c D A nL Q cells slots ws L pc stk :=
  g_callSF cx lk hM hlen hst hcat hR hd kk
theorem g_callVi {y : MethodName} {cy : ByteArray} {nY n idx b ci q1 : Nat} {ret : Option FieldType} {rm : Room} {As rest : List Value} {wc wc1 ws' : va_W} {xr : Int32} {fs : List Value} {T : u_T} {N : Nat} (cx : gX p s m args meth c cc nL own D tys A) (lk : vlk own idx y cy nY ret n) (hM : gM l D tys y cy nY ret rm (.ref b :: As) wc (some (.int xr)) wc1) (hlen : As.length = n) (isC : List Nat) (hC : isC.map (fun i => ws[i]?) = wc.map some) (hn : va_nd isC = true) (ha : wc1.map Prod.fst = wc.map Prod.fst) (hw : wput ws isC wc1 = ws') (hci : vwCl[ci]? = some (y.cls, T, N)) (hrc : wc[q1]? = some (b, .inr (ci, fs))) (hst : stk = As.reverse ++ .ref b :: rest) (hcat : (rest.map fun v => v.category).sum ≤ 8) (hR : rm.cells = 0 ∧ rm.slots = 0 ∧ rm.frames + 1 ≤ R.frames ∧ 8 + (nY + 11) + rm.locals ≤ R.locals) (hd : decode cc pc = .ok (.invokevirtual idx, 3)) (kk : gW p l e R s m args below meth c D A nL Q cells slots ws' L (pc + 3) (.int xr :: rest)) : gW p l e R s m args below meth c D A nL Q cells slots ws L pc stk :=
  g_callV cx lk hM hlen isC hC hn ha hw hci hrc hst hcat hR hd kk
theorem g_callViR {y : MethodName} {cy : ByteArray} {nY n idx b ci q1 : Nat} {ret : Option FieldType} {rm : Room} {As rest : List Value} {wc : va_W} {xr : Int32} {fs : List Value} {T : u_T} {N : Nat} (cx : gX p s m args meth c cc nL own D tys A) (lk : vlk own idx y cy nY ret n) (hM : gM l D tys y cy nY ret rm (.ref b :: As) wc (some (.int xr)) wc) (hlen : As.length = n) (isC : List Nat) (hC : isC.map (fun i => ws[i]?) = wc.map some) (hn : va_nd isC = true) (hci : vwCl[ci]? = some (y.cls, T, N)) (hrc : wc[q1]? = some (b, .inr (ci, fs))) (hst : stk = As.reverse ++ .ref b :: rest) (hcat : (rest.map fun v => v.category).sum ≤ 8) (hR : rm.cells = 0 ∧ rm.slots = 0 ∧ rm.frames + 1 ≤ R.frames ∧ 8 + (nY + 11) + rm.locals ≤ R.locals) (hd : decode cc pc = .ok (.invokevirtual idx, 3)) (kk : gW p l e R s m args below meth c D A nL Q cells slots ws L (pc + 3) (.int xr :: rest)) : gW p l e R s m args below meth c D A nL Q cells slots ws L pc stk :=
  g_callV cx lk hM hlen isC hC hn rfl (wput_self isC ws wc hC) hci hrc hst hcat hR hd kk
theorem g_callVl {y : MethodName} {cy : ByteArray} {nY n idx b ci q1 : Nat} {ret : Option FieldType} {rm : Room} {As rest : List Value} {wc wc1 ws' : va_W} {xr : Int64} {fs : List Value} {T : u_T} {N : Nat} (cx : gX p s m args meth c cc nL own D tys A) (lk : vlk own idx y cy nY ret n) (hM : gM l D tys y cy nY ret rm (.ref b :: As) wc (some (.long xr)) wc1) (hlen : As.length = n) (isC : List Nat) (hC : isC.map (fun i => ws[i]?) = wc.map some) (hn : va_nd isC = true) (ha : wc1.map Prod.fst = wc.map Prod.fst) (hw : wput ws isC wc1 = ws') (hci : vwCl[ci]? = some (y.cls, T, N)) (hrc : wc[q1]? = some (b, .inr (ci, fs))) (hst : stk = As.reverse ++ .ref b :: rest) (hcat : (rest.map fun v => v.category).sum ≤ 8) (hR : rm.cells = 0 ∧ rm.slots = 0 ∧ rm.frames + 1 ≤ R.frames ∧ 8 + (nY + 11) + rm.locals ≤ R.locals) (hd : decode cc pc = .ok (.invokevirtual idx, 3)) (kk : gW p l e R s m args below meth c D A nL Q cells slots ws' L (pc + 3) (.long xr :: rest)) : gW p l e R s m args below meth c D A nL Q cells slots ws L pc stk :=
  g_callV cx lk hM hlen isC hC hn ha hw hci hrc hst hcat hR hd kk
theorem g_callVlR {y : MethodName} {cy : ByteArray} {nY n idx b ci q1 : Nat} {ret : Option FieldType} {rm : Room} {As rest : List Value} {wc : va_W} {xr : Int64} {fs : List Value} {T : u_T} {N : Nat} (cx : gX p s m args meth c cc nL own D tys A) (lk : vlk own idx y cy nY ret n) (hM : gM l D tys y cy nY ret rm (.ref b :: As) wc (some (.long xr)) wc) (hlen : As.length = n) (isC : List Nat) (hC : isC.map (fun i => ws[i]?) = wc.map some) (hn : va_nd isC = true) (hci : vwCl[ci]? = some (y.cls, T, N)) (hrc : wc[q1]? = some (b, .inr (ci, fs))) (hst : stk = As.reverse ++ .ref b :: rest) (hcat : (rest.map fun v => v.category).sum ≤ 8) (hR : rm.cells = 0 ∧ rm.slots = 0 ∧ rm.frames + 1 ≤ R.frames ∧ 8 + (nY + 11) + rm.locals ≤ R.locals) (hd : decode cc pc = .ok (.invokevirtual idx, 3)) (kk : gW p l e R s m args below meth c D A nL Q cells slots ws L (pc + 3) (.long xr :: rest)) : gW p l e R s m args below meth c D A nL Q cells slots ws L pc stk :=
  g_callV cx lk hM hlen isC hC hn rfl (wput_self isC ws wc hC) hci hrc hst hcat hR hd kk
theorem g_callVr {y : MethodName} {cy : ByteArray} {nY n idx b ci q1 : Nat} {ret : Option FieldType} {rm : Room} {As rest : List Value} {wc wc1 ws' : va_W} {xr : Nat} {fs : List Value} {T : u_T} {N : Nat} (cx : gX p s m args meth c cc nL own D tys A) (lk : vlk own idx y cy nY ret n) (hM : gM l D tys y cy nY ret rm (.ref b :: As) wc (some (.ref xr)) wc1) (hlen : As.length = n) (isC : List Nat) (hC : isC.map (fun i => ws[i]?) = wc.map some) (hn : va_nd isC = true) (ha : wc1.map Prod.fst = wc.map Prod.fst) (hw : wput ws isC wc1 = ws') (hci : vwCl[ci]? = some (y.cls, T, N)) (hrc : wc[q1]? = some (b, .inr (ci, fs))) (hst : stk = As.reverse ++ .ref b :: rest) (hcat : (rest.map fun v => v.category).sum ≤ 8) (hR : rm.cells = 0 ∧ rm.slots = 0 ∧ rm.frames + 1 ≤ R.frames ∧ 8 + (nY + 11) + rm.locals ≤ R.locals) (hd : decode cc pc = .ok (.invokevirtual idx, 3)) (kk : gW p l e R s m args below meth c D A nL Q cells slots ws' L (pc + 3) (.ref xr :: rest)) : gW p l e R s m args below meth c D A nL Q cells slots ws L pc stk :=
  g_callV cx lk hM hlen isC hC hn ha hw hci hrc hst hcat hR hd kk
theorem g_callVrR {y : MethodName} {cy : ByteArray} {nY n idx b ci q1 : Nat} {ret : Option FieldType} {rm : Room} {As rest : List Value} {wc : va_W} {xr : Nat} {fs : List Value} {T : u_T} {N : Nat} (cx : gX p s m args meth c cc nL own D tys A) (lk : vlk own idx y cy nY ret n) (hM : gM l D tys y cy nY ret rm (.ref b :: As) wc (some (.ref xr)) wc) (hlen : As.length = n) (isC : List Nat) (hC : isC.map (fun i => ws[i]?) = wc.map some) (hn : va_nd isC = true) (hci : vwCl[ci]? = some (y.cls, T, N)) (hrc : wc[q1]? = some (b, .inr (ci, fs))) (hst : stk = As.reverse ++ .ref b :: rest) (hcat : (rest.map fun v => v.category).sum ≤ 8) (hR : rm.cells = 0 ∧ rm.slots = 0 ∧ rm.frames + 1 ≤ R.frames ∧ 8 + (nY + 11) + rm.locals ≤ R.locals) (hd : decode cc pc = .ok (.invokevirtual idx, 3)) (kk : gW p l e R s m args below meth c D A nL Q cells slots ws L (pc + 3) (.ref xr :: rest)) : gW p l e R s m args below meth c D A nL Q cells slots ws L pc stk :=
  g_callV cx lk hM hlen isC hC hn rfl (wput_self isC ws wc hC) hci hrc hst hcat hR hd kk
theorem g_callVv {y : MethodName} {cy : ByteArray} {nY n idx b ci q1 : Nat} {ret : Option FieldType} {rm : Room} {As rest : List Value} {wc wc1 ws' : va_W} {fs : List Value} {T : u_T} {N : Nat} (cx : gX p s m args meth c cc nL own D tys A) (lk : vlk own idx y cy nY ret n) (hM : gM l D tys y cy nY ret rm (.ref b :: As) wc none wc1) (hlen : As.length = n) (isC : List Nat) (hC : isC.map (fun i => ws[i]?) = wc.map some) (hn : va_nd isC = true) (ha : wc1.map Prod.fst = wc.map Prod.fst) (hw : wput ws isC wc1 = ws') (hci : vwCl[ci]? = some (y.cls, T, N)) (hrc : wc[q1]? = some (b, .inr (ci, fs))) (hst : stk = As.reverse ++ .ref b :: rest) (hcat : (rest.map fun v => v.category).sum ≤ 8) (hR : rm.cells = 0 ∧ rm.slots = 0 ∧ rm.frames + 1 ≤ R.frames ∧ 8 + (nY + 11) + rm.locals ≤ R.locals) (hd : decode cc pc = .ok (.invokevirtual idx, 3)) (kk : gW p l e R s m args below meth c D A nL Q cells slots ws' L (pc + 3) rest) : gW p l e R s m args below meth c D A nL Q cells slots ws L pc stk :=
  g_callV cx lk hM hlen isC hC hn ha hw hci hrc hst hcat hR hd kk
theorem g_callVvR {y : MethodName} {cy : ByteArray} {nY n idx b ci q1 : Nat} {ret : Option FieldType} {rm : Room} {As rest : List Value} {wc : va_W} {fs : List Value} {T : u_T} {N : Nat} (cx : gX p s m args meth c cc nL own D tys A) (lk : vlk own idx y cy nY ret n) (hM : gM l D tys y cy nY ret rm (.ref b :: As) wc none wc) (hlen : As.length = n) (isC : List Nat) (hC : isC.map (fun i => ws[i]?) = wc.map some) (hn : va_nd isC = true) (hci : vwCl[ci]? = some (y.cls, T, N)) (hrc : wc[q1]? = some (b, .inr (ci, fs))) (hst : stk = As.reverse ++ .ref b :: rest) (hcat : (rest.map fun v => v.category).sum ≤ 8) (hR : rm.cells = 0 ∧ rm.slots = 0 ∧ rm.frames + 1 ≤ R.frames ∧ 8 + (nY + 11) + rm.locals ≤ R.locals) (hd : decode cc pc = .ok (.invokevirtual idx, 3)) (kk : gW p l e R s m args below meth c D A nL Q cells slots ws L (pc + 3) rest) : gW p l e R s m args below meth c D A nL Q cells slots ws L pc stk :=
  g_callV cx lk hM hlen isC hC hn rfl (wput_self isC ws wc hC) hci hrc hst hcat hR hd kk
theorem g_callSi {y : MethodName} {cy : ByteArray} {nY n idx : Nat} {ret : Option FieldType} {rm : Room} {As rest : List Value} {wc wc1 ws' : va_W} {xr : Int32} (cx : gX p s m args meth c cc nL own D tys A) (lk : slk own idx y cy nY ret n) (hM : gM l D tys y cy nY ret rm As wc (some (.int xr)) wc1) (hlen : As.length = n) (isC : List Nat) (hC : isC.map (fun i => ws[i]?) = wc.map some) (hn : va_nd isC = true) (ha : wc1.map Prod.fst = wc.map Prod.fst) (hw : wput ws isC wc1 = ws') (hst : stk = As.reverse ++ rest) (hcat : (rest.map fun v => v.category).sum ≤ 8) (hR : rm.cells = 0 ∧ rm.slots = 0 ∧ rm.frames + 1 ≤ R.frames ∧ 8 + (nY + 11) + rm.locals ≤ R.locals) (hd : decode cc pc = .ok (.invokestatic idx, 3)) (kk : gW p l e R s m args below meth c D A nL Q cells slots ws' L (pc + 3) (.int xr :: rest)) : gW p l e R s m args below meth c D A nL Q cells slots ws L pc stk :=
  g_callS cx lk hM hlen isC hC hn ha hw hst hcat hR hd kk
theorem g_callSiR {y : MethodName} {cy : ByteArray} {nY n idx : Nat} {ret : Option FieldType} {rm : Room} {As rest : List Value} {wc : va_W} {xr : Int32} (cx : gX p s m args meth c cc nL own D tys A) (lk : slk own idx y cy nY ret n) (hM : gM l D tys y cy nY ret rm As wc (some (.int xr)) wc) (hlen : As.length = n) (isC : List Nat) (hC : isC.map (fun i => ws[i]?) = wc.map some) (hn : va_nd isC = true) (hst : stk = As.reverse ++ rest) (hcat : (rest.map fun v => v.category).sum ≤ 8) (hR : rm.cells = 0 ∧ rm.slots = 0 ∧ rm.frames + 1 ≤ R.frames ∧ 8 + (nY + 11) + rm.locals ≤ R.locals) (hd : decode cc pc = .ok (.invokestatic idx, 3)) (kk : gW p l e R s m args below meth c D A nL Q cells slots ws L (pc + 3) (.int xr :: rest)) : gW p l e R s m args below meth c D A nL Q cells slots ws L pc stk :=
  g_callS cx lk hM hlen isC hC hn rfl (wput_self isC ws wc hC) hst hcat hR hd kk
theorem g_callSl {y : MethodName} {cy : ByteArray} {nY n idx : Nat} {ret : Option FieldType} {rm : Room} {As rest : List Value} {wc wc1 ws' : va_W} {xr : Int64} (cx : gX p s m args meth c cc nL own D tys A) (lk : slk own idx y cy nY ret n) (hM : gM l D tys y cy nY ret rm As wc (some (.long xr)) wc1) (hlen : As.length = n) (isC : List Nat) (hC : isC.map (fun i => ws[i]?) = wc.map some) (hn : va_nd isC = true) (ha : wc1.map Prod.fst = wc.map Prod.fst) (hw : wput ws isC wc1 = ws') (hst : stk = As.reverse ++ rest) (hcat : (rest.map fun v => v.category).sum ≤ 8) (hR : rm.cells = 0 ∧ rm.slots = 0 ∧ rm.frames + 1 ≤ R.frames ∧ 8 + (nY + 11) + rm.locals ≤ R.locals) (hd : decode cc pc = .ok (.invokestatic idx, 3)) (kk : gW p l e R s m args below meth c D A nL Q cells slots ws' L (pc + 3) (.long xr :: rest)) : gW p l e R s m args below meth c D A nL Q cells slots ws L pc stk :=
  g_callS cx lk hM hlen isC hC hn ha hw hst hcat hR hd kk
theorem g_callSlR {y : MethodName} {cy : ByteArray} {nY n idx : Nat} {ret : Option FieldType} {rm : Room} {As rest : List Value} {wc : va_W} {xr : Int64} (cx : gX p s m args meth c cc nL own D tys A) (lk : slk own idx y cy nY ret n) (hM : gM l D tys y cy nY ret rm As wc (some (.long xr)) wc) (hlen : As.length = n) (isC : List Nat) (hC : isC.map (fun i => ws[i]?) = wc.map some) (hn : va_nd isC = true) (hst : stk = As.reverse ++ rest) (hcat : (rest.map fun v => v.category).sum ≤ 8) (hR : rm.cells = 0 ∧ rm.slots = 0 ∧ rm.frames + 1 ≤ R.frames ∧ 8 + (nY + 11) + rm.locals ≤ R.locals) (hd : decode cc pc = .ok (.invokestatic idx, 3)) (kk : gW p l e R s m args below meth c D A nL Q cells slots ws L (pc + 3) (.long xr :: rest)) : gW p l e R s m args below meth c D A nL Q cells slots ws L pc stk :=
  g_callS cx lk hM hlen isC hC hn rfl (wput_self isC ws wc hC) hst hcat hR hd kk
theorem g_callSr {y : MethodName} {cy : ByteArray} {nY n idx : Nat} {ret : Option FieldType} {rm : Room} {As rest : List Value} {wc wc1 ws' : va_W} {xr : Nat} (cx : gX p s m args meth c cc nL own D tys A) (lk : slk own idx y cy nY ret n) (hM : gM l D tys y cy nY ret rm As wc (some (.ref xr)) wc1) (hlen : As.length = n) (isC : List Nat) (hC : isC.map (fun i => ws[i]?) = wc.map some) (hn : va_nd isC = true) (ha : wc1.map Prod.fst = wc.map Prod.fst) (hw : wput ws isC wc1 = ws') (hst : stk = As.reverse ++ rest) (hcat : (rest.map fun v => v.category).sum ≤ 8) (hR : rm.cells = 0 ∧ rm.slots = 0 ∧ rm.frames + 1 ≤ R.frames ∧ 8 + (nY + 11) + rm.locals ≤ R.locals) (hd : decode cc pc = .ok (.invokestatic idx, 3)) (kk : gW p l e R s m args below meth c D A nL Q cells slots ws' L (pc + 3) (.ref xr :: rest)) : gW p l e R s m args below meth c D A nL Q cells slots ws L pc stk :=
  g_callS cx lk hM hlen isC hC hn ha hw hst hcat hR hd kk
theorem g_callSrR {y : MethodName} {cy : ByteArray} {nY n idx : Nat} {ret : Option FieldType} {rm : Room} {As rest : List Value} {wc : va_W} {xr : Nat} (cx : gX p s m args meth c cc nL own D tys A) (lk : slk own idx y cy nY ret n) (hM : gM l D tys y cy nY ret rm As wc (some (.ref xr)) wc) (hlen : As.length = n) (isC : List Nat) (hC : isC.map (fun i => ws[i]?) = wc.map some) (hn : va_nd isC = true) (hst : stk = As.reverse ++ rest) (hcat : (rest.map fun v => v.category).sum ≤ 8) (hR : rm.cells = 0 ∧ rm.slots = 0 ∧ rm.frames + 1 ≤ R.frames ∧ 8 + (nY + 11) + rm.locals ≤ R.locals) (hd : decode cc pc = .ok (.invokestatic idx, 3)) (kk : gW p l e R s m args below meth c D A nL Q cells slots ws L (pc + 3) (.ref xr :: rest)) : gW p l e R s m args below meth c D A nL Q cells slots ws L pc stk :=
  g_callS cx lk hM hlen isC hC hn rfl (wput_self isC ws wc hC) hst hcat hR hd kk
theorem g_callSv {y : MethodName} {cy : ByteArray} {nY n idx : Nat} {ret : Option FieldType} {rm : Room} {As rest : List Value} {wc wc1 ws' : va_W} (cx : gX p s m args meth c cc nL own D tys A) (lk : slk own idx y cy nY ret n) (hM : gM l D tys y cy nY ret rm As wc none wc1) (hlen : As.length = n) (isC : List Nat) (hC : isC.map (fun i => ws[i]?) = wc.map some) (hn : va_nd isC = true) (ha : wc1.map Prod.fst = wc.map Prod.fst) (hw : wput ws isC wc1 = ws') (hst : stk = As.reverse ++ rest) (hcat : (rest.map fun v => v.category).sum ≤ 8) (hR : rm.cells = 0 ∧ rm.slots = 0 ∧ rm.frames + 1 ≤ R.frames ∧ 8 + (nY + 11) + rm.locals ≤ R.locals) (hd : decode cc pc = .ok (.invokestatic idx, 3)) (kk : gW p l e R s m args below meth c D A nL Q cells slots ws' L (pc + 3) rest) : gW p l e R s m args below meth c D A nL Q cells slots ws L pc stk :=
  g_callS cx lk hM hlen isC hC hn ha hw hst hcat hR hd kk
theorem g_callSvR {y : MethodName} {cy : ByteArray} {nY n idx : Nat} {ret : Option FieldType} {rm : Room} {As rest : List Value} {wc : va_W} (cx : gX p s m args meth c cc nL own D tys A) (lk : slk own idx y cy nY ret n) (hM : gM l D tys y cy nY ret rm As wc none wc) (hlen : As.length = n) (isC : List Nat) (hC : isC.map (fun i => ws[i]?) = wc.map some) (hn : va_nd isC = true) (hst : stk = As.reverse ++ rest) (hcat : (rest.map fun v => v.category).sum ≤ 8) (hR : rm.cells = 0 ∧ rm.slots = 0 ∧ rm.frames + 1 ≤ R.frames ∧ 8 + (nY + 11) + rm.locals ≤ R.locals) (hd : decode cc pc = .ok (.invokestatic idx, 3)) (kk : gW p l e R s m args below meth c D A nL Q cells slots ws L (pc + 3) rest) : gW p l e R s m args below meth c D A nL Q cells slots ws L pc stk :=
  g_callS cx lk hM hlen isC hC hn rfl (wput_self isC ws wc hC) hst hcat hR hd kk
theorem g_min (cx : gX p s m args meth c cc nL own D tys A) {idx : Nat} {x y : Int32} (hw : ∀ w ∈ ([.methodLink own idx Lib.Math.min.name, .static Lib.Math.min.name, .initialized "java/lang/Math", .code Lib.Math.min.name Lib.Math.min.code 2 (some .int)] : List Cond), w ∈ TT) (hcat : (stk.map fun v => v.category).sum ≤ 8) (hR : 1 ≤ R.frames ∧ 21 ≤ R.locals) (hd : decode cc pc = .ok (.invokestatic idx, 3))
    (kk : gW p l e R s m args below meth c D A nL Q cells slots ws L (pc + 3) (.int (if y < x then y else x) :: stk)) : gW p l e R s m args below meth c D A nL Q cells slots ws L pc (.int y :: .int x :: stk) := by
  intro hc H locs ls hP hD hS hl
  have ok := fun w h => cx.2.2.2.2.1 w (hw w h)
  exact va_mmin cx.1 cx.2.1 (cx.2.2.1.trans hl.1.symm) cx.2.2.2.1 (ok _ (by simp)) (ok _ (by simp)) (ok _ (by simp)) (ok _ (by simp)) hR.1 (by omega) hc.1 hc.2 hd (kk hc H locs ls hP hD hS hl)
theorem g_max (cx : gX p s m args meth c cc nL own D tys A) {idx : Nat} {x y : Int32} (hw : ∀ w ∈ ([.methodLink own idx Lib.Math.max.name, .static Lib.Math.max.name, .initialized "java/lang/Math", .code Lib.Math.max.name Lib.Math.max.code 2 (some .int)] : List Cond), w ∈ TT) (hcat : (stk.map fun v => v.category).sum ≤ 8) (hR : 1 ≤ R.frames ∧ 21 ≤ R.locals) (hd : decode cc pc = .ok (.invokestatic idx, 3))
    (kk : gW p l e R s m args below meth c D A nL Q cells slots ws L (pc + 3) (.int (if x < y then y else x) :: stk)) : gW p l e R s m args below meth c D A nL Q cells slots ws L pc (.int y :: .int x :: stk) := by
  intro hc H locs ls hP hD hS hl
  have ok := fun w h => cx.2.2.2.2.1 w (hw w h)
  exact va_mmax cx.1 cx.2.1 (cx.2.2.1.trans hl.1.symm) cx.2.2.2.1 (ok _ (by simp)) (ok _ (by simp)) (ok _ (by simp)) (ok _ (by simp)) hR.1 (by omega) hc.1 hc.2 hd (kk hc H locs ls hP hD hS hl)
/-! String constants -/
theorem g_ldcS {n : Nat} {tx : String} {a : Nat} (cx : gX p s m args meth c cc nL own D tys A) (hR : SF D A s s.heap → vk_R own n tx a s) (hd : decode cc pc = .ok (.ldc n, 2)) (kk : gW p l e R s m args below meth c D A nL Q cells slots ws L (pc + 2) (.ref a :: stk)) : gW p l e R s m args below meth c D A nL Q cells slots ws L pc stk :=
  fun hc H locs ls hP hD hS h => va_ldcS cx.1 cx.2.1 cx.2.2.2.1 (hR cx.2.2.2.2.2.2.2.2) hd (kk hc H locs ls hP hD hS h)
theorem g_gets {C n d : String} {idx : Nat} {v : Value} (cx : gX p s m args meth c cc nL own D tys A) (hZ : va_Z C n d v A s s.heap) (hlink : Cond.fieldLink own idx C n d ∈ TT) (hd : decode cc pc = .ok (.getstatic idx, 3)) (kk : gW p l e R s m args below meth c D A nL Q cells slots ws L (pc + 3) (v :: stk)) : gW p l e R s m args below meth c D A nL Q cells slots ws L pc stk :=
  fun hc H locs ls hP hD hS h => va_gets cx.1 cx.2.1 hZ hS cx.2.2.2.1 (cx.2.2.2.2.1 _ hlink) (fun _ h => h) hd (kk hc H locs ls hP hD hS h)
theorem g_kget {C n d : String} {idx q : Nat} {v : Value} (cx : gX p s m args meth c cc nL own D tys A) (hE : va_OF C n d v q A s s.heap) (hlink : Cond.fieldLink own idx C n d ∈ TT) (hd : decode cc pc = .ok (.getfield idx, 3)) (kk : gW p l e R s m args below meth c D A nL Q cells slots ws L (pc + 3) (v :: stk)) : gW p l e R s m args below meth c D A nL Q cells slots ws L pc (.ref q :: stk) :=
  fun hc H locs ls hP hD hS h => vk_getf cx.1 cx.2.1 hE hS cx.2.2.2.1 (cx.2.2.2.2.1 _ hlink) (fun _ h => h) hd (kk hc H locs ls hP hD hS h)
theorem g_klen {ty : FieldType} {t n : Nat} {f : Nat → Value} {v : Int32} (cx : gX p s m args meth c cc nL own D tys A) (hT : va_T ty t n f A s s.heap) (hv : Int32.ofNat n = v) (hd : decode cc pc = .ok (.arraylength, 1)) (kk : gW p l e R s m args below meth c D A nL Q cells slots ws L (pc + 1) (.int v :: stk)) : gW p l e R s m args below meth c D A nL Q cells slots ws L pc (.ref t :: stk) :=
  fun hc H locs ls hP hD hS h => va_tlen cx.1 cx.2.1 hT hS hv hd (kk hc H locs ls hP hD hS h)
theorem g_kb {t n : Nat} {f : Nat → Value} {i : Int32} {v : Value} (cx : gX p s m args meth c cc nL own D tys A) (hT : va_T .byte t n f A s s.heap) (hin : vp_in i n) (hv : f i.toNatClampNeg = v) (hd : decode cc pc = .ok (.baload, 1)) (kk : gW p l e R s m args below meth c D A nL Q cells slots ws L (pc + 1) (v :: stk)) : gW p l e R s m args below meth c D A nL Q cells slots ws L pc (.int i :: .ref t :: stk) :=
  fun hc H locs ls hP hD hS h => va_tb cx.1 cx.2.1 hT hS hin hv hd (kk hc H locs ls hP hD hS h)
theorem g_i2c {x : Int32} (cx : gX p s m args meth c cc nL own D tys A) (hd : decode cc pc = .ok (.i2c, 1)) (kk : gW p l e R s m args below meth c D A nL Q cells slots ws L (pc + 1) (.int (x.toUInt32 % 65536).toInt32 :: stk)) : gW p l e R s m args below meth c D A nL Q cells slots ws L pc (.int x :: stk) :=
  fun hc H locs ls hP hD hS h => lv_i2c cx.1 cx.2.1 hd rfl (kk hc H locs ls hP hD hS h)
theorem g_ieqF {x : Int32} {off : Int} (cx : gX p s m args meth c cc nL own D tys A) (hx : ¬ x = 0) {tgt : Nat} (ht : (pc : Int) + off = (tgt : Int)) (hd : decode cc pc = .ok (.ifCond .eq off, 3)) (kk : gW p l e R s m args below meth c D A nL Q cells slots ws L (pc + 3) stk) : gW p l e R s m args below meth c D A nL Q cells slots ws L pc (.int x :: stk) :=
  fun hc H locs ls hP hD hS h => lv_if_eq cx.1 cx.2.1 hd ht (fun q => absurd q hx) (fun _ => kk hc H locs ls hP hD hS h)
theorem g_ineF {x : Int32} {off : Int} (cx : gX p s m args meth c cc nL own D tys A) (hx : x = 0) {tgt : Nat} (ht : (pc : Int) + off = (tgt : Int)) (hd : decode cc pc = .ok (.ifCond .ne off, 3)) (kk : gW p l e R s m args below meth c D A nL Q cells slots ws L (pc + 3) stk) : gW p l e R s m args below meth c D A nL Q cells slots ws L pc (.int x :: stk) :=
  fun hc H locs ls hP hD hS h => lv_if_ne cx.1 cx.2.1 hd ht (fun q => absurd hx q) (fun _ => kk hc H locs ls hP hD hS h)
theorem g_iltF {x : Int32} {off : Int} (cx : gX p s m args meth c cc nL own D tys A) (hx : ¬ x < 0) {tgt : Nat} (ht : (pc : Int) + off = (tgt : Int)) (hd : decode cc pc = .ok (.ifCond .lt off, 3)) (kk : gW p l e R s m args below meth c D A nL Q cells slots ws L (pc + 3) stk) : gW p l e R s m args below meth c D A nL Q cells slots ws L pc (.int x :: stk) :=
  fun hc H locs ls hP hD hS h => lv_if_lt cx.1 cx.2.1 hd ht (fun q => absurd q hx) (fun _ => kk hc H locs ls hP hD hS h)
theorem g_cltT {x y : Int32} {off : Int} (cx : gX p s m args meth c cc nL own D tys A) (hx : x < y) {tgt : Nat} (ht : (pc : Int) + off = (tgt : Int)) (hd : decode cc pc = .ok (.if_icmp .lt off, 3)) (kk : gW p l e R s m args below meth c D A nL Q cells slots ws L tgt stk) : gW p l e R s m args below meth c D A nL Q cells slots ws L pc (.int y :: .int x :: stk) :=
  fun hc H locs ls hP hD hS h => lv_icmp_lt cx.1 cx.2.1 hd ht (fun _ => kk hc H locs ls hP hD hS h) (fun q => absurd hx q)
theorem g_tret {w0 : va_W} {x : Int32} {ty : FieldType} (cx : gX p s m args meth c cc nL own D tys A) (hA : A = va_A w0 s.heap.size) (hr : meth.sig.returnType = some ty) (hz : narrow ty (.int x) = .int x) (hd : decode cc pc = .ok (.ireturn, 1)) : gW p l e R s m args below meth c D A nL (MQ below (QM D tys (some (.int x)) w0 ws s.heap.size) args s 0 0 A) 0 0 ws L pc [.int x] := by
  subst hA
  exact fun hc H locs ls hP hD hS h => W.zret cx.1 cx.2.1 hr hz (fun t ht hW => ⟨⟨rfl, by rw [ht]; exact hP, va_K.moved hW.alike cx.2.2.2.2.2.1, hD⟩, hS.F ht⟩) hS.2.2 hd cx.2.2.2.2.2.2.2.1
theorem g_tvret {w0 : va_W} (cx : gX p s m args meth c cc nL own D tys A) (hA : A = va_A w0 s.heap.size) (hr : meth.sig.returnType = none) (hd : decode cc pc = .ok (.return_, 1)) : gW p l e R s m args below meth c D A nL (MQ below (QM D tys none w0 ws s.heap.size) args s 0 0 A) 0 0 ws L pc [] := by
  subst hA
  exact fun hc H locs ls hP hD hS h => W.vret cx.1 cx.2.1 hr (fun t ht hW => ⟨⟨rfl, by rw [ht]; exact hP, va_K.moved hW.alike cx.2.2.2.2.2.1, hD⟩, hS.F ht⟩) hS.2.2 hd cx.2.2.2.2.2.2.2.1
/-- a call of a String constant's own method: the world stays -/
theorem g_callK {y : MethodName} {cy : ByteArray} {nY n idx i : Nat} {ret : Option FieldType} {rm : Room} {As rest : List Value} {x : Int32} (cx : gX p s m args meth c cc nL own D tys A) (lk : vlk own idx y cy nY ret n) (hcs : y.cls = "java/lang/String") (hi : i < 5) (hM : gM l D tys y cy nY ret rm (.ref (D.2.1 i) :: As) [] (some (.int x)) []) (hlen : As.length = n)
    (hst : stk = As.reverse ++ .ref (D.2.1 i) :: rest) (hcat : (rest.map fun v => v.category).sum ≤ 8)
    (hR : rm.cells = 0 ∧ rm.slots = 0 ∧ rm.frames + 1 ≤ R.frames ∧ 8 + (nY + 11) + rm.locals ≤ R.locals) (hd : decode cc pc = .ok (.invokevirtual idx, 3)) (kk : gW p l e R s m args below meth c D A nL Q cells slots ws L (pc + 3) (.int x :: rest)) : gW p l e R s m args below meth c D A nL Q cells slots ws L pc stk := by
  intro hc H locs ls hP hD hS hl
  have hG : GoodIn (Cond.code y cy nY ret :: TT) (wsV own idx y.cls y (.code y cy nY ret :: TT)) := tt_in2 lk.1 (tt_in lk.2.1)
  have hts : ∀ w ∈ (Cond.code y cy nY ret :: TT), w.before args s = true := fun w h => by
    rcases List.mem_cons.mp h with rfl | h
    · exact cx.2.2.2.2.1 _ lk.2.1
    · exact cx.2.2.2.2.1 _ h
  have hD0 : va_D (fun _ => True) [] := ⟨fun i j p q h => by simp at h, fun k q h => by simp at h⟩
  exact g_run (wc := []) (wc1 := []) (ws' := ws) cx [] rfl rfl rfl (by cases ws <;> rfl) kk hP hc hD hS hl (va_runV (As := As) (rest := rest) ⟨cx.1, cx.2.1, cx.2.2.1, cx.2.2.2.1, hts⟩ (hM H.size) (cwV n hts hG rfl hR.1 hR.2.1 ⟨rfl, lk.2.2⟩ hR.2.2) ⟨g_blind, by rw [hcs]; exact vk_recv cx.2.2.2.2.2.2.2.2.1 hi hS, fun U hU hW => ⟨rfl, by rw [hU], fun k q h => by simp at h, va_K.moved hW.alike cx.2.2.2.2.2.1, hD0, sf_at cx.2.2.2.2.2.2.2.2 hS (va_free hD hS cx.2.2.2.2.2.2.1 [] rfl) hU hW⟩⟩ rfl hlen hl.1 hst (lv_room hcat) hd hc)
/-- a switch from 0 on, its places one by one -/
theorem g_swIn (cx : gX p s m args meth c cc nL own D tys A) {dflt hi : Int} {offs : Array Int} {len : Nat} {x : Int32} {off : Int} {tgt : Nat} (n : Nat) (hx : x = nI n) (hn : n < 1000) (hd : decode cc pc = .ok (.tableswitch dflt 0 hi offs, len)) (hh : (n : Int) ≤ hi) (ho : offs[n]? = some off) (ht : (pc : Int) + off = (tgt : Int)) (kk : gW p l e R s m args below meth c D A nL Q cells slots ws L tgt stk) : gW p l e R s m args below meth c D A nL Q cells slots ws L pc (.int x :: stk) := by
  have h0 : x.toInt = (n : Int) := by rw [hx]; exact nI_toInt (by omega)
  exact fun hc H locs ls hP hD hS h => lv_tableIn cx.1 cx.2.1 hd (by omega) (by omega) (by rw [h0]; simpa using ho) ht (kk hc H locs ls hP hD hS h)
theorem g_swOut (cx : gX p s m args meth c cc nL own D tys A) {dflt : Int} {offs : Array Int} {len : Nat} {x : Int32} {tgt : Nat} (hi : Nat) (hx : ∀ n : Nat, n ≤ hi → ¬ x = nI n) (hd : decode cc pc = .ok (.tableswitch dflt 0 hi offs, len)) (ht : (pc : Int) + dflt = (tgt : Int)) (kk : gW p l e R s m args below meth c D A nL Q cells slots ws L tgt stk) : gW p l e R s m args below meth c D A nL Q cells slots ws L pc (.int x :: stk) := by
  have h0 : x.toInt < 0 ∨ (hi : Int) < x.toInt := by
    rcases Int.lt_or_le x.toInt 0 with h | h
    · exact Or.inl h
    · refine Or.inr (Int.not_le.mp fun h2 => hx x.toInt.toNat (by omega) ?_)
      refine Int32.toInt_inj.mp ?_
      have h3 : x.toInt < 2 ^ 31 := by have := Int32.toInt_lt x; simpa using this
      rw [nI_toInt (by omega)]
      omega
  exact fun hc H locs ls hP hD hS h => lv_tableOut cx.1 cx.2.1 hd h0 ht (kk hc H locs ls hP hD hS h)
end GW
/-! ===== constructors: the world grows ===== -/
/-- behind a constructor: the new object's own address is u 0 0, its parts' addresses are u k j -/
def QC (D : gG) (tys : List (ClassId × FieldType)) (w0 : va_W) (Wf : (Nat → Nat → Nat) → va_W) (a0 sz : Nat) : Array Value → State → Outcome → State → Prop :=
  fun _ st oc t => (oc = .returned none ∧ ∃ u : Nat → Nat → Nat, u 0 0 = a0 ∧ va_P D.1 vwCl (Wf u) t.heap ∧ va_K D.1 vwCl tys t ∧ va_D (va_A w0 sz) (Wf u)) ∧ va_F (va_A w0 sz) st t
def gC (l : Launch) (D : gG) (tys : List (ClassId × FieldType)) (y : MethodName) (cc : ByteArray) (maxL : Nat) (rm : Room) (mc ms a0 : Nat) (As : List Value) (c0 : va_E) (Wf : (Nat → Nat → Nat) → va_W) : Prop :=
  ∀ sz : Nat, Met l y (.code y cc maxL none :: TT) rm (PcM D tys (.ref a0 :: As) [(a0, c0)] sz) (QC D tys [(a0, c0)] Wf a0 sz) mc ms (va_A [(a0, c0)] sz)
theorem met_ofC {l : Launch} {D : gG} {tys : List (ClassId × FieldType)} {y : MethodName} {cc : ByteArray} {maxL : Nat} {rm : Room} {mc ms a0 : Nat} {As : List Value} {c0 : va_E} {Wf : (Nat → Nat → Nat) → va_W} (hy : plainName y.cls = true) (hy2 : y.name = "<init>") (hn : (lg_sl (.ref a0 :: As)).length ≤ maxL)
    (body : ∀ (p : Program) (e : Env) (s : State) (m : MethodId) (args : Array Value) (below : List Frame) (meth : Method) (c : Code) (A : Nat → Prop), gX p s m args meth c cc maxL y.cls D tys A → meth.sig.returnType = none → meth.name = "<init>" → A = va_A [(a0, c0)] s.heap.size →
      gW p l e rm s m args below meth c D A maxL (MQ below (QC D tys [(a0, c0)] Wf a0 s.heap.size) args s mc ms A) 0 0 [(a0, c0)] (lv_args 0 (.ref a0 :: As)) 0 []) : gC l D tys y cc maxL rm mc ms a0 As c0 Wf := by
  intro sz
  refine Met.ofW (cc := cc) (maxL := maxL) (ret := none) hy rfl ?_
  intro p e s m args below meth c s₁ B hml hv
  obtain ⟨rfl, hsz, hP, hK, hD0, hF0⟩ := hv
  subst hsz
  have hts := atoms_spec (ws := .code y cc maxL none :: TT) B.pre
  have hown : s.vm.findClass y.cls = some m.cls := findClass_of_methodNamed B.named
  have hD := hD0.self (sz := s.heap.size)
  rw [lg_entry_eq]
  exact body p e s m _ below meth c (va_A [(a0, c0)] s.heap.size) ⟨B.exec, B.bytes, hml, hown, fun w h => hts w (List.mem_cons_of_mem _ h), hK, fun q h => Or.inr h, B.notSynchronized, hF0⟩ B.returns ((name_of_methodNamed B.named B.method).1.trans hy2) rfl ⟨Nat.zero_le _, Nat.zero_le _⟩ s.heap [] _ hP hD va_S.rf (lv_entry (.ref a0 :: As) hn)
section GC
variable {p : Program} {l : Launch} {e : Env} {R : Room} {s : State} {m : MethodId} {args : Array Value} {below : List Frame} {meth : Method} {c : Code} {D : gG} {tys : List (ClassId × FieldType)} {A : Nat → Prop} {nL : Nat} {Q : State → Prop} {cells slots : Nat} {cc : ByteArray} {own : String}
variable {ws : va_W} {L L' : List (Nat × Value)} {pc : Nat} {stk : List Value}
theorem a_obj (cx : gX p s m args meth c cc nL own D tys A) {idx a : Nat} (q1 : Cond.methodLink own idx objectInit ∈ TT) (q2 : Cond.instanceMethod objectInit ∈ TT) (q3 : Cond.code objectInit ⟨#[0xb1]⟩ 1 none ∈ TT) (hR : 1 ≤ R.frames ∧ 20 ≤ R.locals) (hcat : (stk.map fun v => v.category).sum ≤ 8) (hd : decode cc pc = .ok (.invokespecial idx, 3)) (kk : gW p l e R s m args below meth c D A nL Q cells slots ws L (pc + 3) stk) : gW p l e R s m args below meth c D A nL Q cells slots ws L pc (.ref a :: stk) :=
  fun hc H locs ls hP hD hS h => W.objInit cx.1 cx.2.1 cx.2.2.2.1 (cx.2.2.2.2.1 _ q1) (cx.2.2.2.2.1 _ q2) (cx.2.2.2.2.1 _ q3) rfl (by rw [cx.2.2.1]; exact h.1) rfl hd hR.1 (by show 2 * 0 + _ + 12 ≤ _; omega) (kk hc H locs ls hP hD hS h)
theorem a_new (cx : gX p s m args meth c cc nL own D tys A) {C : String} {T : u_T} {N ci idx cells' slots' : Nat} {ty : Nat → FieldType} {fs : List Value} (hin : ∀ w ∈ u_ws C T N, w ∈ TT) (hty : ∀ k, k < N → parseFieldDescriptor (T k).2.2.1 = some (ty k)) (hci : vwCl[ci]? = some (C, T, N)) (q1 : Cond.classLink own idx C ∈ TT) (q2 : Cond.instantiable C N ∈ TT) (q3 : Cond.initialized C ∈ TT) (hfs : ∀ j, j < N → defaultValue (ty j) = vp_V fs j)
    (h1 : cells + 1 = cells') (h2 : slots + N = slots') (h3 : cells' ≤ R.cells ∧ slots' ≤ R.slots) (hd : decode cc pc = .ok (.new idx, 3)) (kk : ∀ q : Nat, gW p l e R s m args below meth c D A nL Q cells' slots' (ws ++ [(q, .inr (ci, fs))]) L (pc + 3) (.ref q :: stk)) : gW p l e R s m args below meth c D A nL Q cells slots ws L pc stk := by
  subst h1 h2
  exact fun hc H locs ls hP hD hS h => va_new cx.1 cx.2.1 cx.2.2.2.2.1 hin ty hty cx.2.2.2.1 (cx.2.2.2.2.1 _ q1) (cx.2.2.2.2.1 _ q2) (cx.2.2.2.2.1 _ q3) cx.2.2.2.2.2.1 hP hD hS cx.2.2.2.2.2.2.1 hci hfs h3.1 h3.2 hd (fun q H1 hP hD hS => kk q h3 H1 locs ls hP hD hS h)
theorem a_newa (cx : gX p s m args meth c cc nL own D tys A) {atype : ArrayType} {ty : FieldType} (hty : newarray.typeOf atype = ty) (hra : ∀ c, va_RA s c ty → s.vm.findClass ("[" ++ ty.toString) = some c) (q1 : Cond.arrayClass ty ∈ TT) (t0 : Nat) {cA : ClassId} (ht : tys[t0]? = some (cA, ty)) {n : Int32} {N cells' slots' : Nat} {a0 : vp_A} (ha : ∀ cA : ClassId, vp_cell cA a0 = arrV cA N (fun _ => defaultValue ty)) (hn : ¬ n < 0) (hN : n.toNatClampNeg = N) (hb : N * componentBytes ty ≤ 536870912)
    (h1 : cells + 1 = cells') (h2 : slots + N = slots') (h3 : cells' ≤ R.cells ∧ slots' ≤ R.slots) (hd : decode cc pc = .ok (.newarray atype, 2)) (kk : ∀ q : Nat, gW p l e R s m args below meth c D A nL Q cells' slots' (ws ++ [(q, .inl (cA, a0))]) L (pc + 2) (.ref q :: stk)) : gW p l e R s m args below meth c D A nL Q cells slots ws L pc (.int n :: stk) := by
  subst h1 h2
  refine fun hc H locs ls hP hD hS h => va_newa cx.1 cx.2.1 (by rw [hty]; exact cx.2.2.2.2.1 _ q1) hty cx.2.2.2.2.2.1 hP hD hS cx.2.2.2.2.2.2.1 ha hn hN hb h3.1 h3.2 hd (fun q cB H1 hK hP hD hS => ?_)
  have e1 := hra cB (hK.2 tys.length (cB, ty) (by simp)).2
  have e2 := hra cA (cx.2.2.2.2.2.1.2 t0 (cA, ty) ht).2
  have e3 : cB = cA := Option.some.inj (e1.symm.trans e2)
  subst e3
  exact kk q h3 H1 locs ls hP hD hS h
theorem a_putF (cx : gX p s m args meth c cc nL own D tys A) (hin2 : meth.name = "<init>") {ref C : String} {T : u_T} {N ci index a : Nat} {fs : List Value} {v : Value} {ty0 : Nat → FieldType} (hin : ∀ w ∈ u_ws C T N, w ∈ TT) (hty : ∀ k, k < N → parseFieldDescriptor (T k).2.2.1 = some (ty0 k)) (hnm : ∀ a, a < N → ∀ b, b < N → a ≠ b → (T a).2.1 ≠ (T b).2.1) (hci : vwCl[ci]? = some (C, T, N)) (k : Nat) (hk : k < N) (hlink : Cond.fieldLink own index ref (T k).2.1 (T k).2.2.1 ∈ TT) (hsame : (T k).1 = ref)
    (hfin : (T k).2.2.2 = true) (hdecl : (T k).1 = own) {ty : FieldType} (hde : parseFieldDescriptor (T k).2.2.1 = some ty) (hnr : narrow ty v = v) (hft : fits ty v = true)
    (q0 : Nat) (he : ws[q0]? = some (a, .inr (ci, fs))) (hl : k < fs.length) {ws' : va_W} (hw : ws.set q0 (a, .inr (ci, fs.set k v)) = ws') (hd : decode cc pc = .ok (.putfield index, 3)) (kk : gW p l e R s m args below meth c D A nL Q cells slots ws' L (pc + 3) stk) : gW p l e R s m args below meth c D A nL Q cells slots ws L pc (v :: .ref a :: stk) := by
  subst hw
  exact fun hc H locs ls hP hD hS h => va_putF cx.1 cx.2.1 cx.2.2.2.2.1 hin ty0 hty hnm cx.2.2.2.1 cx.2.2.2.2.2.1 hP hD hS q0 he hci k hk (cx.2.2.2.2.1 _ hlink) (fun x hx => by rw [← hsame]; exact hx) hfin hin2 hdecl hde hnr hft hl hd (fun H1 locs1 hP hD hS => kk hc H1 locs1 ls hP hD hS h)
/-- the words of a constructor's call -/
def clk (own : String) (idx : Nat) (y : MethodName) (cy : ByteArray) (nY n : Nat) : Prop :=
  (Cond.methodLink own idx y ∈ TT ∧ Cond.instanceMethod y ∈ TT ∧ Cond.initialized y.cls ∈ TT) ∧ Cond.code y cy nY none ∈ TT ∧ y.name = "<init>" ∧ y.cls ≠ "java/lang/invoke/MethodHandle" ∧ y.cls ≠ "java/lang/invoke/VarHandle" ∧ (parseMethodDescriptor y.desc).map (fun d => d.parameters.length) = some n
theorem a_ctor {y : MethodName} {cy : ByteArray} {nY n idx b mc ms cells' slots' : Nat} {rm : Room} {As rest : List Value} {c0 : va_E} {Wf : (Nat → Nat → Nat) → va_W} {wr : va_W} {ws' : (Nat → Nat → Nat) → va_W} (cx : gX p s m args meth c cc nL own D tys A) (lk : clk own idx y cy nY n) (hM : gC l D tys y cy nY rm mc ms b As c0 Wf) (hlen : As.length = n) (q : Nat) (hq : ws[q]? = some (b, c0)) (isR : List Nat) (hr : isR.map (fun i => ws[i]?) = wr.map some) (hn : va_nd isR = true) (hnq : ∀ i ∈ isR, i ∉ [q]) (hw : ∀ u, wr ++ Wf u = ws' u)
    (hst : stk = As.reverse ++ .ref b :: rest) (hcat : (rest.map fun v => v.category).sum ≤ 8) (hR : rm.cells = mc ∧ rm.slots = ms ∧ rm.frames + 1 ≤ R.frames ∧ 8 + (nY + 11) + rm.locals ≤ R.locals) (h1 : cells + mc = cells') (h2 : slots + ms = slots') (h3 : cells' ≤ R.cells ∧ slots' ≤ R.slots) (hd : decode cc pc = .ok (.invokespecial idx, 3))
    (kk : ∀ u : Nat → Nat → Nat, u 0 0 = b → gW p l e R s m args below meth c D A nL Q cells' slots' (ws' u) L (pc + 3) rest) : gW p l e R s m args below meth c D A nL Q cells slots ws L pc stk := by
  subst h1 h2
  intro hc H locs ls hP hD hS hl
  have hC : [q].map (fun i => ws[i]?) = [(b, c0)].map some := by simp [hq]
  have hPc : va_P D.1 vwCl [(b, c0)] H := fun k x hk => by
    have hz : k < 1 := (List.getElem?_eq_some_iff.mp hk).1
    obtain rfl : k = 0 := by omega
    cases hk
    exact hP q _ hq
  have hDc : va_D A [(b, c0)] := hD.sub [q] (by simp [va_nd]) hC
  have hF := va_free hD hS cx.2.2.2.2.2.2.1 [q] hC
  have hG : GoodIn (Cond.code y cy nY none :: TT) (Cond.code y cy nY none :: TT) := tt_in lk.2.1
  have hts : ∀ w ∈ (Cond.code y cy nY none :: TT), w.before args s = true := fun w h => by
    rcases List.mem_cons.mp h with rfl | h
    · exact cx.2.2.2.2.1 _ lk.2.1
    · exact cx.2.2.2.2.1 _ h
  have hrun := va_runI (As := As) (rest := rest) (g := F0 m pc ls stk) (cells := cells) (slots := slots) (below := below) (meth := meth) (e := e) (R := R) (H := H) (locs := locs) ⟨cx.1, cx.2.1, cx.2.2.1, cx.2.2.2.1, hts⟩ (hM H.size) (cwI n hts hG rfl hR.1 hR.2.1 (cx.2.2.2.2.1 _ lk.1.2.2) (cx.2.2.2.2.1 _ lk.1.1) (cx.2.2.2.2.1 _ lk.1.2.1) lk.2.2.1 lk.2.2.2 hR.2.2) ⟨g_blind, fun U hU hW => ⟨rfl, by rw [hU], by rw [hU]; exact hPc, va_K.moved hW.alike cx.2.2.2.2.2.1, hDc.weaken (fun _ _ _ _ => trivial), sf_at cx.2.2.2.2.2.2.2.2 hS hF hU hW⟩⟩ rfl hlen hl.1 hst (lv_room hcat) hd h3
  intro T hT X
  obtain ⟨v, st₀, t, T', Lo, h0, X', hL, e1, e2, ⟨⟨hv, u, hu, hP1, hK1, hD1⟩, hz, hk⟩, st⟩ := hrun T hT X
  cases hv
  rw [h0] at hz hk
  rw [← e1] at hz hk hP1
  obtain ⟨hP2, hD2⟩ := va_join (wr := wr) hP hD [q] isR hC hr hn hnq (fun q h1 h2 => hk q h1 h2) hF hP1 hD1
  rw [hw] at hP2 hD2
  obtain ⟨t2, a1, b1⟩ := kk u hu h3 T'.heap (locs ++ Lo) ls hP2 hD2 ⟨Nat.le_trans hS.1 hz, fun q h1 h2 => by
      rw [hk q (Nat.lt_of_lt_of_le h1 hS.1) (fun z => h2 (hF q z))]; exact hS.2.1 q h1 h2, fun q hq => by
      rcases List.mem_append.mp hq with h | h
      · exact hS.2.2 q h
      · exact hF _ (hL q h)⟩ hl T' rfl X'
  exact ⟨t2, st t2 a1, b1⟩
theorem a_ret {a0 mc ms : Nat} {c0 : va_E} {Wf : (Nat → Nat → Nat) → va_W} (cx : gX p s m args meth c cc nL own D tys A) (hA : A = va_A [(a0, c0)] s.heap.size) (hr : meth.sig.returnType = none) (u : Nat → Nat → Nat) (hu : u 0 0 = a0) (is : List Nat) (hw : is.map (fun i => ws[i]?) = (Wf u).map some) (hn : va_nd is = true) (hd : decode cc pc = .ok (.return_, 1)) : gW p l e R s m args below meth c D A nL (MQ below (QC D tys [(a0, c0)] Wf a0 s.heap.size) args s mc ms A) mc ms ws L pc [] := by
  subst hA
  intro hc H locs ls hP hD hS h
  have hP2 : va_P D.1 vwCl (Wf u) H := fun k q hk => by
    have h1 : (is.map (fun i => ws[i]?))[k]? = some (some q) := by rw [hw, List.getElem?_map, hk]; rfl
    rw [List.getElem?_map] at h1
    cases hi : is[k]? with
    | none => rw [hi] at h1; cases h1
    | some i => rw [hi] at h1; exact hP i q (Option.some.inj h1)
  have hD2 := hD.sub is hn hw
  exact W.vret cx.1 cx.2.1 hr (fun t ht hW => ⟨⟨rfl, u, hu, by rw [ht]; exact hP2, va_K.moved hW.alike cx.2.2.2.2.2.1, hD2⟩, hS.F ht⟩) hS.2.2 hd cx.2.2.2.2.2.2.2.1
end GC
theorem gm_one {l : Launch} {D : gG} {tys : List (ClassId × FieldType)} {y : MethodName} {cc : ByteArray} {maxL : Nat} {ret : Option FieldType} {rm : Room} {Av : List Value} {w0 w1 : va_W} {ov : Option Value} (h : gM l D tys y cc maxL ret rm Av w0 ov w1) : gM l D tys y cc maxL ret rm Av (List.flatten [w0]) ov (List.flatten [w1]) := by
  rw [show List.flatten [w0] = w0 by simp, show List.flatten [w1] = w1 by simp]
  exact h
theorem k_icm1 : Int32.ofInt (-1) = (-1) := by decide
theorem k_ic0 : Int32.ofInt (0) = 0 := by decide
theorem k_ic1 : Int32.ofInt (1) = 1 := by decide
theorem k_ic2 : Int32.ofInt (2) = 2 := by decide
theorem k_ic3 : Int32.ofInt (3) = 3 := by decide
theorem k_ic4 : Int32.ofInt (4) = 4 := by decide
theorem k_ic5 : Int32.ofInt (5) = 5 := by decide
/-! the states of the objects: what each holds but references -/
abbrev S0 : Type := (Nat → Int32) × Int32 × Int32 × Int32
def s0_picks (s : S0) : (Nat → Int32) := s.1
def u0_picks (s : S0) (v : (Nat → Int32)) : S0 := (v, s.2.1, s.2.2.1, s.2.2.2)
def s0_form (s : S0) : Int32 := s.2.1
def u0_form (s : S0) (v : Int32) : S0 := (s.1, v, s.2.2.1, s.2.2.2)
def s0_dialect (s : S0) : Int32 := s.2.2.1
def u0_dialect (s : S0) (v : Int32) : S0 := (s.1, s.2.1, v, s.2.2.2)
def s0_things (s : S0) : Int32 := s.2.2.2
def u0_things (s : S0) (v : Int32) : S0 := (s.1, s.2.1, s.2.2.1, v)
abbrev S1 : Type := (Nat → Int32) × (Nat → Int32) × Int32
def s1_letters (s : S1) : (Nat → Int32) := s.1
def u1_letters (s : S1) (v : (Nat → Int32)) : S1 := (v, s.2.1, s.2.2)
def s1_lengths (s : S1) : (Nat → Int32) := s.2.1
def u1_lengths (s : S1) (v : (Nat → Int32)) : S1 := (s.1, v, s.2.2)
def s1_size (s : S1) : Int32 := s.2.2
def u1_size (s : S1) (v : Int32) : S1 := (s.1, s.2.1, v)
abbrev S2 : Type := (Nat → Int64) × (Nat → Int32)
def s2_ways (s : S2) : (Nat → Int64) := s.1
def u2_ways (s : S2) (v : (Nat → Int64)) : S2 := (v, s.2)
def s2_possible (s : S2) : (Nat → Int32) := s.2
def u2_possible (s : S2) (v : (Nat → Int32)) : S2 := (s.1, v)
abbrev S3 : Type := (Nat → Int32) × (Nat → Int32)
def s3_costs (s : S3) : (Nat → Int32) := s.1
def u3_costs (s : S3) (v : (Nat → Int32)) : S3 := (v, s.2)
def s3_row (s : S3) : (Nat → Int32) := s.2
def u3_row (s : S3) (v : (Nat → Int32)) : S3 := (s.1, v)
abbrev S4 : Type := (Nat → Int32) × (Nat → Int32) × (Nat → Int32) × Int32 × Int32
def s4_words (s : S4) : (Nat → Int32) := s.1
def u4_words (s : S4) (v : (Nat → Int32)) : S4 := (v, s.2.1, s.2.2.1, s.2.2.2.1, s.2.2.2.2)
def s4_things (s : S4) : (Nat → Int32) := s.2.1
def u4_things (s : S4) (v : (Nat → Int32)) : S4 := (s.1, v, s.2.2.1, s.2.2.2.1, s.2.2.2.2)
def s4_befores (s : S4) : (Nat → Int32) := s.2.2.1
def u4_befores (s : S4) (v : (Nat → Int32)) : S4 := (s.1, s.2.1, v, s.2.2.2.1, s.2.2.2.2)
def s4_most (s : S4) : Int32 := s.2.2.2.1
def u4_most (s : S4) (v : Int32) : S4 := (s.1, s.2.1, s.2.2.1, v, s.2.2.2.2)
def s4_size (s : S4) : Int32 := s.2.2.2.2
def u4_size (s : S4) (v : Int32) : S4 := (s.1, s.2.1, s.2.2.1, s.2.2.2.1, v)
abbrev S7 : Type := (Nat → Int32)
def s7_metres (s : S7) : (Nat → Int32) := s
def u7_metres (_ : S7) (v : (Nat → Int32)) : S7 := v
abbrev S8 : Type := (Nat → Int32) × Int32 × Int32 × Int32 × Int32
def s8_bytes (s : S8) : (Nat → Int32) := s.1
def u8_bytes (s : S8) (v : (Nat → Int32)) : S8 := (v, s.2.1, s.2.2.1, s.2.2.2.1, s.2.2.2.2)
def s8_length (s : S8) : Int32 := s.2.1
def u8_length (s : S8) (v : Int32) : S8 := (s.1, v, s.2.2.1, s.2.2.2.1, s.2.2.2.2)
def s8_start (s : S8) : Int32 := s.2.2.1
def u8_start (s : S8) (v : Int32) : S8 := (s.1, s.2.1, v, s.2.2.2.1, s.2.2.2.2)
def s8_end (s : S8) : Int32 := s.2.2.2.1
def u8_end (s : S8) (v : Int32) : S8 := (s.1, s.2.1, s.2.2.1, v, s.2.2.2.2)
def s8_sort (s : S8) : Int32 := s.2.2.2.2
def u8_sort (s : S8) (v : Int32) : S8 := (s.1, s.2.1, s.2.2.1, s.2.2.2.1, v)
abbrev S9 : Type := (Nat → Int32) × (Nat → Int32) × (Nat → Int32) × Int32 × Int32
def s9_states (s : S9) : (Nat → Int32) := s.1
def u9_states (s : S9) (v : (Nat → Int32)) : S9 := (v, s.2.1, s.2.2.1, s.2.2.2.1, s.2.2.2.2)
def s9_anchors (s : S9) : (Nat → Int32) := s.2.1
def u9_anchors (s : S9) (v : (Nat → Int32)) : S9 := (s.1, v, s.2.2.1, s.2.2.2.1, s.2.2.2.2)
def s9_latest (s : S9) : (Nat → Int32) := s.2.2.1
def u9_latest (s : S9) (v : (Nat → Int32)) : S9 := (s.1, s.2.1, v, s.2.2.2.1, s.2.2.2.2)
def s9_size (s : S9) : Int32 := s.2.2.2.1
def u9_size (s : S9) (v : Int32) : S9 := (s.1, s.2.1, s.2.2.1, v, s.2.2.2.2)
def s9_binding (s : S9) : Int32 := s.2.2.2.2
def u9_binding (s : S9) (v : Int32) : S9 := (s.1, s.2.1, s.2.2.1, s.2.2.2.1, v)
abbrev S10 : Type := (Nat → Int32) × (Nat → Int32) × (Nat → Int32) × Int32
def s10_sounds (s : S10) : (Nat → Int32) := s.1
def u10_sounds (s : S10) (v : (Nat → Int32)) : S10 := (v, s.2.1, s.2.2.1, s.2.2.2)
def s10_meanings (s : S10) : (Nat → Int32) := s.2.1
def u10_meanings (s : S10) (v : (Nat → Int32)) : S10 := (s.1, v, s.2.2.1, s.2.2.2)
def s10_syllables (s : S10) : (Nat → Int32) := s.2.2.1
def u10_syllables (s : S10) (v : (Nat → Int32)) : S10 := (s.1, s.2.1, v, s.2.2.2)
def s10_size (s : S10) : Int32 := s.2.2.2
def u10_size (s : S10) (v : Int32) : S10 := (s.1, s.2.1, s.2.2.1, v)
abbrev S11 : Type := Int32 × Int64
def s11_kept (s : S11) : Int32 := s.1
def u11_kept (s : S11) (v : Int32) : S11 := (v, s.2)
def s11_traced (s : S11) : Int64 := s.2
def u11_traced (s : S11) (v : Int64) : S11 := (s.1, v)
/-- the reference: its numbers and rows by the places of the fields -/
abbrev SM : Type := (Nat → Int32) × (Nat → Nat → Int32) × (Nat → Nat → Int64) × Int64
def mI (s : SM) (k : Nat) : Int32 := s.1 k
def mA (s : SM) (k : Nat) : Nat → Int32 := s.2.1 k
def mJ (s : SM) (k : Nat) : Nat → Int64 := s.2.2.1 k
def mT (s : SM) : Int64 := s.2.2.2
def mIs (s : SM) (k : Nat) (x : Int32) : SM := (fun j => if j = k then x else s.1 j, s.2)
def mAs (s : SM) (k : Nat) (f : Nat → Int32) : SM := (s.1, fun j => if j = k then f else s.2.1 j, s.2.2)
def mJs (s : SM) (k : Nat) (f : Nat → Int64) : SM := (s.1, s.2.1, fun j => if j = k then f else s.2.2.1 j, s.2.2.2)
def mTs (s : SM) (x : Int64) : SM := (s.1, s.2.1, s.2.2.1, x)
def gX0 (a : Nat → Nat) (cB cI cJ cZ : ClassId) (r_row : Nat) (v_tale : Value) (s : S0) : va_W := [(a 0, .inr (0, [.ref r_row, .ref (a 1), v_tale, .int (s0_form s), .int (s0_dialect s), .int (s0_things s)])), (a 1, .inl (cI, 6, .inl (s0_picks s)))]
def gX1 (a : Nat → Nat) (cB cI cJ cZ : ClassId) (s : S1) : va_W := [(a 0, .inr (1, [.ref (a 1), .ref (a 2), .int (s1_size s)])), (a 1, .inl (cI, 16, .inl (s1_letters s))), (a 2, .inl (cI, 2, .inl (s1_lengths s)))]
def gX2 (a : Nat → Nat) (cB cI cJ cZ : ClassId) (s : S2) : va_W := [(a 0, .inr (2, [.ref (a 1), .ref (a 2)])), (a 1, .inl (cJ, 128, .inr (.inl (s2_ways s)))), (a 2, .inl (cI, 8, .inl (s2_possible s)))]
def gX3 (a : Nat → Nat) (cB cI cJ cZ : ClassId) (s : S3) : va_W := [(a 0, .inr (3, [.ref (a 1), .ref (a 2)])), (a 1, .inl (cI, 128, .inl (s3_costs s))), (a 2, .inl (cI, 8, .inl (s3_row s)))]
def gX4 (a : Nat → Nat) (cB cI cJ cZ : ClassId) (s : S4) : va_W := [(a 0, .inr (4, [.ref (a 1), .ref (a 2), .ref (a 3), .int (s4_most s), .int (s4_size s)])), (a 1, .inl (cI, 8, .inl (s4_words s))), (a 2, .inl (cI, 8, .inl (s4_things s))), (a 3, .inl (cI, 8, .inl (s4_befores s)))]
def gX7 (a : Nat → Nat) (cB cI cJ cZ : ClassId) (r_words : Nat) (r_forms : Nat) (r_paper : Nat) (r_stock : Nat) (s : S7) : va_W := [(a 0, .inr (5, [.ref r_words, .ref r_forms, .ref r_paper, .ref r_stock, .ref (a 1)])), (a 1, .inl (cI, 8, .inl (s7_metres s)))]
def gX8 (a : Nat → Nat) (cB cI cJ cZ : ClassId) (s : S8) : va_W := [(a 0, .inr (6, [.ref (a 1), .int (s8_length s), .int (s8_start s), .int (s8_end s), .int (s8_sort s)])), (a 1, .inl (cB, 500, .inl (s8_bytes s)))]
def gX9 (a : Nat → Nat) (cB cI cJ cZ : ClassId) (s : S9) : va_W := [(a 0, .inr (7, [.ref (a 1), .ref (a 2), .ref (a 3), .int (s9_size s), .int (s9_binding s)])), (a 1, .inl (cI, 8, .inl (s9_states s))), (a 2, .inl (cI, 8, .inl (s9_anchors s))), (a 3, .inl (cI, 8, .inl (s9_latest s)))]
def gX10 (a : Nat → Nat) (cB cI cJ cZ : ClassId) (s : S10) : va_W := [(a 0, .inr (8, [.ref (a 1), .ref (a 2), .ref (a 3), .int (s10_size s)])), (a 1, .inl (cI, 48, .inl (s10_sounds s))), (a 2, .inl (cI, 16, .inl (s10_meanings s))), (a 3, .inl (cI, 16, .inl (s10_syllables s)))]
def gX11 (a : Nat → Nat) (cB cI cJ cZ : ClassId) (r_text : Nat) (r_verdict : Nat) (r_trial : Nat) (r_mending : Nat) (r_guess : Nat) (r_choice : Nat) (r_firstImage : Nat) (r_secondImage : Nat) (v_told : Value) (v_spare : Value) (s : S11) : va_W := [(a 0, .inr (9, [.ref r_text, .ref r_verdict, .ref r_trial, .ref r_mending, .ref r_guess, .ref r_choice, .ref r_firstImage, .ref r_secondImage, v_told, v_spare, .int (s11_kept s), .long (s11_traced s)]))]

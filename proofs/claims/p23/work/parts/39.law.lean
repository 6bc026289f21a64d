/-! THE CLAIM OUT OF ONE WALK OF THE LAW'S BODY. Your part is whole_start (and what it stands on); all else here is the same for every law, but numbers. -/
def R_law : String := "RhymeLawLaw"
def lw_P (b : Addr) (xs : List Int32) (args : Array Value) (s : State) : Prop := args = #[.ref b] ∧ s.IntsAt b xs ∧ xs.length ≤ 2560 ∧ (Jvm.Cond.and given_1 narrow_1).before args s = true
def lw_Q (_ : Array Value) (s : State) (o : Outcome) (t : State) : Prop := o = .returned (some (.int 1)) ∧ Framed s o t [] 600000 7302249
def lw_Z (below : List Frame) (a : Array Value) (s : State) : State → Prop := fun t => ∃ o, t.status = .running ∧ Ended t below o ∧ lw_Q a s o t
/-- the law's own end, with 1 on the stack, nothing written that was there before, its room as the claim has it -/
theorem lw_ret {p : Program} {l : Launch} {e : Env} {s : State} {m : MethodId} {below : List Frame} {meth : Method} {c : Code} {b : Nat} (hx : p.tables.exec = Jvm.exec) (hb : c.code = code) (hr : meth.sig.returnType = ret) (hlocks : meth.locks = false) {pc : Nat} {H : Heap} {ls : Array Slot} (hdg : decode code pc = .ok (.ireturn, 1)) : W p l e room_1 s m #[Value.ref b] below meth c H [] 600000 7302249 (lw_Z below #[Value.ref b] s) (F0 m pc ls [.int 1]) := by
  intro T hT X
  obtain ⟨fs, hret, hrun, hended, hW, hframe⟩ := X.leave (v := some (.int 1)) (hlocks := hlocks) (fun h => by rw [hr] at h; cases h)
  have hmeth' : T.vm.method? m = some meth := X.method'
  refine ⟨T.setFrames fs, ?_, .returned (some (.int 1)), hrun, hended, rfl, ⟨_, rfl⟩, hW, hframe⟩
  jvm_step X.here [X.here.top, hx, hb, hdg, hmeth', hr, ret, narrow_b1]
  (try refine ⟨rfl, ?_⟩); (try refine ⟨rfl, ?_⟩)
  first | (intro acts; rw [hret _ acts rfl rfl rfl]) | rw [hret _ _ rfl rfl rfl]
  exact Steps.refl _
/-- what holds at the law's entry: the machine, the code, the tables' words (any of lw_tbl by 'hts w (by decide +kernel)'), the script of L ints xs at the cell b, what the Statement gives of the start (any of its parts by flat_of_before) -/
def lw_At (p : Program) (s : State) (m : MethodId) (meth : Method) (c : Code) (b L : Nat) (xs : Nat → Int32) : Prop :=
  p.tables.exec = Jvm.exec ∧ c.code = code ∧ meth.sig.returnType = ret ∧ c.maxLocals = 4 ∧ s.vm.findClass R_law = some m.cls ∧ (∀ w ∈ lw_tbl, w.before #[Value.ref b] s = true) ∧ va_X b L xs s s.heap ∧ b < s.heap.size ∧ meth.locks = false ∧ (Jvm.Cond.and given_1 narrow_1).before #[Value.ref b] s = true

theorem q2_29 : Cond.methodLink RL 15 yX11_type ∈ TT := tq2 29 rfl rfl
theorem q2_30 : Cond.instanceMethod yX11_type ∈ TT := tq2 30 rfl rfl
theorem q2_31 : Cond.selects RX11 yX11_type yX11_type ∈ TT := tq2 31 rfl rfl
theorem q2_32 : Cond.code yX11_type cX11_type 5 (some .int) ∈ TT := tq2 32 rfl rfl
theorem q2_41 : Cond.methodLink RL 20 yX11_clear ∈ TT := tq2 41 rfl rfl
theorem q2_42 : Cond.instanceMethod yX11_clear ∈ TT := tq2 42 rfl rfl
theorem q2_43 : Cond.selects RX11 yX11_clear yX11_clear ∈ TT := tq2 43 rfl rfl
theorem q2_44 : Cond.code yX11_clear cX11_clear 2 (some .int) ∈ TT := tq2 44 rfl rfl
theorem q2_49 : Cond.methodLink RL 25 yX11_read ∈ TT := tq2 49 rfl rfl
theorem q2_50 : Cond.instanceMethod yX11_read ∈ TT := tq2 50 rfl rfl
theorem q2_51 : Cond.selects RX11 yX11_read yX11_read ∈ TT := tq2 51 rfl rfl
theorem q2_52 : Cond.code yX11_read cX11_read 3 (some .int) ∈ TT := tq2 52 rfl rfl
theorem q3_23 : Cond.methodLink RL 29 yX11_word ∈ TT := tq3 23 rfl rfl
theorem q3_24 : Cond.instanceMethod yX11_word ∈ TT := tq3 24 rfl rfl
theorem q3_25 : Cond.selects RX11 yX11_word yX11_word ∈ TT := tq3 25 rfl rfl
theorem q3_26 : Cond.code yX11_word cX11_word 3 (some .int) ∈ TT := tq3 26 rfl rfl
theorem q3_44 : Cond.methodLink RL 34 yX11_form ∈ TT := tq3 44 rfl rfl
theorem q3_45 : Cond.instanceMethod yX11_form ∈ TT := tq3 45 rfl rfl
theorem q3_46 : Cond.selects RX11 yX11_form yX11_form ∈ TT := tq3 46 rfl rfl
theorem q3_47 : Cond.code yX11_form cX11_form 3 (some .int) ∈ TT := tq3 47 rfl rfl
theorem q3_56 : Cond.methodLink RL 38 yX11_metre ∈ TT := tq3 56 rfl rfl
theorem q3_57 : Cond.instanceMethod yX11_metre ∈ TT := tq3 57 rfl rfl
theorem q3_58 : Cond.selects RX11 yX11_metre yX11_metre ∈ TT := tq3 58 rfl rfl
theorem q3_59 : Cond.code yX11_metre cX11_metre 4 (some .int) ∈ TT := tq3 59 rfl rfl
theorem q3_66 : Cond.methodLink RL 42 yX11_line ∈ TT := tq3 66 rfl rfl
theorem q3_67 : Cond.instanceMethod yX11_line ∈ TT := tq3 67 rfl rfl
theorem q3_68 : Cond.selects RX11 yX11_line yX11_line ∈ TT := tq3 68 rfl rfl
theorem q3_69 : Cond.code yX11_line cX11_line 3 (some .int) ∈ TT := tq3 69 rfl rfl
theorem q3_78 : Cond.methodLink RL 46 yX11_stock ∈ TT := tq3 78 rfl rfl
theorem q3_79 : Cond.instanceMethod yX11_stock ∈ TT := tq3 79 rfl rfl
theorem q3_80 : Cond.selects RX11 yX11_stock yX11_stock ∈ TT := tq3 80 rfl rfl
theorem q3_81 : Cond.code yX11_stock cX11_stock 3 (some .int) ∈ TT := tq3 81 rfl rfl
theorem q3_82 : Cond.methodLink RL 50 yX11_put ∈ TT := tq3 82 rfl rfl
theorem q3_83 : Cond.instanceMethod yX11_put ∈ TT := tq3 83 rfl rfl
theorem q3_84 : Cond.selects RX11 yX11_put yX11_put ∈ TT := tq3 84 rfl rfl
theorem q3_85 : Cond.code yX11_put cX11_put 5 (some .int) ∈ TT := tq3 85 rfl rfl
theorem q3_89 : Cond.methodLink RL 55 yX11_change ∈ TT := tq3 89 rfl rfl
theorem q3_90 : Cond.instanceMethod yX11_change ∈ TT := tq3 90 rfl rfl
theorem q3_91 : Cond.selects RX11 yX11_change yX11_change ∈ TT := tq3 91 rfl rfl
theorem q3_92 : Cond.code yX11_change cX11_change 4 (some .int) ∈ TT := tq3 92 rfl rfl
theorem q3_99 : Cond.methodLink RL 59 yX11_take ∈ TT := tq3 99 rfl rfl
theorem q3_100 : Cond.instanceMethod yX11_take ∈ TT := tq3 100 rfl rfl
theorem q3_101 : Cond.selects RX11 yX11_take yX11_take ∈ TT := tq3 101 rfl rfl
theorem q3_102 : Cond.code yX11_take cX11_take 2 (some .int) ∈ TT := tq3 102 rfl rfl
theorem q3_107 : Cond.methodLink RL 64 yX11_judged ∈ TT := tq3 107 rfl rfl
theorem q3_108 : Cond.instanceMethod yX11_judged ∈ TT := tq3 108 rfl rfl
theorem q3_109 : Cond.selects RX11 yX11_judged yX11_judged ∈ TT := tq3 109 rfl rfl
theorem q3_110 : Cond.code yX11_judged cX11_judged 6 (some .int) ∈ TT := tq3 110 rfl rfl
theorem q3_165 : Cond.methodLink RL 68 yX11_law ∈ TT := tq3 165 rfl rfl
theorem q3_166 : Cond.instanceMethod yX11_law ∈ TT := tq3 166 rfl rfl
theorem q3_167 : Cond.selects RX11 yX11_law yX11_law ∈ TT := tq3 167 rfl rfl
theorem q3_168 : Cond.code yX11_law cX11_law 3 (some .int) ∈ TT := tq3 168 rfl rfl
theorem q3_173 : Cond.methodLink RL 72 yX11_empty ∈ TT := tq3 173 rfl rfl
theorem q3_174 : Cond.instanceMethod yX11_empty ∈ TT := tq3 174 rfl rfl
theorem q3_175 : Cond.selects RX11 yX11_empty yX11_empty ∈ TT := tq3 175 rfl rfl
theorem q3_176 : Cond.code yX11_empty cX11_empty 3 (some .int) ∈ TT := tq3 176 rfl rfl
theorem q3_182 : Cond.methodLink RL 76 yX11_bound ∈ TT := tq3 182 rfl rfl
theorem q3_183 : Cond.instanceMethod yX11_bound ∈ TT := tq3 183 rfl rfl
theorem q3_184 : Cond.selects RX11 yX11_bound yX11_bound ∈ TT := tq3 184 rfl rfl
theorem q3_185 : Cond.code yX11_bound cX11_bound 3 (some .int) ∈ TT := tq3 185 rfl rfl
theorem q3_191 : Cond.methodLink RL 80 yX11_struck ∈ TT := tq3 191 rfl rfl
theorem q3_192 : Cond.instanceMethod yX11_struck ∈ TT := tq3 192 rfl rfl
theorem q3_193 : Cond.selects RX11 yX11_struck yX11_struck ∈ TT := tq3 193 rfl rfl
theorem q3_194 : Cond.code yX11_struck cX11_struck 4 (some .int) ∈ TT := tq3 194 rfl rfl
theorem q3_201 : Cond.methodLink RL 85 yX11_key ∈ TT := tq3 201 rfl rfl
theorem q3_202 : Cond.instanceMethod yX11_key ∈ TT := tq3 202 rfl rfl
theorem q3_203 : Cond.selects RX11 yX11_key yX11_key ∈ TT := tq3 203 rfl rfl
theorem q3_204 : Cond.code yX11_key cX11_key 3 (some .int) ∈ TT := tq3 204 rfl rfl
theorem q3_216 : Cond.methodLink RL 89 yX11_mended ∈ TT := tq3 216 rfl rfl
theorem q3_217 : Cond.instanceMethod yX11_mended ∈ TT := tq3 217 rfl rfl
theorem q3_218 : Cond.selects RX11 yX11_mended yX11_mended ∈ TT := tq3 218 rfl rfl
theorem q3_219 : Cond.code yX11_mended cX11_mended 5 (some .int) ∈ TT := tq3 219 rfl rfl
theorem q4_34 : Cond.methodLink RL 93 yX11_shortest ∈ TT := tq4 34 rfl rfl
theorem q4_35 : Cond.instanceMethod yX11_shortest ∈ TT := tq4 35 rfl rfl
theorem q4_36 : Cond.selects RX11 yX11_shortest yX11_shortest ∈ TT := tq4 36 rfl rfl
theorem q4_37 : Cond.code yX11_shortest cX11_shortest 6 (some .int) ∈ TT := tq4 37 rfl rfl
theorem q4_81 : Cond.methodLink RL 97 yX11_both ∈ TT := tq4 81 rfl rfl
theorem q4_82 : Cond.instanceMethod yX11_both ∈ TT := tq4 82 rfl rfl
theorem q4_83 : Cond.selects RX11 yX11_both yX11_both ∈ TT := tq4 83 rfl rfl
theorem q4_84 : Cond.code yX11_both cX11_both 2 (some .int) ∈ TT := tq4 84 rfl rfl
theorem q4_85 : Cond.methodLink RL 101 yX11_parting ∈ TT := tq4 85 rfl rfl
theorem q4_86 : Cond.instanceMethod yX11_parting ∈ TT := tq4 86 rfl rfl
theorem q4_87 : Cond.selects RX11 yX11_parting yX11_parting ∈ TT := tq4 87 rfl rfl
theorem q4_88 : Cond.code yX11_parting cX11_parting 3 (some .int) ∈ TT := tq4 88 rfl rfl
theorem q4_98 : Cond.methodLink RL 105 yX11_forged ∈ TT := tq4 98 rfl rfl
theorem q4_99 : Cond.instanceMethod yX11_forged ∈ TT := tq4 99 rfl rfl
theorem q4_100 : Cond.selects RX11 yX11_forged yX11_forged ∈ TT := tq4 100 rfl rfl
theorem q4_101 : Cond.code yX11_forged cX11_forged 6 (some .int) ∈ TT := tq4 101 rfl rfl
theorem q4_113 : Cond.methodLink RL 109 yX11_burnt ∈ TT := tq4 113 rfl rfl
theorem q4_114 : Cond.instanceMethod yX11_burnt ∈ TT := tq4 114 rfl rfl
theorem q4_115 : Cond.selects RX11 yX11_burnt yX11_burnt ∈ TT := tq4 115 rfl rfl
theorem q4_116 : Cond.code yX11_burnt cX11_burnt 7 (some .long) ∈ TT := tq4 116 rfl rfl
theorem q4_159 : Cond.methodLink RL 114 yX11_rate ∈ TT := tq4 159 rfl rfl
theorem q4_160 : Cond.instanceMethod yX11_rate ∈ TT := tq4 160 rfl rfl
theorem q4_161 : Cond.selects RX11 yX11_rate yX11_rate ∈ TT := tq4 161 rfl rfl
theorem q4_162 : Cond.code yX11_rate cX11_rate 3 (some .int) ∈ TT := tq4 162 rfl rfl
theorem q4_193 : Cond.methodLink RL 118 yX11_keep ∈ TT := tq4 193 rfl rfl
theorem q4_194 : Cond.instanceMethod yX11_keep ∈ TT := tq4 194 rfl rfl
theorem q4_195 : Cond.selects RX11 yX11_keep yX11_keep ∈ TT := tq4 195 rfl rfl
theorem q4_196 : Cond.code yX11_keep cX11_keep 2 (some .int) ∈ TT := tq4 196 rfl rfl
theorem q4_201 : Cond.methodLink RL 122 yX11_back ∈ TT := tq4 201 rfl rfl
theorem q4_202 : Cond.instanceMethod yX11_back ∈ TT := tq4 202 rfl rfl
theorem q4_203 : Cond.selects RX11 yX11_back yX11_back ∈ TT := tq4 203 rfl rfl
theorem q4_204 : Cond.code yX11_back cX11_back 2 (some .int) ∈ TT := tq4 204 rfl rfl
theorem q4_205 : Cond.methodLink RL 126 yX11_count ∈ TT := tq4 205 rfl rfl
theorem q4_206 : Cond.instanceMethod yX11_count ∈ TT := tq4 206 rfl rfl
theorem q4_207 : Cond.selects RX11 yX11_count yX11_count ∈ TT := tq4 207 rfl rfl
theorem q4_208 : Cond.code yX11_count cX11_count 2 (some .int) ∈ TT := tq4 208 rfl rfl
theorem q4_213 : Cond.methodLink RL 130 yX11_trace ∈ TT := tq4 213 rfl rfl
theorem q4_214 : Cond.instanceMethod yX11_trace ∈ TT := tq4 214 rfl rfl
theorem q4_215 : Cond.selects RX11 yX11_trace yX11_trace ∈ TT := tq4 215 rfl rfl
theorem q4_216 : Cond.code yX11_trace cX11_trace 1 (some .long) ∈ TT := tq4 216 rfl rfl
theorem q5_99 : Cond.methodLink RL 19 yX12_type ∈ TT := tq5 99 rfl rfl
theorem q5_100 : Cond.instanceMethod yX12_type ∈ TT := tq5 100 rfl rfl
theorem q5_101 : Cond.selects RX12 yX12_type yX12_type ∈ TT := tq5 101 rfl rfl
theorem q5_102 : Cond.code yX12_type cX12_type 5 (some .int) ∈ TT := tq5 102 rfl rfl
theorem q5_107 : Cond.methodLink RL 24 yX12_clear ∈ TT := tq5 107 rfl rfl
theorem q5_108 : Cond.instanceMethod yX12_clear ∈ TT := tq5 108 rfl rfl
theorem q5_109 : Cond.selects RX12 yX12_clear yX12_clear ∈ TT := tq5 109 rfl rfl
theorem q5_110 : Cond.code yX12_clear cX12_clear 2 (some .int) ∈ TT := tq5 110 rfl rfl
theorem q5_111 : Cond.methodLink RL 28 yX12_read ∈ TT := tq5 111 rfl rfl
theorem q5_112 : Cond.instanceMethod yX12_read ∈ TT := tq5 112 rfl rfl
theorem q5_113 : Cond.selects RX12 yX12_read yX12_read ∈ TT := tq5 113 rfl rfl
theorem q5_114 : Cond.code yX12_read cX12_read 3 (some .int) ∈ TT := tq5 114 rfl rfl
theorem q5_167 : Cond.methodLink RL 33 yX12_word ∈ TT := tq5 167 rfl rfl
theorem q5_168 : Cond.instanceMethod yX12_word ∈ TT := tq5 168 rfl rfl
theorem q5_169 : Cond.selects RX12 yX12_word yX12_word ∈ TT := tq5 169 rfl rfl
theorem q5_170 : Cond.code yX12_word cX12_word 3 (some .int) ∈ TT := tq5 170 rfl rfl
theorem q5_175 : Cond.methodLink RL 37 yX12_form ∈ TT := tq5 175 rfl rfl
theorem q5_176 : Cond.instanceMethod yX12_form ∈ TT := tq5 176 rfl rfl
theorem q5_177 : Cond.selects RX12 yX12_form yX12_form ∈ TT := tq5 177 rfl rfl
theorem q5_178 : Cond.code yX12_form cX12_form 3 (some .int) ∈ TT := tq5 178 rfl rfl
theorem q5_187 : Cond.methodLink RL 41 yX12_metre ∈ TT := tq5 187 rfl rfl
theorem q5_188 : Cond.instanceMethod yX12_metre ∈ TT := tq5 188 rfl rfl
theorem q5_189 : Cond.selects RX12 yX12_metre yX12_metre ∈ TT := tq5 189 rfl rfl
theorem q5_190 : Cond.code yX12_metre cX12_metre 4 (some .int) ∈ TT := tq5 190 rfl rfl
theorem q5_191 : Cond.methodLink RL 45 yX12_line ∈ TT := tq5 191 rfl rfl
theorem q5_192 : Cond.instanceMethod yX12_line ∈ TT := tq5 192 rfl rfl
theorem q5_193 : Cond.selects RX12 yX12_line yX12_line ∈ TT := tq5 193 rfl rfl
theorem q5_194 : Cond.code yX12_line cX12_line 3 (some .int) ∈ TT := tq5 194 rfl rfl
theorem q5_199 : Cond.methodLink RL 49 yX12_stock ∈ TT := tq5 199 rfl rfl
theorem q5_200 : Cond.instanceMethod yX12_stock ∈ TT := tq5 200 rfl rfl
theorem q5_201 : Cond.selects RX12 yX12_stock yX12_stock ∈ TT := tq5 201 rfl rfl
theorem q5_202 : Cond.code yX12_stock cX12_stock 3 (some .int) ∈ TT := tq5 202 rfl rfl
theorem q5_203 : Cond.methodLink RL 54 yX12_put ∈ TT := tq5 203 rfl rfl
theorem q5_204 : Cond.instanceMethod yX12_put ∈ TT := tq5 204 rfl rfl
theorem q5_205 : Cond.selects RX12 yX12_put yX12_put ∈ TT := tq5 205 rfl rfl
theorem q5_206 : Cond.code yX12_put cX12_put 6 (some .int) ∈ TT := tq5 206 rfl rfl
theorem q5_207 : Cond.methodLink RL 58 yX12_change ∈ TT := tq5 207 rfl rfl
theorem q5_208 : Cond.instanceMethod yX12_change ∈ TT := tq5 208 rfl rfl
theorem q5_209 : Cond.selects RX12 yX12_change yX12_change ∈ TT := tq5 209 rfl rfl
theorem q5_210 : Cond.code yX12_change cX12_change 4 (some .int) ∈ TT := tq5 210 rfl rfl
theorem q5_211 : Cond.methodLink RL 63 yX12_take ∈ TT := tq5 211 rfl rfl
theorem q5_212 : Cond.instanceMethod yX12_take ∈ TT := tq5 212 rfl rfl
theorem q5_213 : Cond.selects RX12 yX12_take yX12_take ∈ TT := tq5 213 rfl rfl
theorem q5_214 : Cond.code yX12_take cX12_take 3 (some .int) ∈ TT := tq5 214 rfl rfl
theorem q5_215 : Cond.methodLink RL 67 yX12_judged ∈ TT := tq5 215 rfl rfl
theorem q5_216 : Cond.instanceMethod yX12_judged ∈ TT := tq5 216 rfl rfl
theorem q5_217 : Cond.selects RX12 yX12_judged yX12_judged ∈ TT := tq5 217 rfl rfl
theorem q5_218 : Cond.code yX12_judged cX12_judged 5 (some .int) ∈ TT := tq5 218 rfl rfl
theorem q6_3 : Cond.methodLink RL 71 yX12_law ∈ TT := tq6 3 rfl rfl
theorem q6_4 : Cond.instanceMethod yX12_law ∈ TT := tq6 4 rfl rfl
theorem q6_5 : Cond.selects RX12 yX12_law yX12_law ∈ TT := tq6 5 rfl rfl
theorem q6_6 : Cond.code yX12_law cX12_law 3 (some .int) ∈ TT := tq6 6 rfl rfl
theorem q6_15 : Cond.methodLink RL 75 yX12_empty ∈ TT := tq6 15 rfl rfl
theorem q6_16 : Cond.instanceMethod yX12_empty ∈ TT := tq6 16 rfl rfl
theorem q6_17 : Cond.selects RX12 yX12_empty yX12_empty ∈ TT := tq6 17 rfl rfl
theorem q6_18 : Cond.code yX12_empty cX12_empty 3 (some .int) ∈ TT := tq6 18 rfl rfl
theorem q6_19 : Cond.methodLink RL 79 yX12_bound ∈ TT := tq6 19 rfl rfl
theorem q6_20 : Cond.instanceMethod yX12_bound ∈ TT := tq6 20 rfl rfl
theorem q6_21 : Cond.selects RX12 yX12_bound yX12_bound ∈ TT := tq6 21 rfl rfl
theorem q6_22 : Cond.code yX12_bound cX12_bound 3 (some .int) ∈ TT := tq6 22 rfl rfl
theorem q6_27 : Cond.methodLink RL 84 yX12_struck ∈ TT := tq6 27 rfl rfl
theorem q6_28 : Cond.instanceMethod yX12_struck ∈ TT := tq6 28 rfl rfl
theorem q6_29 : Cond.selects RX12 yX12_struck yX12_struck ∈ TT := tq6 29 rfl rfl
theorem q6_30 : Cond.code yX12_struck cX12_struck 4 (some .int) ∈ TT := tq6 30 rfl rfl
theorem q6_35 : Cond.methodLink RL 88 yX12_key ∈ TT := tq6 35 rfl rfl
theorem q6_36 : Cond.instanceMethod yX12_key ∈ TT := tq6 36 rfl rfl
theorem q6_37 : Cond.selects RX12 yX12_key yX12_key ∈ TT := tq6 37 rfl rfl
theorem q6_38 : Cond.code yX12_key cX12_key 7 (some .int) ∈ TT := tq6 38 rfl rfl
theorem q6_42 : Cond.methodLink RL 92 yX12_mended ∈ TT := tq6 42 rfl rfl
theorem q6_43 : Cond.instanceMethod yX12_mended ∈ TT := tq6 43 rfl rfl
theorem q6_44 : Cond.selects RX12 yX12_mended yX12_mended ∈ TT := tq6 44 rfl rfl
theorem q6_45 : Cond.code yX12_mended cX12_mended 9 (some .int) ∈ TT := tq6 45 rfl rfl
theorem q6_54 : Cond.methodLink RL 96 yX12_shortest ∈ TT := tq6 54 rfl rfl
theorem q6_55 : Cond.instanceMethod yX12_shortest ∈ TT := tq6 55 rfl rfl
theorem q6_56 : Cond.selects RX12 yX12_shortest yX12_shortest ∈ TT := tq6 56 rfl rfl
theorem q6_57 : Cond.code yX12_shortest cX12_shortest 7 (some .int) ∈ TT := tq6 57 rfl rfl
theorem q6_74 : Cond.methodLink RL 100 yX12_both ∈ TT := tq6 74 rfl rfl
theorem q6_75 : Cond.instanceMethod yX12_both ∈ TT := tq6 75 rfl rfl
theorem q6_76 : Cond.selects RX12 yX12_both yX12_both ∈ TT := tq6 76 rfl rfl
theorem q6_77 : Cond.code yX12_both cX12_both 2 (some .int) ∈ TT := tq6 77 rfl rfl
theorem q6_78 : Cond.methodLink RL 104 yX12_parting ∈ TT := tq6 78 rfl rfl
theorem q6_79 : Cond.instanceMethod yX12_parting ∈ TT := tq6 79 rfl rfl
theorem q6_80 : Cond.selects RX12 yX12_parting yX12_parting ∈ TT := tq6 80 rfl rfl
theorem q6_81 : Cond.code yX12_parting cX12_parting 6 (some .int) ∈ TT := tq6 81 rfl rfl
theorem q6_82 : Cond.methodLink RL 108 yX12_forged ∈ TT := tq6 82 rfl rfl
theorem q6_83 : Cond.instanceMethod yX12_forged ∈ TT := tq6 83 rfl rfl
theorem q6_84 : Cond.selects RX12 yX12_forged yX12_forged ∈ TT := tq6 84 rfl rfl
theorem q6_85 : Cond.code yX12_forged cX12_forged 8 (some .int) ∈ TT := tq6 85 rfl rfl
theorem q6_86 : Cond.methodLink RL 113 yX12_burnt ∈ TT := tq6 86 rfl rfl
theorem q6_87 : Cond.instanceMethod yX12_burnt ∈ TT := tq6 87 rfl rfl
theorem q6_88 : Cond.selects RX12 yX12_burnt yX12_burnt ∈ TT := tq6 88 rfl rfl
theorem q6_89 : Cond.code yX12_burnt cX12_burnt 9 (some .long) ∈ TT := tq6 89 rfl rfl
theorem q6_99 : Cond.methodLink RL 117 yX12_rate ∈ TT := tq6 99 rfl rfl
theorem q6_100 : Cond.instanceMethod yX12_rate ∈ TT := tq6 100 rfl rfl
theorem q6_101 : Cond.selects RX12 yX12_rate yX12_rate ∈ TT := tq6 101 rfl rfl
theorem q6_102 : Cond.code yX12_rate cX12_rate 7 (some .int) ∈ TT := tq6 102 rfl rfl
theorem q6_109 : Cond.methodLink RL 121 yX12_keep ∈ TT := tq6 109 rfl rfl
theorem q6_110 : Cond.instanceMethod yX12_keep ∈ TT := tq6 110 rfl rfl
theorem q6_111 : Cond.selects RX12 yX12_keep yX12_keep ∈ TT := tq6 111 rfl rfl
theorem q6_112 : Cond.code yX12_keep cX12_keep 3 (some .int) ∈ TT := tq6 112 rfl rfl
theorem q6_113 : Cond.methodLink RL 125 yX12_back ∈ TT := tq6 113 rfl rfl
theorem q6_114 : Cond.instanceMethod yX12_back ∈ TT := tq6 114 rfl rfl
theorem q6_115 : Cond.selects RX12 yX12_back yX12_back ∈ TT := tq6 115 rfl rfl
theorem q6_116 : Cond.code yX12_back cX12_back 3 (some .int) ∈ TT := tq6 116 rfl rfl
theorem q6_117 : Cond.methodLink RL 129 yX12_count ∈ TT := tq6 117 rfl rfl
theorem q6_118 : Cond.instanceMethod yX12_count ∈ TT := tq6 118 rfl rfl
theorem q6_119 : Cond.selects RX12 yX12_count yX12_count ∈ TT := tq6 119 rfl rfl
theorem q6_120 : Cond.code yX12_count cX12_count 2 (some .int) ∈ TT := tq6 120 rfl rfl
theorem q6_121 : Cond.methodLink RL 134 yX12_trace ∈ TT := tq6 121 rfl rfl
theorem q6_122 : Cond.instanceMethod yX12_trace ∈ TT := tq6 122 rfl rfl
theorem q6_123 : Cond.selects RX12 yX12_trace yX12_trace ∈ TT := tq6 123 rfl rfl
theorem q6_124 : Cond.code yX12_trace cX12_trace 1 (some .long) ∈ TT := tq6 124 rfl rfl
theorem q6_125 : Cond.constantLong RL 13 (4294967295) ∈ TT := tq6 125 rfl rfl
theorem lk_RL_15 : vlk RL 15 yX11_type cX11_type 5 (some .int) 2 := ⟨List.forall_mem_cons.mpr ⟨q2_29, List.forall_mem_cons.mpr ⟨q2_30, List.forall_mem_cons.mpr ⟨q2_31, List.forall_mem_cons.mpr ⟨q1_1, fun _ h => absurd h List.not_mem_nil⟩⟩⟩⟩, q2_32, by decide, by decide, by decide +kernel⟩
theorem lk_RL_19 : vlk RL 19 yX12_type cX12_type 5 (some .int) 2 := ⟨List.forall_mem_cons.mpr ⟨q5_99, List.forall_mem_cons.mpr ⟨q5_100, List.forall_mem_cons.mpr ⟨q5_101, List.forall_mem_cons.mpr ⟨q1_12, fun _ h => absurd h List.not_mem_nil⟩⟩⟩⟩, q5_102, by decide, by decide, by decide +kernel⟩
theorem lk_RL_20 : vlk RL 20 yX11_clear cX11_clear 2 (some .int) 0 := ⟨List.forall_mem_cons.mpr ⟨q2_41, List.forall_mem_cons.mpr ⟨q2_42, List.forall_mem_cons.mpr ⟨q2_43, List.forall_mem_cons.mpr ⟨q1_1, fun _ h => absurd h List.not_mem_nil⟩⟩⟩⟩, q2_44, by decide, by decide, by decide +kernel⟩
theorem lk_RL_24 : vlk RL 24 yX12_clear cX12_clear 2 (some .int) 0 := ⟨List.forall_mem_cons.mpr ⟨q5_107, List.forall_mem_cons.mpr ⟨q5_108, List.forall_mem_cons.mpr ⟨q5_109, List.forall_mem_cons.mpr ⟨q1_12, fun _ h => absurd h List.not_mem_nil⟩⟩⟩⟩, q5_110, by decide, by decide, by decide +kernel⟩
theorem lk_RL_25 : vlk RL 25 yX11_read cX11_read 3 (some .int) 0 := ⟨List.forall_mem_cons.mpr ⟨q2_49, List.forall_mem_cons.mpr ⟨q2_50, List.forall_mem_cons.mpr ⟨q2_51, List.forall_mem_cons.mpr ⟨q1_1, fun _ h => absurd h List.not_mem_nil⟩⟩⟩⟩, q2_52, by decide, by decide, by decide +kernel⟩
theorem lk_RL_28 : vlk RL 28 yX12_read cX12_read 3 (some .int) 0 := ⟨List.forall_mem_cons.mpr ⟨q5_111, List.forall_mem_cons.mpr ⟨q5_112, List.forall_mem_cons.mpr ⟨q5_113, List.forall_mem_cons.mpr ⟨q1_12, fun _ h => absurd h List.not_mem_nil⟩⟩⟩⟩, q5_114, by decide, by decide, by decide +kernel⟩
theorem lk_RL_29 : vlk RL 29 yX11_word cX11_word 3 (some .int) 2 := ⟨List.forall_mem_cons.mpr ⟨q3_23, List.forall_mem_cons.mpr ⟨q3_24, List.forall_mem_cons.mpr ⟨q3_25, List.forall_mem_cons.mpr ⟨q1_1, fun _ h => absurd h List.not_mem_nil⟩⟩⟩⟩, q3_26, by decide, by decide, by decide +kernel⟩
theorem lk_RL_33 : vlk RL 33 yX12_word cX12_word 3 (some .int) 2 := ⟨List.forall_mem_cons.mpr ⟨q5_167, List.forall_mem_cons.mpr ⟨q5_168, List.forall_mem_cons.mpr ⟨q5_169, List.forall_mem_cons.mpr ⟨q1_12, fun _ h => absurd h List.not_mem_nil⟩⟩⟩⟩, q5_170, by decide, by decide, by decide +kernel⟩
theorem lk_RL_34 : vlk RL 34 yX11_form cX11_form 3 (some .int) 2 := ⟨List.forall_mem_cons.mpr ⟨q3_44, List.forall_mem_cons.mpr ⟨q3_45, List.forall_mem_cons.mpr ⟨q3_46, List.forall_mem_cons.mpr ⟨q1_1, fun _ h => absurd h List.not_mem_nil⟩⟩⟩⟩, q3_47, by decide, by decide, by decide +kernel⟩
theorem lk_RL_37 : vlk RL 37 yX12_form cX12_form 3 (some .int) 2 := ⟨List.forall_mem_cons.mpr ⟨q5_175, List.forall_mem_cons.mpr ⟨q5_176, List.forall_mem_cons.mpr ⟨q5_177, List.forall_mem_cons.mpr ⟨q1_12, fun _ h => absurd h List.not_mem_nil⟩⟩⟩⟩, q5_178, by decide, by decide, by decide +kernel⟩
theorem lk_RL_38 : vlk RL 38 yX11_metre cX11_metre 4 (some .int) 2 := ⟨List.forall_mem_cons.mpr ⟨q3_56, List.forall_mem_cons.mpr ⟨q3_57, List.forall_mem_cons.mpr ⟨q3_58, List.forall_mem_cons.mpr ⟨q1_1, fun _ h => absurd h List.not_mem_nil⟩⟩⟩⟩, q3_59, by decide, by decide, by decide +kernel⟩
theorem lk_RL_41 : vlk RL 41 yX12_metre cX12_metre 4 (some .int) 2 := ⟨List.forall_mem_cons.mpr ⟨q5_187, List.forall_mem_cons.mpr ⟨q5_188, List.forall_mem_cons.mpr ⟨q5_189, List.forall_mem_cons.mpr ⟨q1_12, fun _ h => absurd h List.not_mem_nil⟩⟩⟩⟩, q5_190, by decide, by decide, by decide +kernel⟩
theorem lk_RL_42 : vlk RL 42 yX11_line cX11_line 3 (some .int) 2 := ⟨List.forall_mem_cons.mpr ⟨q3_66, List.forall_mem_cons.mpr ⟨q3_67, List.forall_mem_cons.mpr ⟨q3_68, List.forall_mem_cons.mpr ⟨q1_1, fun _ h => absurd h List.not_mem_nil⟩⟩⟩⟩, q3_69, by decide, by decide, by decide +kernel⟩
theorem lk_RL_45 : vlk RL 45 yX12_line cX12_line 3 (some .int) 2 := ⟨List.forall_mem_cons.mpr ⟨q5_191, List.forall_mem_cons.mpr ⟨q5_192, List.forall_mem_cons.mpr ⟨q5_193, List.forall_mem_cons.mpr ⟨q1_12, fun _ h => absurd h List.not_mem_nil⟩⟩⟩⟩, q5_194, by decide, by decide, by decide +kernel⟩
theorem lk_RL_46 : vlk RL 46 yX11_stock cX11_stock 3 (some .int) 2 := ⟨List.forall_mem_cons.mpr ⟨q3_78, List.forall_mem_cons.mpr ⟨q3_79, List.forall_mem_cons.mpr ⟨q3_80, List.forall_mem_cons.mpr ⟨q1_1, fun _ h => absurd h List.not_mem_nil⟩⟩⟩⟩, q3_81, by decide, by decide, by decide +kernel⟩
theorem lk_RL_49 : vlk RL 49 yX12_stock cX12_stock 3 (some .int) 2 := ⟨List.forall_mem_cons.mpr ⟨q5_199, List.forall_mem_cons.mpr ⟨q5_200, List.forall_mem_cons.mpr ⟨q5_201, List.forall_mem_cons.mpr ⟨q1_12, fun _ h => absurd h List.not_mem_nil⟩⟩⟩⟩, q5_202, by decide, by decide, by decide +kernel⟩
theorem lk_RL_50 : vlk RL 50 yX11_put cX11_put 5 (some .int) 4 := ⟨List.forall_mem_cons.mpr ⟨q3_82, List.forall_mem_cons.mpr ⟨q3_83, List.forall_mem_cons.mpr ⟨q3_84, List.forall_mem_cons.mpr ⟨q1_1, fun _ h => absurd h List.not_mem_nil⟩⟩⟩⟩, q3_85, by decide, by decide, by decide +kernel⟩
theorem lk_RL_54 : vlk RL 54 yX12_put cX12_put 6 (some .int) 4 := ⟨List.forall_mem_cons.mpr ⟨q5_203, List.forall_mem_cons.mpr ⟨q5_204, List.forall_mem_cons.mpr ⟨q5_205, List.forall_mem_cons.mpr ⟨q1_12, fun _ h => absurd h List.not_mem_nil⟩⟩⟩⟩, q5_206, by decide, by decide, by decide +kernel⟩
theorem lk_RL_55 : vlk RL 55 yX11_change cX11_change 4 (some .int) 2 := ⟨List.forall_mem_cons.mpr ⟨q3_89, List.forall_mem_cons.mpr ⟨q3_90, List.forall_mem_cons.mpr ⟨q3_91, List.forall_mem_cons.mpr ⟨q1_1, fun _ h => absurd h List.not_mem_nil⟩⟩⟩⟩, q3_92, by decide, by decide, by decide +kernel⟩
theorem lk_RL_58 : vlk RL 58 yX12_change cX12_change 4 (some .int) 2 := ⟨List.forall_mem_cons.mpr ⟨q5_207, List.forall_mem_cons.mpr ⟨q5_208, List.forall_mem_cons.mpr ⟨q5_209, List.forall_mem_cons.mpr ⟨q1_12, fun _ h => absurd h List.not_mem_nil⟩⟩⟩⟩, q5_210, by decide, by decide, by decide +kernel⟩
theorem lk_RL_59 : vlk RL 59 yX11_take cX11_take 2 (some .int) 1 := ⟨List.forall_mem_cons.mpr ⟨q3_99, List.forall_mem_cons.mpr ⟨q3_100, List.forall_mem_cons.mpr ⟨q3_101, List.forall_mem_cons.mpr ⟨q1_1, fun _ h => absurd h List.not_mem_nil⟩⟩⟩⟩, q3_102, by decide, by decide, by decide +kernel⟩
theorem lk_RL_63 : vlk RL 63 yX12_take cX12_take 3 (some .int) 1 := ⟨List.forall_mem_cons.mpr ⟨q5_211, List.forall_mem_cons.mpr ⟨q5_212, List.forall_mem_cons.mpr ⟨q5_213, List.forall_mem_cons.mpr ⟨q1_12, fun _ h => absurd h List.not_mem_nil⟩⟩⟩⟩, q5_214, by decide, by decide, by decide +kernel⟩
theorem lk_RL_64 : vlk RL 64 yX11_judged cX11_judged 6 (some .int) 4 := ⟨List.forall_mem_cons.mpr ⟨q3_107, List.forall_mem_cons.mpr ⟨q3_108, List.forall_mem_cons.mpr ⟨q3_109, List.forall_mem_cons.mpr ⟨q1_1, fun _ h => absurd h List.not_mem_nil⟩⟩⟩⟩, q3_110, by decide, by decide, by decide +kernel⟩
theorem lk_RL_67 : vlk RL 67 yX12_judged cX12_judged 5 (some .int) 4 := ⟨List.forall_mem_cons.mpr ⟨q5_215, List.forall_mem_cons.mpr ⟨q5_216, List.forall_mem_cons.mpr ⟨q5_217, List.forall_mem_cons.mpr ⟨q1_12, fun _ h => absurd h List.not_mem_nil⟩⟩⟩⟩, q5_218, by decide, by decide, by decide +kernel⟩
theorem lk_RL_68 : vlk RL 68 yX11_law cX11_law 3 (some .int) 2 := ⟨List.forall_mem_cons.mpr ⟨q3_165, List.forall_mem_cons.mpr ⟨q3_166, List.forall_mem_cons.mpr ⟨q3_167, List.forall_mem_cons.mpr ⟨q1_1, fun _ h => absurd h List.not_mem_nil⟩⟩⟩⟩, q3_168, by decide, by decide, by decide +kernel⟩
theorem lk_RL_71 : vlk RL 71 yX12_law cX12_law 3 (some .int) 2 := ⟨List.forall_mem_cons.mpr ⟨q6_3, List.forall_mem_cons.mpr ⟨q6_4, List.forall_mem_cons.mpr ⟨q6_5, List.forall_mem_cons.mpr ⟨q1_12, fun _ h => absurd h List.not_mem_nil⟩⟩⟩⟩, q6_6, by decide, by decide, by decide +kernel⟩
theorem lk_RL_72 : vlk RL 72 yX11_empty cX11_empty 3 (some .int) 2 := ⟨List.forall_mem_cons.mpr ⟨q3_173, List.forall_mem_cons.mpr ⟨q3_174, List.forall_mem_cons.mpr ⟨q3_175, List.forall_mem_cons.mpr ⟨q1_1, fun _ h => absurd h List.not_mem_nil⟩⟩⟩⟩, q3_176, by decide, by decide, by decide +kernel⟩
theorem lk_RL_75 : vlk RL 75 yX12_empty cX12_empty 3 (some .int) 2 := ⟨List.forall_mem_cons.mpr ⟨q6_15, List.forall_mem_cons.mpr ⟨q6_16, List.forall_mem_cons.mpr ⟨q6_17, List.forall_mem_cons.mpr ⟨q1_12, fun _ h => absurd h List.not_mem_nil⟩⟩⟩⟩, q6_18, by decide, by decide, by decide +kernel⟩
theorem lk_RL_76 : vlk RL 76 yX11_bound cX11_bound 3 (some .int) 2 := ⟨List.forall_mem_cons.mpr ⟨q3_182, List.forall_mem_cons.mpr ⟨q3_183, List.forall_mem_cons.mpr ⟨q3_184, List.forall_mem_cons.mpr ⟨q1_1, fun _ h => absurd h List.not_mem_nil⟩⟩⟩⟩, q3_185, by decide, by decide, by decide +kernel⟩
theorem lk_RL_79 : vlk RL 79 yX12_bound cX12_bound 3 (some .int) 2 := ⟨List.forall_mem_cons.mpr ⟨q6_19, List.forall_mem_cons.mpr ⟨q6_20, List.forall_mem_cons.mpr ⟨q6_21, List.forall_mem_cons.mpr ⟨q1_12, fun _ h => absurd h List.not_mem_nil⟩⟩⟩⟩, q6_22, by decide, by decide, by decide +kernel⟩
theorem lk_RL_80 : vlk RL 80 yX11_struck cX11_struck 4 (some .int) 3 := ⟨List.forall_mem_cons.mpr ⟨q3_191, List.forall_mem_cons.mpr ⟨q3_192, List.forall_mem_cons.mpr ⟨q3_193, List.forall_mem_cons.mpr ⟨q1_1, fun _ h => absurd h List.not_mem_nil⟩⟩⟩⟩, q3_194, by decide, by decide, by decide +kernel⟩
theorem lk_RL_84 : vlk RL 84 yX12_struck cX12_struck 4 (some .int) 3 := ⟨List.forall_mem_cons.mpr ⟨q6_27, List.forall_mem_cons.mpr ⟨q6_28, List.forall_mem_cons.mpr ⟨q6_29, List.forall_mem_cons.mpr ⟨q1_12, fun _ h => absurd h List.not_mem_nil⟩⟩⟩⟩, q6_30, by decide, by decide, by decide +kernel⟩
theorem lk_RL_85 : vlk RL 85 yX11_key cX11_key 3 (some .int) 2 := ⟨List.forall_mem_cons.mpr ⟨q3_201, List.forall_mem_cons.mpr ⟨q3_202, List.forall_mem_cons.mpr ⟨q3_203, List.forall_mem_cons.mpr ⟨q1_1, fun _ h => absurd h List.not_mem_nil⟩⟩⟩⟩, q3_204, by decide, by decide, by decide +kernel⟩
theorem lk_RL_88 : vlk RL 88 yX12_key cX12_key 7 (some .int) 2 := ⟨List.forall_mem_cons.mpr ⟨q6_35, List.forall_mem_cons.mpr ⟨q6_36, List.forall_mem_cons.mpr ⟨q6_37, List.forall_mem_cons.mpr ⟨q1_12, fun _ h => absurd h List.not_mem_nil⟩⟩⟩⟩, q6_38, by decide, by decide, by decide +kernel⟩
theorem lk_RL_89 : vlk RL 89 yX11_mended cX11_mended 5 (some .int) 3 := ⟨List.forall_mem_cons.mpr ⟨q3_216, List.forall_mem_cons.mpr ⟨q3_217, List.forall_mem_cons.mpr ⟨q3_218, List.forall_mem_cons.mpr ⟨q1_1, fun _ h => absurd h List.not_mem_nil⟩⟩⟩⟩, q3_219, by decide, by decide, by decide +kernel⟩
theorem lk_RL_92 : vlk RL 92 yX12_mended cX12_mended 9 (some .int) 3 := ⟨List.forall_mem_cons.mpr ⟨q6_42, List.forall_mem_cons.mpr ⟨q6_43, List.forall_mem_cons.mpr ⟨q6_44, List.forall_mem_cons.mpr ⟨q1_12, fun _ h => absurd h List.not_mem_nil⟩⟩⟩⟩, q6_45, by decide, by decide, by decide +kernel⟩
theorem lk_RL_93 : vlk RL 93 yX11_shortest cX11_shortest 6 (some .int) 4 := ⟨List.forall_mem_cons.mpr ⟨q4_34, List.forall_mem_cons.mpr ⟨q4_35, List.forall_mem_cons.mpr ⟨q4_36, List.forall_mem_cons.mpr ⟨q1_1, fun _ h => absurd h List.not_mem_nil⟩⟩⟩⟩, q4_37, by decide, by decide, by decide +kernel⟩
theorem lk_RL_96 : vlk RL 96 yX12_shortest cX12_shortest 7 (some .int) 4 := ⟨List.forall_mem_cons.mpr ⟨q6_54, List.forall_mem_cons.mpr ⟨q6_55, List.forall_mem_cons.mpr ⟨q6_56, List.forall_mem_cons.mpr ⟨q1_12, fun _ h => absurd h List.not_mem_nil⟩⟩⟩⟩, q6_57, by decide, by decide, by decide +kernel⟩
theorem lk_RL_97 : vlk RL 97 yX11_both cX11_both 2 (some .int) 1 := ⟨List.forall_mem_cons.mpr ⟨q4_81, List.forall_mem_cons.mpr ⟨q4_82, List.forall_mem_cons.mpr ⟨q4_83, List.forall_mem_cons.mpr ⟨q1_1, fun _ h => absurd h List.not_mem_nil⟩⟩⟩⟩, q4_84, by decide, by decide, by decide +kernel⟩
theorem lk_RL_100 : vlk RL 100 yX12_both cX12_both 2 (some .int) 1 := ⟨List.forall_mem_cons.mpr ⟨q6_74, List.forall_mem_cons.mpr ⟨q6_75, List.forall_mem_cons.mpr ⟨q6_76, List.forall_mem_cons.mpr ⟨q1_12, fun _ h => absurd h List.not_mem_nil⟩⟩⟩⟩, q6_77, by decide, by decide, by decide +kernel⟩
theorem lk_RL_101 : vlk RL 101 yX11_parting cX11_parting 3 (some .int) 1 := ⟨List.forall_mem_cons.mpr ⟨q4_85, List.forall_mem_cons.mpr ⟨q4_86, List.forall_mem_cons.mpr ⟨q4_87, List.forall_mem_cons.mpr ⟨q1_1, fun _ h => absurd h List.not_mem_nil⟩⟩⟩⟩, q4_88, by decide, by decide, by decide +kernel⟩
theorem lk_RL_104 : vlk RL 104 yX12_parting cX12_parting 6 (some .int) 1 := ⟨List.forall_mem_cons.mpr ⟨q6_78, List.forall_mem_cons.mpr ⟨q6_79, List.forall_mem_cons.mpr ⟨q6_80, List.forall_mem_cons.mpr ⟨q1_12, fun _ h => absurd h List.not_mem_nil⟩⟩⟩⟩, q6_81, by decide, by decide, by decide +kernel⟩
theorem lk_RL_105 : vlk RL 105 yX11_forged cX11_forged 6 (some .int) 3 := ⟨List.forall_mem_cons.mpr ⟨q4_98, List.forall_mem_cons.mpr ⟨q4_99, List.forall_mem_cons.mpr ⟨q4_100, List.forall_mem_cons.mpr ⟨q1_1, fun _ h => absurd h List.not_mem_nil⟩⟩⟩⟩, q4_101, by decide, by decide, by decide +kernel⟩
theorem lk_RL_108 : vlk RL 108 yX12_forged cX12_forged 8 (some .int) 3 := ⟨List.forall_mem_cons.mpr ⟨q6_82, List.forall_mem_cons.mpr ⟨q6_83, List.forall_mem_cons.mpr ⟨q6_84, List.forall_mem_cons.mpr ⟨q1_12, fun _ h => absurd h List.not_mem_nil⟩⟩⟩⟩, q6_85, by decide, by decide, by decide +kernel⟩
theorem lk_RL_109 : vlk RL 109 yX11_burnt cX11_burnt 7 (some .long) 4 := ⟨List.forall_mem_cons.mpr ⟨q4_113, List.forall_mem_cons.mpr ⟨q4_114, List.forall_mem_cons.mpr ⟨q4_115, List.forall_mem_cons.mpr ⟨q1_1, fun _ h => absurd h List.not_mem_nil⟩⟩⟩⟩, q4_116, by decide, by decide, by decide +kernel⟩
theorem lk_RL_113 : vlk RL 113 yX12_burnt cX12_burnt 9 (some .long) 4 := ⟨List.forall_mem_cons.mpr ⟨q6_86, List.forall_mem_cons.mpr ⟨q6_87, List.forall_mem_cons.mpr ⟨q6_88, List.forall_mem_cons.mpr ⟨q1_12, fun _ h => absurd h List.not_mem_nil⟩⟩⟩⟩, q6_89, by decide, by decide, by decide +kernel⟩
theorem lk_RL_114 : vlk RL 114 yX11_rate cX11_rate 3 (some .int) 2 := ⟨List.forall_mem_cons.mpr ⟨q4_159, List.forall_mem_cons.mpr ⟨q4_160, List.forall_mem_cons.mpr ⟨q4_161, List.forall_mem_cons.mpr ⟨q1_1, fun _ h => absurd h List.not_mem_nil⟩⟩⟩⟩, q4_162, by decide, by decide, by decide +kernel⟩
theorem lk_RL_117 : vlk RL 117 yX12_rate cX12_rate 7 (some .int) 2 := ⟨List.forall_mem_cons.mpr ⟨q6_99, List.forall_mem_cons.mpr ⟨q6_100, List.forall_mem_cons.mpr ⟨q6_101, List.forall_mem_cons.mpr ⟨q1_12, fun _ h => absurd h List.not_mem_nil⟩⟩⟩⟩, q6_102, by decide, by decide, by decide +kernel⟩
theorem lk_RL_118 : vlk RL 118 yX11_keep cX11_keep 2 (some .int) 1 := ⟨List.forall_mem_cons.mpr ⟨q4_193, List.forall_mem_cons.mpr ⟨q4_194, List.forall_mem_cons.mpr ⟨q4_195, List.forall_mem_cons.mpr ⟨q1_1, fun _ h => absurd h List.not_mem_nil⟩⟩⟩⟩, q4_196, by decide, by decide, by decide +kernel⟩
theorem lk_RL_121 : vlk RL 121 yX12_keep cX12_keep 3 (some .int) 1 := ⟨List.forall_mem_cons.mpr ⟨q6_109, List.forall_mem_cons.mpr ⟨q6_110, List.forall_mem_cons.mpr ⟨q6_111, List.forall_mem_cons.mpr ⟨q1_12, fun _ h => absurd h List.not_mem_nil⟩⟩⟩⟩, q6_112, by decide, by decide, by decide +kernel⟩
theorem lk_RL_122 : vlk RL 122 yX11_back cX11_back 2 (some .int) 1 := ⟨List.forall_mem_cons.mpr ⟨q4_201, List.forall_mem_cons.mpr ⟨q4_202, List.forall_mem_cons.mpr ⟨q4_203, List.forall_mem_cons.mpr ⟨q1_1, fun _ h => absurd h List.not_mem_nil⟩⟩⟩⟩, q4_204, by decide, by decide, by decide +kernel⟩
theorem lk_RL_125 : vlk RL 125 yX12_back cX12_back 3 (some .int) 1 := ⟨List.forall_mem_cons.mpr ⟨q6_113, List.forall_mem_cons.mpr ⟨q6_114, List.forall_mem_cons.mpr ⟨q6_115, List.forall_mem_cons.mpr ⟨q1_12, fun _ h => absurd h List.not_mem_nil⟩⟩⟩⟩, q6_116, by decide, by decide, by decide +kernel⟩
theorem lk_RL_126 : vlk RL 126 yX11_count cX11_count 2 (some .int) 1 := ⟨List.forall_mem_cons.mpr ⟨q4_205, List.forall_mem_cons.mpr ⟨q4_206, List.forall_mem_cons.mpr ⟨q4_207, List.forall_mem_cons.mpr ⟨q1_1, fun _ h => absurd h List.not_mem_nil⟩⟩⟩⟩, q4_208, by decide, by decide, by decide +kernel⟩
theorem lk_RL_129 : vlk RL 129 yX12_count cX12_count 2 (some .int) 1 := ⟨List.forall_mem_cons.mpr ⟨q6_117, List.forall_mem_cons.mpr ⟨q6_118, List.forall_mem_cons.mpr ⟨q6_119, List.forall_mem_cons.mpr ⟨q1_12, fun _ h => absurd h List.not_mem_nil⟩⟩⟩⟩, q6_120, by decide, by decide, by decide +kernel⟩
theorem lk_RL_130 : vlk RL 130 yX11_trace cX11_trace 1 (some .long) 0 := ⟨List.forall_mem_cons.mpr ⟨q4_213, List.forall_mem_cons.mpr ⟨q4_214, List.forall_mem_cons.mpr ⟨q4_215, List.forall_mem_cons.mpr ⟨q1_1, fun _ h => absurd h List.not_mem_nil⟩⟩⟩⟩, q4_216, by decide, by decide, by decide +kernel⟩
theorem lk_RL_134 : vlk RL 134 yX12_trace cX12_trace 1 (some .long) 0 := ⟨List.forall_mem_cons.mpr ⟨q6_121, List.forall_mem_cons.mpr ⟨q6_122, List.forall_mem_cons.mpr ⟨q6_123, List.forall_mem_cons.mpr ⟨q1_12, fun _ h => absurd h List.not_mem_nil⟩⟩⟩⟩, q6_124, by decide, by decide, by decide +kernel⟩

/-- all that the class holds but references -/
abbrev SX : Type := S11 × S8 × S9 × S4 × S3 × S2 × S0 × S4 × S4 × S4 × S7 × S10 × S1 × S4 × S4 × S7 × S10 × S1 × S4 × S4
def X_type (st : SX) (a1 : Int64) (a2 : Int32) : Option (Int32 × SX) := (F_X11_type (st.1) (st.2.1) a1 a2).map fun q => (q.1, (st.1, q.2, st.2.2.1, st.2.2.2.1, st.2.2.2.2.1, st.2.2.2.2.2.1, st.2.2.2.2.2.2.1, st.2.2.2.2.2.2.2.1, st.2.2.2.2.2.2.2.2.1, st.2.2.2.2.2.2.2.2.2.1, st.2.2.2.2.2.2.2.2.2.2.1, st.2.2.2.2.2.2.2.2.2.2.2.1, st.2.2.2.2.2.2.2.2.2.2.2.2.1, st.2.2.2.2.2.2.2.2.2.2.2.2.2.1, st.2.2.2.2.2.2.2.2.2.2.2.2.2.2.1, st.2.2.2.2.2.2.2.2.2.2.2.2.2.2.2.1, st.2.2.2.2.2.2.2.2.2.2.2.2.2.2.2.2.1, st.2.2.2.2.2.2.2.2.2.2.2.2.2.2.2.2.2.1, st.2.2.2.2.2.2.2.2.2.2.2.2.2.2.2.2.2.2.1, st.2.2.2.2.2.2.2.2.2.2.2.2.2.2.2.2.2.2.2))
def M_type (ms : SM) (a1 : Int64) (a2 : Int32) : Option (Int32 × SM) := (F_X12_type ms a1 a2).map fun q => (q.1, q.2)
def X_clear (st : SX) : Option (Int32 × SX) := (F_X11_clear (st.1) (st.2.1)).map fun q => (q.1, (st.1, q.2, st.2.2.1, st.2.2.2.1, st.2.2.2.2.1, st.2.2.2.2.2.1, st.2.2.2.2.2.2.1, st.2.2.2.2.2.2.2.1, st.2.2.2.2.2.2.2.2.1, st.2.2.2.2.2.2.2.2.2.1, st.2.2.2.2.2.2.2.2.2.2.1, st.2.2.2.2.2.2.2.2.2.2.2.1, st.2.2.2.2.2.2.2.2.2.2.2.2.1, st.2.2.2.2.2.2.2.2.2.2.2.2.2.1, st.2.2.2.2.2.2.2.2.2.2.2.2.2.2.1, st.2.2.2.2.2.2.2.2.2.2.2.2.2.2.2.1, st.2.2.2.2.2.2.2.2.2.2.2.2.2.2.2.2.1, st.2.2.2.2.2.2.2.2.2.2.2.2.2.2.2.2.2.1, st.2.2.2.2.2.2.2.2.2.2.2.2.2.2.2.2.2.2.1, st.2.2.2.2.2.2.2.2.2.2.2.2.2.2.2.2.2.2.2))
def M_clear (ms : SM) : Option (Int32 × SM) := (F_X12_clear ms).map fun q => (q.1, q.2)
def X_read (st : SX) : Option (Int32 × SX) := match F_X11_read_0 (st.1) (st.2.2.2.2.2.2.2.2.2.2.2.2.2.2.2.1) (st.2.1) (st.2.2.2.2.2.2.2.2.2.2.2.2.2.2.2.2.2.1) (st.2.2.2.2.2.2.2.2.2.2.2.2.2.2.2.2.2.2.1) (st.2.2.2.2.2.2.2.2.2.2.2.2.2.2.2.2.2.2.2) (st.2.2.2.2.2.2.2.2.2.2.2.2.2.2.2.2.1) with
  | some q => some (q.1, (q.2.1, q.2.2.2.1, st.2.2.1, st.2.2.2.1, st.2.2.2.2.1, st.2.2.2.2.2.1, st.2.2.2.2.2.2.1, st.2.2.2.2.2.2.2.1, st.2.2.2.2.2.2.2.2.1, st.2.2.2.2.2.2.2.2.2.1, st.2.2.2.2.2.2.2.2.2.2.1, st.2.2.2.2.2.2.2.2.2.2.2.1, st.2.2.2.2.2.2.2.2.2.2.2.2.1, st.2.2.2.2.2.2.2.2.2.2.2.2.2.1, st.2.2.2.2.2.2.2.2.2.2.2.2.2.2.1, q.2.2.1, q.2.2.2.2.2.2.2, q.2.2.2.2.1, q.2.2.2.2.2.1, q.2.2.2.2.2.2.1))
  | none => (F_X11_read_1 (st.1) (st.2.2.2.2.2.2.2.2.2.2.2.2.2.2.2.1) (st.2.1) (st.2.2.2.2.2.2.2.2.2.2.2.2.2.2.2.2.2.1) (st.2.2.2.2.2.2.2.2.2.2.2.2.2.2.2.2.2.2.1) (st.2.2.2.2.2.2.2.2.2.2.2.2.2.2.2.2.2.2.2) (st.2.2.2.2.2.2.2.2.2.2.2.2.2.2.2.2.1)).map fun q => (q.1, (q.2.1, q.2.2.2.1, st.2.2.1, st.2.2.2.1, st.2.2.2.2.1, st.2.2.2.2.2.1, st.2.2.2.2.2.2.1, st.2.2.2.2.2.2.2.1, st.2.2.2.2.2.2.2.2.1, st.2.2.2.2.2.2.2.2.2.1, q.2.2.1, q.2.2.2.2.2.2.2, q.2.2.2.2.1, q.2.2.2.2.2.1, q.2.2.2.2.2.2.1, st.2.2.2.2.2.2.2.2.2.2.1, st.2.2.2.2.2.2.2.2.2.2.2.1, st.2.2.2.2.2.2.2.2.2.2.2.2.1, st.2.2.2.2.2.2.2.2.2.2.2.2.2.1, st.2.2.2.2.2.2.2.2.2.2.2.2.2.2.1))
def M_read (ms : SM) : Option (Int32 × SM) := (F_X12_read ms).map fun q => (q.1, q.2)
def X_word (st : SX) (a1 : Int32) (a2 : Int32) : Option (Int32 × SX) := (F_X11_word (st.1) (st.2.2.2.2.2.2.2.2.2.2.1) (st.2.2.2.2.2.2.2.2.2.2.2.1) a1 a2).map fun q => (q, (st.1, st.2.1, st.2.2.1, st.2.2.2.1, st.2.2.2.2.1, st.2.2.2.2.2.1, st.2.2.2.2.2.2.1, st.2.2.2.2.2.2.2.1, st.2.2.2.2.2.2.2.2.1, st.2.2.2.2.2.2.2.2.2.1, st.2.2.2.2.2.2.2.2.2.2.1, st.2.2.2.2.2.2.2.2.2.2.2.1, st.2.2.2.2.2.2.2.2.2.2.2.2.1, st.2.2.2.2.2.2.2.2.2.2.2.2.2.1, st.2.2.2.2.2.2.2.2.2.2.2.2.2.2.1, st.2.2.2.2.2.2.2.2.2.2.2.2.2.2.2.1, st.2.2.2.2.2.2.2.2.2.2.2.2.2.2.2.2.1, st.2.2.2.2.2.2.2.2.2.2.2.2.2.2.2.2.2.1, st.2.2.2.2.2.2.2.2.2.2.2.2.2.2.2.2.2.2.1, st.2.2.2.2.2.2.2.2.2.2.2.2.2.2.2.2.2.2.2))
def M_word (ms : SM) (a1 : Int32) (a2 : Int32) : Option (Int32 × SM) := (F_X12_word ms a1 a2).map fun q => (q.1, q.2)
def X_form (st : SX) (a1 : Int32) (a2 : Int32) : Option (Int32 × SX) := (F_X11_form (st.1) (st.2.2.2.2.2.2.2.2.2.2.1) (st.2.2.2.2.2.2.2.2.2.2.2.2.1) a1 a2).map fun q => (q, (st.1, st.2.1, st.2.2.1, st.2.2.2.1, st.2.2.2.2.1, st.2.2.2.2.2.1, st.2.2.2.2.2.2.1, st.2.2.2.2.2.2.2.1, st.2.2.2.2.2.2.2.2.1, st.2.2.2.2.2.2.2.2.2.1, st.2.2.2.2.2.2.2.2.2.2.1, st.2.2.2.2.2.2.2.2.2.2.2.1, st.2.2.2.2.2.2.2.2.2.2.2.2.1, st.2.2.2.2.2.2.2.2.2.2.2.2.2.1, st.2.2.2.2.2.2.2.2.2.2.2.2.2.2.1, st.2.2.2.2.2.2.2.2.2.2.2.2.2.2.2.1, st.2.2.2.2.2.2.2.2.2.2.2.2.2.2.2.2.1, st.2.2.2.2.2.2.2.2.2.2.2.2.2.2.2.2.2.1, st.2.2.2.2.2.2.2.2.2.2.2.2.2.2.2.2.2.2.1, st.2.2.2.2.2.2.2.2.2.2.2.2.2.2.2.2.2.2.2))
def M_form (ms : SM) (a1 : Int32) (a2 : Int32) : Option (Int32 × SM) := (F_X12_form ms a1 a2).map fun q => (q.1, q.2)
def X_metre (st : SX) (a1 : Int32) (a2 : Int32) : Option (Int32 × SX) := (F_X11_metre (st.1) (st.2.2.2.2.2.2.2.2.2.2.1) a1 a2).map fun q => (q.1, (st.1, st.2.1, st.2.2.1, st.2.2.2.1, st.2.2.2.2.1, st.2.2.2.2.2.1, st.2.2.2.2.2.2.1, st.2.2.2.2.2.2.2.1, st.2.2.2.2.2.2.2.2.1, st.2.2.2.2.2.2.2.2.2.1, q.2, st.2.2.2.2.2.2.2.2.2.2.2.1, st.2.2.2.2.2.2.2.2.2.2.2.2.1, st.2.2.2.2.2.2.2.2.2.2.2.2.2.1, st.2.2.2.2.2.2.2.2.2.2.2.2.2.2.1, st.2.2.2.2.2.2.2.2.2.2.2.2.2.2.2.1, st.2.2.2.2.2.2.2.2.2.2.2.2.2.2.2.2.1, st.2.2.2.2.2.2.2.2.2.2.2.2.2.2.2.2.2.1, st.2.2.2.2.2.2.2.2.2.2.2.2.2.2.2.2.2.2.1, st.2.2.2.2.2.2.2.2.2.2.2.2.2.2.2.2.2.2.2))
def M_metre (ms : SM) (a1 : Int32) (a2 : Int32) : Option (Int32 × SM) := (F_X12_metre ms a1 a2).map fun q => (q.1, q.2)
def X_line (st : SX) (a1 : Int32) (a2 : Int32) : Option (Int32 × SX) := (F_X11_line (st.1) (st.2.2.2.2.2.2.2.2.2.2.1) (st.2.2.2.2.2.2.2.2.2.2.2.2.2.1) a1 a2).map fun q => (q, (st.1, st.2.1, st.2.2.1, st.2.2.2.1, st.2.2.2.2.1, st.2.2.2.2.2.1, st.2.2.2.2.2.2.1, st.2.2.2.2.2.2.2.1, st.2.2.2.2.2.2.2.2.1, st.2.2.2.2.2.2.2.2.2.1, st.2.2.2.2.2.2.2.2.2.2.1, st.2.2.2.2.2.2.2.2.2.2.2.1, st.2.2.2.2.2.2.2.2.2.2.2.2.1, st.2.2.2.2.2.2.2.2.2.2.2.2.2.1, st.2.2.2.2.2.2.2.2.2.2.2.2.2.2.1, st.2.2.2.2.2.2.2.2.2.2.2.2.2.2.2.1, st.2.2.2.2.2.2.2.2.2.2.2.2.2.2.2.2.1, st.2.2.2.2.2.2.2.2.2.2.2.2.2.2.2.2.2.1, st.2.2.2.2.2.2.2.2.2.2.2.2.2.2.2.2.2.2.1, st.2.2.2.2.2.2.2.2.2.2.2.2.2.2.2.2.2.2.2))
def M_line (ms : SM) (a1 : Int32) (a2 : Int32) : Option (Int32 × SM) := (F_X12_line ms a1 a2).map fun q => (q.1, q.2)
def X_stock (st : SX) (a1 : Int32) (a2 : Int32) : Option (Int32 × SX) := (F_X11_stock (st.1) (st.2.2.2.2.2.2.2.2.2.2.1) (st.2.2.2.2.2.2.2.2.2.2.2.2.2.2.1) a1 a2).map fun q => (q, (st.1, st.2.1, st.2.2.1, st.2.2.2.1, st.2.2.2.2.1, st.2.2.2.2.2.1, st.2.2.2.2.2.2.1, st.2.2.2.2.2.2.2.1, st.2.2.2.2.2.2.2.2.1, st.2.2.2.2.2.2.2.2.2.1, st.2.2.2.2.2.2.2.2.2.2.1, st.2.2.2.2.2.2.2.2.2.2.2.1, st.2.2.2.2.2.2.2.2.2.2.2.2.1, st.2.2.2.2.2.2.2.2.2.2.2.2.2.1, st.2.2.2.2.2.2.2.2.2.2.2.2.2.2.1, st.2.2.2.2.2.2.2.2.2.2.2.2.2.2.2.1, st.2.2.2.2.2.2.2.2.2.2.2.2.2.2.2.2.1, st.2.2.2.2.2.2.2.2.2.2.2.2.2.2.2.2.2.1, st.2.2.2.2.2.2.2.2.2.2.2.2.2.2.2.2.2.2.1, st.2.2.2.2.2.2.2.2.2.2.2.2.2.2.2.2.2.2.2))
def M_stock (ms : SM) (a1 : Int32) (a2 : Int32) : Option (Int32 × SM) := (F_X12_stock ms a1 a2).map fun q => (q.1, q.2)
def X_put (st : SX) (a1 : Int32) (a2 : Int32) (a3 : Int32) (a4 : Int32) : Option (Int32 × SX) := (F_X11_put (st.1) (st.2.2.2.2.2.2.2.2.2.2.1) (st.2.2.2.2.2.2.2.2.2.2.2.2.2.1) (st.2.2.2.2.2.2.2.2.2.2.2.1) a1 a2 a3 a4).map fun q => (q.1, (st.1, st.2.1, st.2.2.1, st.2.2.2.1, st.2.2.2.2.1, st.2.2.2.2.2.1, st.2.2.2.2.2.2.1, st.2.2.2.2.2.2.2.1, st.2.2.2.2.2.2.2.2.1, st.2.2.2.2.2.2.2.2.2.1, st.2.2.2.2.2.2.2.2.2.2.1, st.2.2.2.2.2.2.2.2.2.2.2.1, st.2.2.2.2.2.2.2.2.2.2.2.2.1, q.2, st.2.2.2.2.2.2.2.2.2.2.2.2.2.2.1, st.2.2.2.2.2.2.2.2.2.2.2.2.2.2.2.1, st.2.2.2.2.2.2.2.2.2.2.2.2.2.2.2.2.1, st.2.2.2.2.2.2.2.2.2.2.2.2.2.2.2.2.2.1, st.2.2.2.2.2.2.2.2.2.2.2.2.2.2.2.2.2.2.1, st.2.2.2.2.2.2.2.2.2.2.2.2.2.2.2.2.2.2.2))
def M_put (ms : SM) (a1 : Int32) (a2 : Int32) (a3 : Int32) (a4 : Int32) : Option (Int32 × SM) := (F_X12_put ms a1 a2 a3 a4).map fun q => (q.1, q.2)
def X_change (st : SX) (a1 : Int32) (a2 : Int32) : Option (Int32 × SX) := (F_X11_change (st.1) (st.2.2.2.2.2.2.2.2.2.2.1) (st.2.2.2.2.2.2.2.2.2.2.2.2.2.1) (st.2.2.2.2.2.2.2.2.2.2.2.1) a1 a2).map fun q => (q.1, (st.1, st.2.1, st.2.2.1, st.2.2.2.1, st.2.2.2.2.1, st.2.2.2.2.2.1, st.2.2.2.2.2.2.1, st.2.2.2.2.2.2.2.1, st.2.2.2.2.2.2.2.2.1, st.2.2.2.2.2.2.2.2.2.1, st.2.2.2.2.2.2.2.2.2.2.1, st.2.2.2.2.2.2.2.2.2.2.2.1, st.2.2.2.2.2.2.2.2.2.2.2.2.1, q.2, st.2.2.2.2.2.2.2.2.2.2.2.2.2.2.1, st.2.2.2.2.2.2.2.2.2.2.2.2.2.2.2.1, st.2.2.2.2.2.2.2.2.2.2.2.2.2.2.2.2.1, st.2.2.2.2.2.2.2.2.2.2.2.2.2.2.2.2.2.1, st.2.2.2.2.2.2.2.2.2.2.2.2.2.2.2.2.2.2.1, st.2.2.2.2.2.2.2.2.2.2.2.2.2.2.2.2.2.2.2))
def M_change (ms : SM) (a1 : Int32) (a2 : Int32) : Option (Int32 × SM) := (F_X12_change ms a1 a2).map fun q => (q.1, q.2)
def X_take (st : SX) (a1 : Int32) : Option (Int32 × SX) := (F_X11_take (st.1) (st.2.2.2.2.2.2.2.2.2.2.1) (st.2.2.2.2.2.2.2.2.2.2.2.2.2.1) a1).map fun q => (q.1, (st.1, st.2.1, st.2.2.1, st.2.2.2.1, st.2.2.2.2.1, st.2.2.2.2.2.1, st.2.2.2.2.2.2.1, st.2.2.2.2.2.2.2.1, st.2.2.2.2.2.2.2.2.1, st.2.2.2.2.2.2.2.2.2.1, st.2.2.2.2.2.2.2.2.2.2.1, st.2.2.2.2.2.2.2.2.2.2.2.1, st.2.2.2.2.2.2.2.2.2.2.2.2.1, q.2, st.2.2.2.2.2.2.2.2.2.2.2.2.2.2.1, st.2.2.2.2.2.2.2.2.2.2.2.2.2.2.2.1, st.2.2.2.2.2.2.2.2.2.2.2.2.2.2.2.2.1, st.2.2.2.2.2.2.2.2.2.2.2.2.2.2.2.2.2.1, st.2.2.2.2.2.2.2.2.2.2.2.2.2.2.2.2.2.2.1, st.2.2.2.2.2.2.2.2.2.2.2.2.2.2.2.2.2.2.2))
def M_take (ms : SM) (a1 : Int32) : Option (Int32 × SM) := (F_X12_take ms a1).map fun q => (q.1, q.2)
def X_judged (st : SX) (a1 : Int32) (a2 : Int32) (a3 : Int32) (a4 : Int32) : Option (Int32 × SX) := (F_X11_judged (st.1) (st.2.2.2.2.2.2.2.2.2.2.1) (st.2.2.1) (st.2.2.2.2.2.2.2.2.2.2.2.2.1) (st.2.2.2.2.2.2.2.2.2.2.2.2.2.1) (st.2.2.2.2.2.2.2.2.2.2.2.1) a1 a2 a3 a4).map fun q => (q.1, (st.1, st.2.1, q.2, st.2.2.2.1, st.2.2.2.2.1, st.2.2.2.2.2.1, st.2.2.2.2.2.2.1, st.2.2.2.2.2.2.2.1, st.2.2.2.2.2.2.2.2.1, st.2.2.2.2.2.2.2.2.2.1, st.2.2.2.2.2.2.2.2.2.2.1, st.2.2.2.2.2.2.2.2.2.2.2.1, st.2.2.2.2.2.2.2.2.2.2.2.2.1, st.2.2.2.2.2.2.2.2.2.2.2.2.2.1, st.2.2.2.2.2.2.2.2.2.2.2.2.2.2.1, st.2.2.2.2.2.2.2.2.2.2.2.2.2.2.2.1, st.2.2.2.2.2.2.2.2.2.2.2.2.2.2.2.2.1, st.2.2.2.2.2.2.2.2.2.2.2.2.2.2.2.2.2.1, st.2.2.2.2.2.2.2.2.2.2.2.2.2.2.2.2.2.2.1, st.2.2.2.2.2.2.2.2.2.2.2.2.2.2.2.2.2.2.2))
def M_judged (ms : SM) (a1 : Int32) (a2 : Int32) (a3 : Int32) (a4 : Int32) : Option (Int32 × SM) := (F_X12_judged ms a1 a2 a3 a4).map fun q => (q.1, q.2)
def X_law (st : SX) (a1 : Int32) (a2 : Int32) : Option (Int32 × SX) := (F_X11_law (st.1) (st.2.2.2.2.2.2.2.2.2.2.1) (st.2.2.1) (st.2.2.2.2.2.2.2.2.2.2.2.2.1) (st.2.2.2.2.2.2.2.2.2.2.2.2.2.1) (st.2.2.2.2.2.2.2.2.2.2.2.1) a1 a2).map fun q => (q.1, (st.1, st.2.1, q.2, st.2.2.2.1, st.2.2.2.2.1, st.2.2.2.2.2.1, st.2.2.2.2.2.2.1, st.2.2.2.2.2.2.2.1, st.2.2.2.2.2.2.2.2.1, st.2.2.2.2.2.2.2.2.2.1, st.2.2.2.2.2.2.2.2.2.2.1, st.2.2.2.2.2.2.2.2.2.2.2.1, st.2.2.2.2.2.2.2.2.2.2.2.2.1, st.2.2.2.2.2.2.2.2.2.2.2.2.2.1, st.2.2.2.2.2.2.2.2.2.2.2.2.2.2.1, st.2.2.2.2.2.2.2.2.2.2.2.2.2.2.2.1, st.2.2.2.2.2.2.2.2.2.2.2.2.2.2.2.2.1, st.2.2.2.2.2.2.2.2.2.2.2.2.2.2.2.2.2.1, st.2.2.2.2.2.2.2.2.2.2.2.2.2.2.2.2.2.2.1, st.2.2.2.2.2.2.2.2.2.2.2.2.2.2.2.2.2.2.2))
def M_law (ms : SM) (a1 : Int32) (a2 : Int32) : Option (Int32 × SM) := (F_X12_law ms a1 a2).map fun q => (q.1, q.2)
def X_empty (st : SX) (a1 : Int32) (a2 : Int32) : Option (Int32 × SX) := (F_X11_empty (st.1) (st.2.2.2.2.2.2.2.2.2.2.1) (st.2.2.1) (st.2.2.2.2.2.2.2.2.2.2.2.2.1) (st.2.2.2.2.2.2.2.2.2.2.2.2.2.1) (st.2.2.2.2.2.2.2.2.2.2.2.1) a1 a2).map fun q => (q.1, (st.1, st.2.1, q.2, st.2.2.2.1, st.2.2.2.2.1, st.2.2.2.2.2.1, st.2.2.2.2.2.2.1, st.2.2.2.2.2.2.2.1, st.2.2.2.2.2.2.2.2.1, st.2.2.2.2.2.2.2.2.2.1, st.2.2.2.2.2.2.2.2.2.2.1, st.2.2.2.2.2.2.2.2.2.2.2.1, st.2.2.2.2.2.2.2.2.2.2.2.2.1, st.2.2.2.2.2.2.2.2.2.2.2.2.2.1, st.2.2.2.2.2.2.2.2.2.2.2.2.2.2.1, st.2.2.2.2.2.2.2.2.2.2.2.2.2.2.2.1, st.2.2.2.2.2.2.2.2.2.2.2.2.2.2.2.2.1, st.2.2.2.2.2.2.2.2.2.2.2.2.2.2.2.2.2.1, st.2.2.2.2.2.2.2.2.2.2.2.2.2.2.2.2.2.2.1, st.2.2.2.2.2.2.2.2.2.2.2.2.2.2.2.2.2.2.2))
def M_empty (ms : SM) (a1 : Int32) (a2 : Int32) : Option (Int32 × SM) := (F_X12_empty ms a1 a2).map fun q => (q.1, q.2)
def X_bound (st : SX) (a1 : Int32) (a2 : Int32) : Option (Int32 × SX) := (F_X11_bound (st.1) (st.2.2.2.2.2.2.2.2.2.2.1) (st.2.2.1) (st.2.2.2.2.2.2.2.2.2.2.2.2.1) (st.2.2.2.2.2.2.2.2.2.2.2.2.2.1) (st.2.2.2.2.2.2.2.2.2.2.2.1) a1 a2).map fun q => (q.1, (st.1, st.2.1, q.2, st.2.2.2.1, st.2.2.2.2.1, st.2.2.2.2.2.1, st.2.2.2.2.2.2.1, st.2.2.2.2.2.2.2.1, st.2.2.2.2.2.2.2.2.1, st.2.2.2.2.2.2.2.2.2.1, st.2.2.2.2.2.2.2.2.2.2.1, st.2.2.2.2.2.2.2.2.2.2.2.1, st.2.2.2.2.2.2.2.2.2.2.2.2.1, st.2.2.2.2.2.2.2.2.2.2.2.2.2.1, st.2.2.2.2.2.2.2.2.2.2.2.2.2.2.1, st.2.2.2.2.2.2.2.2.2.2.2.2.2.2.2.1, st.2.2.2.2.2.2.2.2.2.2.2.2.2.2.2.2.1, st.2.2.2.2.2.2.2.2.2.2.2.2.2.2.2.2.2.1, st.2.2.2.2.2.2.2.2.2.2.2.2.2.2.2.2.2.2.1, st.2.2.2.2.2.2.2.2.2.2.2.2.2.2.2.2.2.2.2))
def M_bound (ms : SM) (a1 : Int32) (a2 : Int32) : Option (Int32 × SM) := (F_X12_bound ms a1 a2).map fun q => (q.1, q.2)
def X_struck (st : SX) (a1 : Int32) (a2 : Int32) (a3 : Int32) : Option (Int32 × SX) := (F_X11_struck (st.1) (st.2.2.2.2.2.2.2.2.2.2.1) (st.2.2.1) (st.2.2.2.2.2.2.2.2.2.2.2.2.1) (st.2.2.2.2.2.2.2.2.2.2.2.2.2.1) (st.2.2.2.2.2.2.2.2.2.2.2.1) a1 a2 a3).map fun q => (q.1, (st.1, st.2.1, q.2, st.2.2.2.1, st.2.2.2.2.1, st.2.2.2.2.2.1, st.2.2.2.2.2.2.1, st.2.2.2.2.2.2.2.1, st.2.2.2.2.2.2.2.2.1, st.2.2.2.2.2.2.2.2.2.1, st.2.2.2.2.2.2.2.2.2.2.1, st.2.2.2.2.2.2.2.2.2.2.2.1, st.2.2.2.2.2.2.2.2.2.2.2.2.1, st.2.2.2.2.2.2.2.2.2.2.2.2.2.1, st.2.2.2.2.2.2.2.2.2.2.2.2.2.2.1, st.2.2.2.2.2.2.2.2.2.2.2.2.2.2.2.1, st.2.2.2.2.2.2.2.2.2.2.2.2.2.2.2.2.1, st.2.2.2.2.2.2.2.2.2.2.2.2.2.2.2.2.2.1, st.2.2.2.2.2.2.2.2.2.2.2.2.2.2.2.2.2.2.1, st.2.2.2.2.2.2.2.2.2.2.2.2.2.2.2.2.2.2.2))
def M_struck (ms : SM) (a1 : Int32) (a2 : Int32) (a3 : Int32) : Option (Int32 × SM) := (F_X12_struck ms a1 a2 a3).map fun q => (q.1, q.2)
def X_key (st : SX) (a1 : Int32) (a2 : Int32) : Option (Int32 × SX) := (F_X11_key (st.1) (st.2.2.2.2.2.2.2.2.2.2.1) (st.2.2.1) (st.2.2.2.2.2.2.2.2.2.2.2.2.1) (st.2.2.2.2.2.2.2.2.2.2.2.2.2.1) (st.2.2.2.2.2.2.2.2.2.2.2.1) a1 a2).map fun q => (q.1, (st.1, st.2.1, q.2, st.2.2.2.1, st.2.2.2.2.1, st.2.2.2.2.2.1, st.2.2.2.2.2.2.1, st.2.2.2.2.2.2.2.1, st.2.2.2.2.2.2.2.2.1, st.2.2.2.2.2.2.2.2.2.1, st.2.2.2.2.2.2.2.2.2.2.1, st.2.2.2.2.2.2.2.2.2.2.2.1, st.2.2.2.2.2.2.2.2.2.2.2.2.1, st.2.2.2.2.2.2.2.2.2.2.2.2.2.1, st.2.2.2.2.2.2.2.2.2.2.2.2.2.2.1, st.2.2.2.2.2.2.2.2.2.2.2.2.2.2.2.1, st.2.2.2.2.2.2.2.2.2.2.2.2.2.2.2.2.1, st.2.2.2.2.2.2.2.2.2.2.2.2.2.2.2.2.2.1, st.2.2.2.2.2.2.2.2.2.2.2.2.2.2.2.2.2.2.1, st.2.2.2.2.2.2.2.2.2.2.2.2.2.2.2.2.2.2.2))
def M_key (ms : SM) (a1 : Int32) (a2 : Int32) : Option (Int32 × SM) := (F_X12_key ms a1 a2).map fun q => (q.1, q.2)
def X_mended (st : SX) (a1 : Int32) (a2 : Int32) (a3 : Int32) : Option (Int32 × SX) := (F_X11_mended (st.1) (st.2.2.2.2.1) (st.2.2.2.2.2.2.2.2.2.2.1) (st.2.2.2.2.2.2.2.2.2.2.2.2.1) (st.2.2.2.2.2.2.2.2.2.2.2.2.2.1) (st.2.2.2.2.2.2.2.2.2.2.2.1) a1 a2 a3).map fun q => (q.1, (st.1, st.2.1, st.2.2.1, st.2.2.2.1, q.2, st.2.2.2.2.2.1, st.2.2.2.2.2.2.1, st.2.2.2.2.2.2.2.1, st.2.2.2.2.2.2.2.2.1, st.2.2.2.2.2.2.2.2.2.1, st.2.2.2.2.2.2.2.2.2.2.1, st.2.2.2.2.2.2.2.2.2.2.2.1, st.2.2.2.2.2.2.2.2.2.2.2.2.1, st.2.2.2.2.2.2.2.2.2.2.2.2.2.1, st.2.2.2.2.2.2.2.2.2.2.2.2.2.2.1, st.2.2.2.2.2.2.2.2.2.2.2.2.2.2.2.1, st.2.2.2.2.2.2.2.2.2.2.2.2.2.2.2.2.1, st.2.2.2.2.2.2.2.2.2.2.2.2.2.2.2.2.2.1, st.2.2.2.2.2.2.2.2.2.2.2.2.2.2.2.2.2.2.1, st.2.2.2.2.2.2.2.2.2.2.2.2.2.2.2.2.2.2.2))
def M_mended (ms : SM) (a1 : Int32) (a2 : Int32) (a3 : Int32) : Option (Int32 × SM) := (F_X12_mended ms a1 a2 a3).map fun q => (q.1, q.2)
def X_shortest (st : SX) (a1 : Int32) (a2 : Int32) (a3 : Int32) (a4 : Int32) : Option (Int32 × SX) := match F_X11_shortest_0 (st.1) (st.2.2.2.2.2.2.1) (st.2.2.2.2.2.2.2.2.2.2.1) (st.2.2.2.2.2.2.2.1) (st.2.2.2.2.2.2.2.2.2.2.2.2.1) (st.2.2.2.2.2.2.2.2.2.2.2.2.2.2.1) (st.2.2.2.2.2.2.2.2.2.2.2.1) a1 a2 a3 a4 with
  | some q => some (q.1, (st.1, st.2.1, st.2.2.1, st.2.2.2.1, st.2.2.2.2.1, st.2.2.2.2.2.1, q.2.1, q.2.2, st.2.2.2.2.2.2.2.2.1, st.2.2.2.2.2.2.2.2.2.1, st.2.2.2.2.2.2.2.2.2.2.1, st.2.2.2.2.2.2.2.2.2.2.2.1, st.2.2.2.2.2.2.2.2.2.2.2.2.1, st.2.2.2.2.2.2.2.2.2.2.2.2.2.1, st.2.2.2.2.2.2.2.2.2.2.2.2.2.2.1, st.2.2.2.2.2.2.2.2.2.2.2.2.2.2.2.1, st.2.2.2.2.2.2.2.2.2.2.2.2.2.2.2.2.1, st.2.2.2.2.2.2.2.2.2.2.2.2.2.2.2.2.2.1, st.2.2.2.2.2.2.2.2.2.2.2.2.2.2.2.2.2.2.1, st.2.2.2.2.2.2.2.2.2.2.2.2.2.2.2.2.2.2.2))
  | none => (F_X11_shortest_1 (st.1) (st.2.2.2.2.2.2.1) (st.2.2.2.2.2.2.2.2.2.2.1) (st.2.2.2.2.2.2.2.1) (st.2.2.2.2.2.2.2.2.2.2.2.2.1) (st.2.2.2.2.2.2.2.2.2.2.2.2.2.2.1) (st.2.2.2.2.2.2.2.2.2.2.2.1) a1 a2 a3 a4).map fun q => (q.1, (st.1, st.2.1, st.2.2.1, st.2.2.2.1, st.2.2.2.2.1, st.2.2.2.2.2.1, q.2.1, q.2.2, st.2.2.2.2.2.2.2.2.1, st.2.2.2.2.2.2.2.2.2.1, st.2.2.2.2.2.2.2.2.2.2.1, st.2.2.2.2.2.2.2.2.2.2.2.1, st.2.2.2.2.2.2.2.2.2.2.2.2.1, st.2.2.2.2.2.2.2.2.2.2.2.2.2.1, st.2.2.2.2.2.2.2.2.2.2.2.2.2.2.1, st.2.2.2.2.2.2.2.2.2.2.2.2.2.2.2.1, st.2.2.2.2.2.2.2.2.2.2.2.2.2.2.2.2.1, st.2.2.2.2.2.2.2.2.2.2.2.2.2.2.2.2.2.1, st.2.2.2.2.2.2.2.2.2.2.2.2.2.2.2.2.2.2.1, st.2.2.2.2.2.2.2.2.2.2.2.2.2.2.2.2.2.2.2))
def M_shortest (ms : SM) (a1 : Int32) (a2 : Int32) (a3 : Int32) (a4 : Int32) : Option (Int32 × SM) := (F_X12_shortest ms a1 a2 a3 a4).map fun q => (q.1, q.2)
def X_both (st : SX) (a1 : Int32) : Option (Int32 × SX) := (F_X11_both (st.1) (st.2.2.2.2.2.2.2.2.2.2.1) (st.2.2.1) (st.2.2.2.2.2.2.2.2.2.2.2.2.1) (st.2.2.2.2.2.2.2.2.2.2.2.2.2.1) (st.2.2.2.2.2.2.2.2.2.2.2.1) a1).map fun q => (q.1, (st.1, st.2.1, q.2, st.2.2.2.1, st.2.2.2.2.1, st.2.2.2.2.2.1, st.2.2.2.2.2.2.1, st.2.2.2.2.2.2.2.1, st.2.2.2.2.2.2.2.2.1, st.2.2.2.2.2.2.2.2.2.1, st.2.2.2.2.2.2.2.2.2.2.1, st.2.2.2.2.2.2.2.2.2.2.2.1, st.2.2.2.2.2.2.2.2.2.2.2.2.1, st.2.2.2.2.2.2.2.2.2.2.2.2.2.1, st.2.2.2.2.2.2.2.2.2.2.2.2.2.2.1, st.2.2.2.2.2.2.2.2.2.2.2.2.2.2.2.1, st.2.2.2.2.2.2.2.2.2.2.2.2.2.2.2.2.1, st.2.2.2.2.2.2.2.2.2.2.2.2.2.2.2.2.2.1, st.2.2.2.2.2.2.2.2.2.2.2.2.2.2.2.2.2.2.1, st.2.2.2.2.2.2.2.2.2.2.2.2.2.2.2.2.2.2.2))
def M_both (ms : SM) (a1 : Int32) : Option (Int32 × SM) := (F_X12_both ms a1).map fun q => (q.1, q.2)
def X_parting (st : SX) (a1 : Int32) : Option (Int32 × SX) := (F_X11_parting (st.1) (st.2.2.2.2.2.2.2.2.2.2.1) (st.2.2.1) (st.2.2.2.2.2.2.2.2.2.2.2.2.1) (st.2.2.2.2.2.2.2.2.2.2.2.2.2.1) (st.2.2.2.2.2.2.2.2.2.2.2.1) a1).map fun q => (q.1, (st.1, st.2.1, q.2.1, st.2.2.2.1, st.2.2.2.2.1, st.2.2.2.2.2.1, st.2.2.2.2.2.2.1, st.2.2.2.2.2.2.2.1, st.2.2.2.2.2.2.2.2.1, st.2.2.2.2.2.2.2.2.2.1, st.2.2.2.2.2.2.2.2.2.2.1, q.2.2, st.2.2.2.2.2.2.2.2.2.2.2.2.1, st.2.2.2.2.2.2.2.2.2.2.2.2.2.1, st.2.2.2.2.2.2.2.2.2.2.2.2.2.2.1, st.2.2.2.2.2.2.2.2.2.2.2.2.2.2.2.1, st.2.2.2.2.2.2.2.2.2.2.2.2.2.2.2.2.1, st.2.2.2.2.2.2.2.2.2.2.2.2.2.2.2.2.2.1, st.2.2.2.2.2.2.2.2.2.2.2.2.2.2.2.2.2.2.1, st.2.2.2.2.2.2.2.2.2.2.2.2.2.2.2.2.2.2.2))
def M_parting (ms : SM) (a1 : Int32) : Option (Int32 × SM) := (F_X12_parting ms a1).map fun q => (q.1, q.2)
def X_forged (st : SX) (a1 : Int32) (a2 : Int32) (a3 : Int32) : Option (Int32 × SX) := (F_X11_forged (st.1) (st.2.2.2.2.2.2.2.2.2.2.1) (st.2.2.2.1) (st.2.2.1) (st.2.2.2.2.2.2.2.2.2.2.2.2.1) (st.2.2.2.2.2.2.2.2.2.2.2.2.2.1) (st.2.2.2.2.2.2.2.2.2.2.2.2.2.2.1) (st.2.2.2.2.2.2.2.2.2.2.2.1) a1 a2 a3).map fun q => (q.1, (st.1, st.2.1, q.2.2, q.2.1, st.2.2.2.2.1, st.2.2.2.2.2.1, st.2.2.2.2.2.2.1, st.2.2.2.2.2.2.2.1, st.2.2.2.2.2.2.2.2.1, st.2.2.2.2.2.2.2.2.2.1, st.2.2.2.2.2.2.2.2.2.2.1, st.2.2.2.2.2.2.2.2.2.2.2.1, st.2.2.2.2.2.2.2.2.2.2.2.2.1, st.2.2.2.2.2.2.2.2.2.2.2.2.2.1, st.2.2.2.2.2.2.2.2.2.2.2.2.2.2.1, st.2.2.2.2.2.2.2.2.2.2.2.2.2.2.2.1, st.2.2.2.2.2.2.2.2.2.2.2.2.2.2.2.2.1, st.2.2.2.2.2.2.2.2.2.2.2.2.2.2.2.2.2.1, st.2.2.2.2.2.2.2.2.2.2.2.2.2.2.2.2.2.2.1, st.2.2.2.2.2.2.2.2.2.2.2.2.2.2.2.2.2.2.2))
def M_forged (ms : SM) (a1 : Int32) (a2 : Int32) (a3 : Int32) : Option (Int32 × SM) := (F_X12_forged ms a1 a2 a3).map fun q => (q.1, q.2)
def X_burnt (st : SX) (a1 : Int32) (a2 : Int32) (a3 : Int32) (a4 : Int32) : Option (Int64 × SX) := (F_X11_burnt (st.1) (st.2.2.2.2.2.1) (st.2.2.2.2.2.2.2.2.2.2.1) (st.2.2.2.2.2.2.2.2.2.2.2.2.1) (st.2.2.2.2.2.2.2.2.2.2.2.2.2.1) (st.2.2.2.2.2.2.2.2.2.2.2.1) a1 a2 a3 a4).map fun q => (q.1, (st.1, st.2.1, st.2.2.1, st.2.2.2.1, st.2.2.2.2.1, q.2, st.2.2.2.2.2.2.1, st.2.2.2.2.2.2.2.1, st.2.2.2.2.2.2.2.2.1, st.2.2.2.2.2.2.2.2.2.1, st.2.2.2.2.2.2.2.2.2.2.1, st.2.2.2.2.2.2.2.2.2.2.2.1, st.2.2.2.2.2.2.2.2.2.2.2.2.1, st.2.2.2.2.2.2.2.2.2.2.2.2.2.1, st.2.2.2.2.2.2.2.2.2.2.2.2.2.2.1, st.2.2.2.2.2.2.2.2.2.2.2.2.2.2.2.1, st.2.2.2.2.2.2.2.2.2.2.2.2.2.2.2.2.1, st.2.2.2.2.2.2.2.2.2.2.2.2.2.2.2.2.2.1, st.2.2.2.2.2.2.2.2.2.2.2.2.2.2.2.2.2.2.1, st.2.2.2.2.2.2.2.2.2.2.2.2.2.2.2.2.2.2.2))
def M_burnt (ms : SM) (a1 : Int32) (a2 : Int32) (a3 : Int32) (a4 : Int32) : Option (Int64 × SM) := (F_X12_burnt ms a1 a2 a3 a4).map fun q => (q.1, q.2)
def X_rate (st : SX) (a1 : Int32) (a2 : Int32) : Option (Int32 × SX) := (F_X11_rate (st.1) (st.2.2.2.2.2.2.2.2.2.2.1) (st.2.2.2.2.2.2.2.2.2.2.2.2.2.1) (st.2.2.2.2.2.2.2.2.2.2.2.1) a1 a2).map fun q => (q.1, (q.2, st.2.1, st.2.2.1, st.2.2.2.1, st.2.2.2.2.1, st.2.2.2.2.2.1, st.2.2.2.2.2.2.1, st.2.2.2.2.2.2.2.1, st.2.2.2.2.2.2.2.2.1, st.2.2.2.2.2.2.2.2.2.1, st.2.2.2.2.2.2.2.2.2.2.1, st.2.2.2.2.2.2.2.2.2.2.2.1, st.2.2.2.2.2.2.2.2.2.2.2.2.1, st.2.2.2.2.2.2.2.2.2.2.2.2.2.1, st.2.2.2.2.2.2.2.2.2.2.2.2.2.2.1, st.2.2.2.2.2.2.2.2.2.2.2.2.2.2.2.1, st.2.2.2.2.2.2.2.2.2.2.2.2.2.2.2.2.1, st.2.2.2.2.2.2.2.2.2.2.2.2.2.2.2.2.2.1, st.2.2.2.2.2.2.2.2.2.2.2.2.2.2.2.2.2.2.1, st.2.2.2.2.2.2.2.2.2.2.2.2.2.2.2.2.2.2.2))
def M_rate (ms : SM) (a1 : Int32) (a2 : Int32) : Option (Int32 × SM) := (F_X12_rate ms a1 a2).map fun q => (q.1, q.2)
def X_keep (st : SX) (a1 : Int32) : Option (Int32 × SX) := if a1 = 0 then (F_X11_keep_0 (st.1) (st.2.2.2.2.2.2.2.2.1) (st.2.2.2.2.2.2.2.2.2.2.1) (st.2.2.2.2.2.2.2.2.2.2.2.2.2.1) a1).map fun q => (q.1, (q.2.1, st.2.1, st.2.2.1, st.2.2.2.1, st.2.2.2.2.1, st.2.2.2.2.2.1, st.2.2.2.2.2.2.1, st.2.2.2.2.2.2.2.1, q.2.2, st.2.2.2.2.2.2.2.2.2.1, st.2.2.2.2.2.2.2.2.2.2.1, st.2.2.2.2.2.2.2.2.2.2.2.1, st.2.2.2.2.2.2.2.2.2.2.2.2.1, st.2.2.2.2.2.2.2.2.2.2.2.2.2.1, st.2.2.2.2.2.2.2.2.2.2.2.2.2.2.1, st.2.2.2.2.2.2.2.2.2.2.2.2.2.2.2.1, st.2.2.2.2.2.2.2.2.2.2.2.2.2.2.2.2.1, st.2.2.2.2.2.2.2.2.2.2.2.2.2.2.2.2.2.1, st.2.2.2.2.2.2.2.2.2.2.2.2.2.2.2.2.2.2.1, st.2.2.2.2.2.2.2.2.2.2.2.2.2.2.2.2.2.2.2)) else (F_X11_keep_1 (st.1) (st.2.2.2.2.2.2.2.2.2.1) (st.2.2.2.2.2.2.2.2.2.2.1) (st.2.2.2.2.2.2.2.2.2.2.2.2.2.1) a1).map fun q => (q.1, (q.2.1, st.2.1, st.2.2.1, st.2.2.2.1, st.2.2.2.2.1, st.2.2.2.2.2.1, st.2.2.2.2.2.2.1, st.2.2.2.2.2.2.2.1, st.2.2.2.2.2.2.2.2.1, q.2.2, st.2.2.2.2.2.2.2.2.2.2.1, st.2.2.2.2.2.2.2.2.2.2.2.1, st.2.2.2.2.2.2.2.2.2.2.2.2.1, st.2.2.2.2.2.2.2.2.2.2.2.2.2.1, st.2.2.2.2.2.2.2.2.2.2.2.2.2.2.1, st.2.2.2.2.2.2.2.2.2.2.2.2.2.2.2.1, st.2.2.2.2.2.2.2.2.2.2.2.2.2.2.2.2.1, st.2.2.2.2.2.2.2.2.2.2.2.2.2.2.2.2.2.1, st.2.2.2.2.2.2.2.2.2.2.2.2.2.2.2.2.2.2.1, st.2.2.2.2.2.2.2.2.2.2.2.2.2.2.2.2.2.2.2))
def M_keep (ms : SM) (a1 : Int32) : Option (Int32 × SM) := (F_X12_keep ms a1).map fun q => (q.1, q.2)
def X_back (st : SX) (a1 : Int32) : Option (Int32 × SX) := if a1 = 0 then (F_X11_back_0 (st.1) (st.2.2.2.2.2.2.2.2.1) (st.2.2.2.2.2.2.2.2.2.2.1) (st.2.2.2.2.2.2.2.2.2.2.2.2.2.1) a1).map fun q => (q.1, (st.1, st.2.1, st.2.2.1, st.2.2.2.1, st.2.2.2.2.1, st.2.2.2.2.2.1, st.2.2.2.2.2.2.1, st.2.2.2.2.2.2.2.1, st.2.2.2.2.2.2.2.2.1, st.2.2.2.2.2.2.2.2.2.1, st.2.2.2.2.2.2.2.2.2.2.1, st.2.2.2.2.2.2.2.2.2.2.2.1, st.2.2.2.2.2.2.2.2.2.2.2.2.1, q.2, st.2.2.2.2.2.2.2.2.2.2.2.2.2.2.1, st.2.2.2.2.2.2.2.2.2.2.2.2.2.2.2.1, st.2.2.2.2.2.2.2.2.2.2.2.2.2.2.2.2.1, st.2.2.2.2.2.2.2.2.2.2.2.2.2.2.2.2.2.1, st.2.2.2.2.2.2.2.2.2.2.2.2.2.2.2.2.2.2.1, st.2.2.2.2.2.2.2.2.2.2.2.2.2.2.2.2.2.2.2)) else (F_X11_back_1 (st.1) (st.2.2.2.2.2.2.2.2.2.1) (st.2.2.2.2.2.2.2.2.2.2.1) (st.2.2.2.2.2.2.2.2.2.2.2.2.2.1) a1).map fun q => (q.1, (st.1, st.2.1, st.2.2.1, st.2.2.2.1, st.2.2.2.2.1, st.2.2.2.2.2.1, st.2.2.2.2.2.2.1, st.2.2.2.2.2.2.2.1, st.2.2.2.2.2.2.2.2.1, st.2.2.2.2.2.2.2.2.2.1, st.2.2.2.2.2.2.2.2.2.2.1, st.2.2.2.2.2.2.2.2.2.2.2.1, st.2.2.2.2.2.2.2.2.2.2.2.2.1, q.2, st.2.2.2.2.2.2.2.2.2.2.2.2.2.2.1, st.2.2.2.2.2.2.2.2.2.2.2.2.2.2.2.1, st.2.2.2.2.2.2.2.2.2.2.2.2.2.2.2.2.1, st.2.2.2.2.2.2.2.2.2.2.2.2.2.2.2.2.2.1, st.2.2.2.2.2.2.2.2.2.2.2.2.2.2.2.2.2.2.1, st.2.2.2.2.2.2.2.2.2.2.2.2.2.2.2.2.2.2.2))
def M_back (ms : SM) (a1 : Int32) : Option (Int32 × SM) := (F_X12_back ms a1).map fun q => (q.1, q.2)
def X_count (st : SX) (a1 : Int32) : Option (Int32 × SX) := (F_X11_count (st.1) (st.2.1) (st.2.2.2.2.2.2.2.2.2.2.1) (st.2.2.2.2.2.2.2.2.2.2.2.2.1) (st.2.2.2.2.2.2.2.2.2.2.2.2.2.1) (st.2.2.2.2.2.2.2.2.2.2.2.2.2.2.1) (st.2.2.2.2.2.2.2.2.2.2.2.1) a1).map fun q => (q, (st.1, st.2.1, st.2.2.1, st.2.2.2.1, st.2.2.2.2.1, st.2.2.2.2.2.1, st.2.2.2.2.2.2.1, st.2.2.2.2.2.2.2.1, st.2.2.2.2.2.2.2.2.1, st.2.2.2.2.2.2.2.2.2.1, st.2.2.2.2.2.2.2.2.2.2.1, st.2.2.2.2.2.2.2.2.2.2.2.1, st.2.2.2.2.2.2.2.2.2.2.2.2.1, st.2.2.2.2.2.2.2.2.2.2.2.2.2.1, st.2.2.2.2.2.2.2.2.2.2.2.2.2.2.1, st.2.2.2.2.2.2.2.2.2.2.2.2.2.2.2.1, st.2.2.2.2.2.2.2.2.2.2.2.2.2.2.2.2.1, st.2.2.2.2.2.2.2.2.2.2.2.2.2.2.2.2.2.1, st.2.2.2.2.2.2.2.2.2.2.2.2.2.2.2.2.2.2.1, st.2.2.2.2.2.2.2.2.2.2.2.2.2.2.2.2.2.2.2))
def M_count (ms : SM) (a1 : Int32) : Option (Int32 × SM) := (F_X12_count ms a1).map fun q => (q.1, q.2)
def X_trace (st : SX) : Option (Int64 × SX) := (F_X11_trace (st.1)).map fun q => (q, (st.1, st.2.1, st.2.2.1, st.2.2.2.1, st.2.2.2.2.1, st.2.2.2.2.2.1, st.2.2.2.2.2.2.1, st.2.2.2.2.2.2.2.1, st.2.2.2.2.2.2.2.2.1, st.2.2.2.2.2.2.2.2.2.1, st.2.2.2.2.2.2.2.2.2.2.1, st.2.2.2.2.2.2.2.2.2.2.2.1, st.2.2.2.2.2.2.2.2.2.2.2.2.1, st.2.2.2.2.2.2.2.2.2.2.2.2.2.1, st.2.2.2.2.2.2.2.2.2.2.2.2.2.2.1, st.2.2.2.2.2.2.2.2.2.2.2.2.2.2.2.1, st.2.2.2.2.2.2.2.2.2.2.2.2.2.2.2.2.1, st.2.2.2.2.2.2.2.2.2.2.2.2.2.2.2.2.2.1, st.2.2.2.2.2.2.2.2.2.2.2.2.2.2.2.2.2.2.1, st.2.2.2.2.2.2.2.2.2.2.2.2.2.2.2.2.2.2.2))
def M_trace (ms : SM) : Option (Int64 × SM) := (F_X12_trace ms).map fun q => (q.1, q.2)
/-- from these two states every call is answered on both sides (alike, where the law compares), and J2 holds behind it -/
def StepOK (J2 : SX → SM → Prop) (st : SX) (ms : SM) : Prop := (∀ (a1 : Int64) (a2 : Int32), ∃ (r r2 : Int32) (st2 : SX) (ms2 : SM), X_type st a1 a2 = some (r, st2) ∧ M_type ms a1 a2 = some (r2, ms2) ∧ J2 st2 ms2) ∧ (∀ (_ : Unit), ∃ (r r2 : Int32) (st2 : SX) (ms2 : SM), X_clear st = some (r, st2) ∧ M_clear ms = some (r2, ms2) ∧ J2 st2 ms2) ∧ (∀ (_ : Unit), ∃ (r r2 : Int32) (st2 : SX) (ms2 : SM), X_read st = some (r, st2) ∧ M_read ms = some (r2, ms2) ∧ J2 st2 ms2) ∧ (∀ (a1 : Int32) (a2 : Int32), ∃ (r r2 : Int32) (st2 : SX) (ms2 : SM), X_word st a1 a2 = some (r, st2) ∧ M_word ms a1 a2 = some (r2, ms2) ∧ J2 st2 ms2) ∧ (∀ (a1 : Int32) (a2 : Int32), ∃ (r r2 : Int32) (st2 : SX) (ms2 : SM), X_form st a1 a2 = some (r, st2) ∧ M_form ms a1 a2 = some (r2, ms2) ∧ J2 st2 ms2) ∧ (∀ (a1 : Int32) (a2 : Int32), ∃ (r r2 : Int32) (st2 : SX) (ms2 : SM), X_metre st a1 a2 = some (r, st2) ∧ M_metre ms a1 a2 = some (r2, ms2) ∧ J2 st2 ms2) ∧ (∀ (a1 : Int32) (a2 : Int32), ∃ (r r2 : Int32) (st2 : SX) (ms2 : SM), X_line st a1 a2 = some (r, st2) ∧ M_line ms a1 a2 = some (r2, ms2) ∧ J2 st2 ms2) ∧ (∀ (a1 : Int32) (a2 : Int32), ∃ (r r2 : Int32) (st2 : SX) (ms2 : SM), X_stock st a1 a2 = some (r, st2) ∧ M_stock ms a1 a2 = some (r2, ms2) ∧ J2 st2 ms2) ∧ (∀ (a1 : Int32) (a2 : Int32) (a3 : Int32) (a4 : Int32), ∃ (r r2 : Int32) (st2 : SX) (ms2 : SM), X_put st a1 a2 a3 a4 = some (r, st2) ∧ M_put ms a1 a2 a3 a4 = some (r2, ms2) ∧ J2 st2 ms2) ∧ (∀ (a1 : Int32) (a2 : Int32), ∃ (r r2 : Int32) (st2 : SX) (ms2 : SM), X_change st a1 a2 = some (r, st2) ∧ M_change ms a1 a2 = some (r2, ms2) ∧ J2 st2 ms2) ∧ (∀ (a1 : Int32), ∃ (r r2 : Int32) (st2 : SX) (ms2 : SM), X_take st a1 = some (r, st2) ∧ M_take ms a1 = some (r2, ms2) ∧ J2 st2 ms2) ∧ (∀ (a1 : Int32) (a2 : Int32) (a3 : Int32) (a4 : Int32), ∃ (r r2 : Int32) (st2 : SX) (ms2 : SM), X_judged st a1 a2 a3 a4 = some (r, st2) ∧ M_judged ms a1 a2 a3 a4 = some (r2, ms2) ∧ J2 st2 ms2) ∧ (∀ (a1 : Int32) (a2 : Int32), ∃ (r r2 : Int32) (st2 : SX) (ms2 : SM), X_law st a1 a2 = some (r, st2) ∧ M_law ms a1 a2 = some (r2, ms2) ∧ J2 st2 ms2) ∧ (∀ (a1 : Int32) (a2 : Int32), ∃ (r r2 : Int32) (st2 : SX) (ms2 : SM), X_empty st a1 a2 = some (r, st2) ∧ M_empty ms a1 a2 = some (r2, ms2) ∧ J2 st2 ms2) ∧ (∀ (a1 : Int32) (a2 : Int32), ∃ (r r2 : Int32) (st2 : SX) (ms2 : SM), X_bound st a1 a2 = some (r, st2) ∧ M_bound ms a1 a2 = some (r2, ms2) ∧ J2 st2 ms2) ∧ (∀ (a1 : Int32) (a2 : Int32) (a3 : Int32), ∃ (r r2 : Int32) (st2 : SX) (ms2 : SM), X_struck st a1 a2 a3 = some (r, st2) ∧ M_struck ms a1 a2 a3 = some (r2, ms2) ∧ J2 st2 ms2) ∧ (∀ (a1 : Int32) (a2 : Int32), ∃ (r r2 : Int32) (st2 : SX) (ms2 : SM), X_key st a1 a2 = some (r, st2) ∧ M_key ms a1 a2 = some (r2, ms2) ∧ J2 st2 ms2) ∧ (∀ (a1 : Int32) (a2 : Int32) (a3 : Int32), ∃ (r r2 : Int32) (st2 : SX) (ms2 : SM), X_mended st a1 a2 a3 = some (r, st2) ∧ M_mended ms a1 a2 a3 = some (r2, ms2) ∧ J2 st2 ms2) ∧ (∀ (a1 : Int32) (a2 : Int32) (a3 : Int32) (a4 : Int32), ∃ (r r2 : Int32) (st2 : SX) (ms2 : SM), X_shortest st a1 a2 a3 a4 = some (r, st2) ∧ M_shortest ms a1 a2 a3 a4 = some (r2, ms2) ∧ J2 st2 ms2) ∧ (∀ (a1 : Int32), ∃ (r r2 : Int32) (st2 : SX) (ms2 : SM), X_both st a1 = some (r, st2) ∧ M_both ms a1 = some (r2, ms2) ∧ J2 st2 ms2) ∧ (∀ (a1 : Int32), ∃ (r r2 : Int32) (st2 : SX) (ms2 : SM), X_parting st a1 = some (r, st2) ∧ M_parting ms a1 = some (r2, ms2) ∧ J2 st2 ms2) ∧ (∀ (a1 : Int32) (a2 : Int32) (a3 : Int32), ∃ (r r2 : Int32) (st2 : SX) (ms2 : SM), X_forged st a1 a2 a3 = some (r, st2) ∧ M_forged ms a1 a2 a3 = some (r2, ms2) ∧ r = r2 ∧ J2 st2 ms2) ∧ (∀ (a1 : Int32) (a2 : Int32) (a3 : Int32) (a4 : Int32), ∃ (r r2 : Int64) (st2 : SX) (ms2 : SM), X_burnt st a1 a2 a3 a4 = some (r, st2) ∧ M_burnt ms a1 a2 a3 a4 = some (r2, ms2) ∧ J2 st2 ms2) ∧ (∀ (a1 : Int32) (a2 : Int32), ∃ (r r2 : Int32) (st2 : SX) (ms2 : SM), X_rate st a1 a2 = some (r, st2) ∧ M_rate ms a1 a2 = some (r2, ms2) ∧ J2 st2 ms2) ∧ (∀ (a1 : Int32), ∃ (r r2 : Int32) (st2 : SX) (ms2 : SM), X_keep st a1 = some (r, st2) ∧ M_keep ms a1 = some (r2, ms2) ∧ J2 st2 ms2) ∧ (∀ (a1 : Int32), ∃ (r r2 : Int32) (st2 : SX) (ms2 : SM), X_back st a1 = some (r, st2) ∧ M_back ms a1 = some (r2, ms2) ∧ J2 st2 ms2) ∧ (∀ (a1 : Int32), ∃ (r r2 : Int32) (st2 : SX) (ms2 : SM), X_count st a1 = some (r, st2) ∧ M_count ms a1 = some (r2, ms2) ∧ J2 st2 ms2) ∧ (∀ (_ : Unit), ∃ (r r2 : Int64) (st2 : SX) (ms2 : SM), X_trace st = some (r, st2) ∧ M_trace ms = some (r2, ms2) ∧ J2 st2 ms2)
def wL (cB cI cJ cZ : ClassId) (u : Nat → Nat → Nat) (st : SX) (tv : Value) (mo : Nat → Nat) (ms : SM) : List va_W := [gX11 (u 0) cB cI cJ cZ (u 1 0) (u 2 0) (u 3 0) (u 4 0) (u 5 0) (u 6 0) (u 8 0) (u 9 0) (.ref (u 10 0)) (.ref (u 15 0)) st.1, gX8 (u 1) cB cI cJ cZ st.2.1, gX9 (u 2) cB cI cJ cZ st.2.2.1, gX4 (u 3) cB cI cJ cZ st.2.2.2.1, gX3 (u 4) cB cI cJ cZ st.2.2.2.2.1, gX2 (u 5) cB cI cJ cZ st.2.2.2.2.2.1, gX0 (u 6) cB cI cJ cZ (u 7 0) tv st.2.2.2.2.2.2.1, gX4 (u 7) cB cI cJ cZ st.2.2.2.2.2.2.2.1, gX4 (u 8) cB cI cJ cZ st.2.2.2.2.2.2.2.2.1, gX4 (u 9) cB cI cJ cZ st.2.2.2.2.2.2.2.2.2.1, gX7 (u 10) cB cI cJ cZ (u 11 0) (u 12 0) (u 13 0) (u 14 0) st.2.2.2.2.2.2.2.2.2.2.1, gX10 (u 11) cB cI cJ cZ st.2.2.2.2.2.2.2.2.2.2.2.1, gX1 (u 12) cB cI cJ cZ st.2.2.2.2.2.2.2.2.2.2.2.2.1, gX4 (u 13) cB cI cJ cZ st.2.2.2.2.2.2.2.2.2.2.2.2.2.1, gX4 (u 14) cB cI cJ cZ st.2.2.2.2.2.2.2.2.2.2.2.2.2.2.1, gX7 (u 15) cB cI cJ cZ (u 16 0) (u 17 0) (u 18 0) (u 19 0) st.2.2.2.2.2.2.2.2.2.2.2.2.2.2.2.1, gX10 (u 16) cB cI cJ cZ st.2.2.2.2.2.2.2.2.2.2.2.2.2.2.2.2.1, gX1 (u 17) cB cI cJ cZ st.2.2.2.2.2.2.2.2.2.2.2.2.2.2.2.2.2.1, gX4 (u 18) cB cI cJ cZ st.2.2.2.2.2.2.2.2.2.2.2.2.2.2.2.2.2.2.1, gX4 (u 19) cB cI cJ cZ st.2.2.2.2.2.2.2.2.2.2.2.2.2.2.2.2.2.2.2, wX12 mo cB cI cJ cZ ms]
theorem omap {α β : Type} {o : Option α} {f : α → β} {b : β} {P : Prop} (h : o.map f = some b) (k : ∀ a, o = some a → f a = b → P) : P := by
  cases o with
  | none => simp at h
  | some a => exact k a rfl (Option.some.inj h)
section LW
variable {p : Program} {l : Launch} {e : Env} {R : Room} {s : State} {m : MethodId} {args : Array Value} {below : List Frame} {meth : Method} {c : Code} {D : gG} {tys : List (ClassId × FieldType)} {A : Nat → Prop} {nL : Nat} {Q : State → Prop} {cells slots : Nat} {cc : ByteArray} {own : String}
variable {ws : va_W} {L0 L' : List (Nat × Value)} {pc : Nat} {stk : List Value}
theorem g_sld {b L : Nat} {xs : Nat → Int32} {i : Int32} (cx : gX p s m args meth c cc nL own D tys A) (hX : va_X b L xs s s.heap) (hbl : b < s.heap.size) (hbA : ¬ A b) (hin : vp_in i L) (hd : decode cc pc = .ok (.iaload, 1)) (kk : gW p l e R s m args below meth c D A nL Q cells slots ws L0 (pc + 1) (.int (xs i.toNatClampNeg) :: stk)) : gW p l e R s m args below meth c D A nL Q cells slots ws L0 pc (.int i :: .ref b :: stk) :=
  fun hc H locs ls hP hD hS h => va_sld cx.1 cx.2.1 hX hbl hbA hS hin hd (kk hc H locs ls hP hD hS h)
theorem g_slen {b L : Nat} {xs : Nat → Int32} (cx : gX p s m args meth c cc nL own D tys A) (hX : va_X b L xs s s.heap) (hbl : b < s.heap.size) (hbA : ¬ A b) (hd : decode cc pc = .ok (.arraylength, 1)) (kk : gW p l e R s m args below meth c D A nL Q cells slots ws L0 (pc + 1) (.int (nI L) :: stk)) : gW p l e R s m args below meth c D A nL Q cells slots ws L0 pc (.ref b :: stk) :=
  fun hc H locs ls hP hD hS h => va_slen cx.1 cx.2.1 hX hbl hbA hS hd (kk hc H locs ls hP hD hS h)
theorem g_inc0 (cx : gX p s m args meth c cc nL own D tys A) {i : Nat} {n : Int} {x v : Int32} (j : Nat) (hd : decode cc pc = .ok (.iinc i n, 3)) (hk : L0[j]? = some (i, .int x)) (hv : x + Int32.ofInt n = v) (hn : i < nL) (hl : (i, Value.int v) :: L0.filter (fun q => !(q.1 == i) && !(q.1 + 1 == i && q.2.category == 2)) = L') (kk : gW p l e R s m args below meth c D A nL Q cells slots ws L' (pc + 3) stk) : gW p l e R s m args below meth c D A nL Q cells slots ws L0 pc stk :=
  fun hc H locs ls hP hD hS h => lv_iinc cx.1 cx.2.1 hd h hk hv hn hl (fun ls2 h2 => kk hc H locs ls2 hP hD hS h2)
theorem g_is0 (cx : gX p s m args meth c cc nL own D tys A) {k : Fin 4} {x : Int32} (hd : decode cc pc = .ok (.istore_n k, 1)) (hn : (k : Nat) < nL) (hl : ((k : Nat), Value.int x) :: L0.filter (fun q => !(q.1 == (k : Nat)) && !(q.1 + 1 == (k : Nat) && q.2.category == 2)) = L') (kk : gW p l e R s m args below meth c D A nL Q cells slots ws L' (pc + 1) stk) : gW p l e R s m args below meth c D A nL Q cells slots ws L0 pc (.int x :: stk) :=
  fun hc H locs ls hP hD hS h => lv_istore_n cx.1 cx.2.1 hd rfl h hn hl (fun ls2 h2 => kk hc H locs ls2 hP hD hS h2)
theorem g_cgt (cx : gX p s m args meth c cc nL own D tys A) {x y : Int32} {off : Int} {tgt : Nat} (hd : decode cc pc = .ok (.if_icmp .gt off, 3)) (ht : (pc : Int) + off = (tgt : Int)) (k1 : y < x → gW p l e R s m args below meth c D A nL Q cells slots ws L0 tgt stk) (k2 : ¬ y < x → gW p l e R s m args below meth c D A nL Q cells slots ws L0 (pc + 3) stk) : gW p l e R s m args below meth c D A nL Q cells slots ws L0 pc (.int y :: .int x :: stk) :=
  fun hc H locs ls hP hD hS h => lv_icmp_gt cx.1 cx.2.1 hd ht (fun q => k1 q hc H locs ls hP hD hS h) (fun q => k2 q hc H locs ls hP hD hS h)
theorem g_ceqT (cx : gX p s m args meth c cc nL own D tys A) {x y : Int32} {off : Int} {tgt : Nat} (hxy : x = y) (hd : decode cc pc = .ok (.if_icmp .eq off, 3)) (ht : (pc : Int) + off = (tgt : Int)) (k1 : gW p l e R s m args below meth c D A nL Q cells slots ws L0 tgt stk) : gW p l e R s m args below meth c D A nL Q cells slots ws L0 pc (.int y :: .int x :: stk) :=
  fun hc H locs ls hP hD hS h => lv_icmp_eq cx.1 cx.2.1 hd ht (fun _ => k1 hc H locs ls hP hD hS h) (fun q => absurd hxy q)
theorem g_ieqT (cx : gX p s m args meth c cc nL own D tys A) {x : Int32} {off : Int} {tgt : Nat} (hx : x = 0) (hd : decode cc pc = .ok (.ifCond .eq off, 3)) (ht : (pc : Int) + off = (tgt : Int)) (k1 : gW p l e R s m args below meth c D A nL Q cells slots ws L0 tgt stk) : gW p l e R s m args below meth c D A nL Q cells slots ws L0 pc (.int x :: stk) :=
  fun hc H locs ls hP hD hS h => lv_if_eq cx.1 cx.2.1 hd ht (fun _ => k1 hc H locs ls hP hD hS h) (fun q => absurd hx q)
theorem g_pop2 (cx : gX p s m args meth c cc nL own D tys A) {x : Int64} (hd : decode cc pc = .ok (.pop2, 1)) (kk : gW p l e R s m args below meth c D A nL Q cells slots ws L0 (pc + 1) stk) : gW p l e R s m args below meth c D A nL Q cells slots ws L0 pc (.long x :: stk) :=
  fun hc H locs ls hP hD hS h => lv_pop2_2 cx.1 cx.2.1 hd rfl (kk hc H locs ls hP hD hS h)
theorem g_perm {gs gs2 : List va_W} (is : List Nat) (hG : is.map (fun i => gs[i]?) = gs2.map some) (hn : va_nd is = true) (kk : gW p l e R s m args below meth c D A nL Q cells slots gs2.flatten L0 pc stk) : gW p l e R s m args below meth c D A nL Q cells slots gs.flatten L0 pc stk :=
  fun hc H locs ls hP hD hS h => kk hc H locs ls (grp_P hP hG) (grp_D hD hG hn) hS h
end LW
theorem lg_same (x : Int64) : lg_cmp x x = 0 := by unfold lg_cmp; simp
theorem sw_27 {x : Int32} (h0 : ¬ x = 0) (h1 : ¬ x = 1) (h2 : ¬ x = 2) (h3 : ¬ x = 3) (h4 : ¬ x = 4) (h5 : ¬ x = 5) (h6 : ¬ x = 6) (h7 : ¬ x = 7) (h8 : ¬ x = 8) (h9 : ¬ x = 9) (h10 : ¬ x = 10) (h11 : ¬ x = 11) (h12 : ¬ x = 12) (h13 : ¬ x = 13) (h14 : ¬ x = 14) (h15 : ¬ x = 15) (h16 : ¬ x = 16) (h17 : ¬ x = 17) (h18 : ¬ x = 18) (h19 : ¬ x = 19) (h20 : ¬ x = 20) (h21 : ¬ x = 21) (h22 : ¬ x = 22) (h23 : ¬ x = 23) (h24 : ¬ x = 24) (h25 : ¬ x = 25) (h26 : ¬ x = 26) (h27 : ¬ x = 27) : ∀ n : Nat, n ≤ 27 → ¬ x = nI n := by
  intro n hn
  match n, hn with
  | 0, _ => exact h0
  | 1, _ => exact h1
  | 2, _ => exact h2
  | 3, _ => exact h3
  | 4, _ => exact h4
  | 5, _ => exact h5
  | 6, _ => exact h6
  | 7, _ => exact h7
  | 8, _ => exact h8
  | 9, _ => exact h9
  | 10, _ => exact h10
  | 11, _ => exact h11
  | 12, _ => exact h12
  | 13, _ => exact h13
  | 14, _ => exact h14
  | 15, _ => exact h15
  | 16, _ => exact h16
  | 17, _ => exact h17
  | 18, _ => exact h18
  | 19, _ => exact h19
  | 20, _ => exact h20
  | 21, _ => exact h21
  | 22, _ => exact h22
  | 23, _ => exact h23
  | 24, _ => exact h24
  | 25, _ => exact h25
  | 26, _ => exact h26
  | 27, _ => exact h27
  | k + 28, h => exact absurd h (by omega)

def tL_law_69 : List Nat := 132 :: 3 :: 5 :: 167 :: 251 :: 191 :: 4 :: 172 :: []
def tL_law_68 : List Nat := 167 :: 0 :: 16 :: 43 :: 182 :: 0 :: 130 :: 88 :: 44 :: 182 :: 0 :: 134 :: 88 :: 167 :: 0 :: 3 :: tL_law_69
def tL_law_67 : List Nat := 96 :: 46 :: 182 :: 0 :: 126 :: 87 :: 44 :: 42 :: 29 :: 4 :: 96 :: 46 :: 182 :: 0 :: 129 :: 87 :: tL_law_68
def tL_law_66 : List Nat := 42 :: 29 :: 4 :: 96 :: 46 :: 182 :: 0 :: 125 :: 87 :: 167 :: 0 :: 39 :: 43 :: 42 :: 29 :: 4 :: tL_law_67
def tL_law_65 : List Nat := 121 :: 87 :: 167 :: 0 :: 62 :: 43 :: 42 :: 29 :: 4 :: 96 :: 46 :: 182 :: 0 :: 122 :: 87 :: 44 :: tL_law_66
def tL_law_64 : List Nat := 29 :: 4 :: 96 :: 46 :: 182 :: 0 :: 118 :: 87 :: 44 :: 42 :: 29 :: 4 :: 96 :: 46 :: 182 :: 0 :: tL_law_65
def tL_law_63 : List Nat := 96 :: 46 :: 42 :: 29 :: 5 :: 96 :: 46 :: 182 :: 0 :: 117 :: 87 :: 167 :: 0 :: 85 :: 43 :: 42 :: tL_law_64
def tL_law_62 : List Nat := 4 :: 96 :: 46 :: 42 :: 29 :: 5 :: 96 :: 46 :: 182 :: 0 :: 114 :: 87 :: 44 :: 42 :: 29 :: 4 :: tL_law_63
def tL_law_61 : List Nat := 46 :: 42 :: 29 :: 7 :: 96 :: 46 :: 182 :: 0 :: 113 :: 88 :: 167 :: 0 :: 118 :: 43 :: 42 :: 29 :: tL_law_62
def tL_law_60 : List Nat := 88 :: 44 :: 42 :: 29 :: 4 :: 96 :: 46 :: 42 :: 29 :: 5 :: 96 :: 46 :: 42 :: 29 :: 6 :: 96 :: tL_law_61
def tL_law_59 : List Nat := 5 :: 96 :: 46 :: 42 :: 29 :: 6 :: 96 :: 46 :: 42 :: 29 :: 7 :: 96 :: 46 :: 182 :: 0 :: 109 :: tL_law_60
def tL_law_58 : List Nat := 182 :: 0 :: 108 :: 159 :: 0 :: 173 :: 3 :: 172 :: 43 :: 42 :: 29 :: 4 :: 96 :: 46 :: 42 :: 29 :: tL_law_59
def tL_law_57 : List Nat := 44 :: 42 :: 29 :: 4 :: 96 :: 46 :: 42 :: 29 :: 5 :: 96 :: 46 :: 42 :: 29 :: 6 :: 96 :: 46 :: tL_law_58
def tL_law_56 : List Nat := 4 :: 96 :: 46 :: 42 :: 29 :: 5 :: 96 :: 46 :: 42 :: 29 :: 6 :: 96 :: 46 :: 182 :: 0 :: 105 :: tL_law_57
def tL_law_55 : List Nat := 44 :: 42 :: 29 :: 4 :: 96 :: 46 :: 182 :: 0 :: 104 :: 87 :: 167 :: 0 :: 214 :: 43 :: 42 :: 29 :: tL_law_56
def tL_law_54 : List Nat := 0 :: 100 :: 87 :: 167 :: 0 :: 237 :: 43 :: 42 :: 29 :: 4 :: 96 :: 46 :: 182 :: 0 :: 101 :: 87 :: tL_law_55
def tL_law_53 : List Nat := 42 :: 29 :: 4 :: 96 :: 46 :: 182 :: 0 :: 97 :: 87 :: 44 :: 42 :: 29 :: 4 :: 96 :: 46 :: 182 :: tL_law_54
def tL_law_52 : List Nat := 6 :: 96 :: 46 :: 42 :: 29 :: 7 :: 96 :: 46 :: 182 :: 0 :: 96 :: 87 :: 167 :: 1 :: 4 :: 43 :: tL_law_53
def tL_law_51 : List Nat := 0 :: 93 :: 87 :: 44 :: 42 :: 29 :: 4 :: 96 :: 46 :: 42 :: 29 :: 5 :: 96 :: 46 :: 42 :: 29 :: tL_law_52
def tL_law_50 : List Nat := 42 :: 29 :: 5 :: 96 :: 46 :: 42 :: 29 :: 6 :: 96 :: 46 :: 42 :: 29 :: 7 :: 96 :: 46 :: 182 :: tL_law_51
def tL_law_49 : List Nat := 6 :: 96 :: 46 :: 182 :: 0 :: 92 :: 87 :: 167 :: 1 :: 57 :: 43 :: 42 :: 29 :: 4 :: 96 :: 46 :: tL_law_50
def tL_law_48 : List Nat := 0 :: 89 :: 87 :: 44 :: 42 :: 29 :: 4 :: 96 :: 46 :: 42 :: 29 :: 5 :: 96 :: 46 :: 42 :: 29 :: tL_law_49
def tL_law_47 : List Nat := 42 :: 29 :: 4 :: 96 :: 46 :: 42 :: 29 :: 5 :: 96 :: 46 :: 42 :: 29 :: 6 :: 96 :: 46 :: 182 :: tL_law_48
def tL_law_46 : List Nat := 4 :: 96 :: 46 :: 42 :: 29 :: 5 :: 96 :: 46 :: 182 :: 0 :: 88 :: 87 :: 167 :: 1 :: 100 :: 43 :: tL_law_47
def tL_law_45 : List Nat := 29 :: 4 :: 96 :: 46 :: 42 :: 29 :: 5 :: 96 :: 46 :: 182 :: 0 :: 85 :: 87 :: 44 :: 42 :: 29 :: tL_law_46
def tL_law_44 : List Nat := 96 :: 46 :: 42 :: 29 :: 6 :: 96 :: 46 :: 182 :: 0 :: 84 :: 87 :: 167 :: 1 :: 133 :: 43 :: 42 :: tL_law_45
def tL_law_43 : List Nat := 6 :: 96 :: 46 :: 182 :: 0 :: 80 :: 87 :: 44 :: 42 :: 29 :: 4 :: 96 :: 46 :: 42 :: 29 :: 5 :: tL_law_44
def tL_law_42 : List Nat := 167 :: 1 :: 176 :: 43 :: 42 :: 29 :: 4 :: 96 :: 46 :: 42 :: 29 :: 5 :: 96 :: 46 :: 42 :: 29 :: tL_law_43
def tL_law_41 : List Nat := 87 :: 44 :: 42 :: 29 :: 4 :: 96 :: 46 :: 42 :: 29 :: 5 :: 96 :: 46 :: 182 :: 0 :: 79 :: 87 :: tL_law_42
def tL_law_40 : List Nat := 1 :: 209 :: 43 :: 42 :: 29 :: 4 :: 96 :: 46 :: 42 :: 29 :: 5 :: 96 :: 46 :: 182 :: 0 :: 76 :: tL_law_41
def tL_law_39 : List Nat := 44 :: 42 :: 29 :: 4 :: 96 :: 46 :: 42 :: 29 :: 5 :: 96 :: 46 :: 182 :: 0 :: 75 :: 87 :: 167 :: tL_law_40
def tL_law_38 : List Nat := 242 :: 43 :: 42 :: 29 :: 4 :: 96 :: 46 :: 42 :: 29 :: 5 :: 96 :: 46 :: 182 :: 0 :: 72 :: 87 :: tL_law_39
def tL_law_37 : List Nat := 42 :: 29 :: 4 :: 96 :: 46 :: 42 :: 29 :: 5 :: 96 :: 46 :: 182 :: 0 :: 71 :: 87 :: 167 :: 1 :: tL_law_38
def tL_law_36 : List Nat := 43 :: 42 :: 29 :: 4 :: 96 :: 46 :: 42 :: 29 :: 5 :: 96 :: 46 :: 182 :: 0 :: 68 :: 87 :: 44 :: tL_law_37
def tL_law_35 : List Nat := 29 :: 6 :: 96 :: 46 :: 42 :: 29 :: 7 :: 96 :: 46 :: 182 :: 0 :: 67 :: 87 :: 167 :: 2 :: 19 :: tL_law_36
def tL_law_34 : List Nat := 182 :: 0 :: 64 :: 87 :: 44 :: 42 :: 29 :: 4 :: 96 :: 46 :: 42 :: 29 :: 5 :: 96 :: 46 :: 42 :: tL_law_35
def tL_law_33 : List Nat := 46 :: 42 :: 29 :: 5 :: 96 :: 46 :: 42 :: 29 :: 6 :: 96 :: 46 :: 42 :: 29 :: 7 :: 96 :: 46 :: tL_law_34
def tL_law_32 : List Nat := 29 :: 4 :: 96 :: 46 :: 182 :: 0 :: 63 :: 87 :: 167 :: 2 :: 72 :: 43 :: 42 :: 29 :: 4 :: 96 :: tL_law_33
def tL_law_31 : List Nat := 87 :: 167 :: 2 :: 95 :: 43 :: 42 :: 29 :: 4 :: 96 :: 46 :: 182 :: 0 :: 59 :: 87 :: 44 :: 42 :: tL_law_32
def tL_law_30 : List Nat := 55 :: 87 :: 44 :: 42 :: 29 :: 4 :: 96 :: 46 :: 42 :: 29 :: 5 :: 96 :: 46 :: 182 :: 0 :: 58 :: tL_law_31
def tL_law_29 : List Nat := 167 :: 2 :: 128 :: 43 :: 42 :: 29 :: 4 :: 96 :: 46 :: 42 :: 29 :: 5 :: 96 :: 46 :: 182 :: 0 :: tL_law_30
def tL_law_28 : List Nat := 96 :: 46 :: 42 :: 29 :: 6 :: 96 :: 46 :: 42 :: 29 :: 7 :: 96 :: 46 :: 182 :: 0 :: 54 :: 87 :: tL_law_29
def tL_law_27 : List Nat := 7 :: 96 :: 46 :: 182 :: 0 :: 50 :: 87 :: 44 :: 42 :: 29 :: 4 :: 96 :: 46 :: 42 :: 29 :: 5 :: tL_law_28
def tL_law_26 : List Nat := 29 :: 4 :: 96 :: 46 :: 42 :: 29 :: 5 :: 96 :: 46 :: 42 :: 29 :: 6 :: 96 :: 46 :: 42 :: 29 :: tL_law_27
def tL_law_25 : List Nat := 96 :: 46 :: 42 :: 29 :: 5 :: 96 :: 46 :: 182 :: 0 :: 49 :: 87 :: 167 :: 2 :: 181 :: 43 :: 42 :: tL_law_26
def tL_law_24 : List Nat := 4 :: 96 :: 46 :: 42 :: 29 :: 5 :: 96 :: 46 :: 182 :: 0 :: 46 :: 87 :: 44 :: 42 :: 29 :: 4 :: tL_law_25
def tL_law_23 : List Nat := 46 :: 42 :: 29 :: 5 :: 96 :: 46 :: 182 :: 0 :: 45 :: 87 :: 167 :: 2 :: 214 :: 43 :: 42 :: 29 :: tL_law_24
def tL_law_22 : List Nat := 96 :: 46 :: 42 :: 29 :: 5 :: 96 :: 46 :: 182 :: 0 :: 42 :: 87 :: 44 :: 42 :: 29 :: 4 :: 96 :: tL_law_23
def tL_law_21 : List Nat := 42 :: 29 :: 5 :: 96 :: 46 :: 182 :: 0 :: 41 :: 87 :: 167 :: 2 :: 247 :: 43 :: 42 :: 29 :: 4 :: tL_law_22
def tL_law_20 : List Nat := 46 :: 42 :: 29 :: 5 :: 96 :: 46 :: 182 :: 0 :: 38 :: 87 :: 44 :: 42 :: 29 :: 4 :: 96 :: 46 :: tL_law_21
def tL_law_19 : List Nat := 29 :: 5 :: 96 :: 46 :: 182 :: 0 :: 37 :: 87 :: 167 :: 3 :: 24 :: 43 :: 42 :: 29 :: 4 :: 96 :: tL_law_20
def tL_law_18 : List Nat := 42 :: 29 :: 5 :: 96 :: 46 :: 182 :: 0 :: 34 :: 87 :: 44 :: 42 :: 29 :: 4 :: 96 :: 46 :: 42 :: tL_law_19
def tL_law_17 : List Nat := 5 :: 96 :: 46 :: 182 :: 0 :: 33 :: 87 :: 167 :: 3 :: 57 :: 43 :: 42 :: 29 :: 4 :: 96 :: 46 :: tL_law_18
def tL_law_16 : List Nat := 29 :: 5 :: 96 :: 46 :: 182 :: 0 :: 29 :: 87 :: 44 :: 42 :: 29 :: 4 :: 96 :: 46 :: 42 :: 29 :: tL_law_17
def tL_law_15 : List Nat := 87 :: 44 :: 182 :: 0 :: 28 :: 87 :: 167 :: 3 :: 90 :: 43 :: 42 :: 29 :: 4 :: 96 :: 46 :: 42 :: tL_law_16
def tL_law_14 : List Nat := 182 :: 0 :: 20 :: 87 :: 44 :: 182 :: 0 :: 24 :: 87 :: 167 :: 3 :: 103 :: 43 :: 182 :: 0 :: 25 :: tL_law_15
def tL_law_13 : List Nat := 13 :: 127 :: 129 :: 42 :: 29 :: 6 :: 96 :: 46 :: 182 :: 0 :: 19 :: 87 :: 167 :: 3 :: 116 :: 43 :: tL_law_14
def tL_law_12 : List Nat := 29 :: 4 :: 96 :: 46 :: 133 :: 16 :: 32 :: 121 :: 42 :: 29 :: 5 :: 96 :: 46 :: 133 :: 20 :: 0 :: tL_law_13
def tL_law_11 : List Nat := 20 :: 0 :: 13 :: 127 :: 129 :: 42 :: 29 :: 6 :: 96 :: 46 :: 182 :: 0 :: 15 :: 87 :: 44 :: 42 :: tL_law_12
def tL_law_10 : List Nat := 43 :: 42 :: 29 :: 4 :: 96 :: 46 :: 133 :: 16 :: 32 :: 121 :: 42 :: 29 :: 5 :: 96 :: 46 :: 133 :: tL_law_11
def tL_law_9 : List Nat := 0 :: 0 :: 3 :: 222 :: 0 :: 0 :: 3 :: 245 :: 0 :: 0 :: 4 :: 12 :: 0 :: 0 :: 4 :: 35 :: tL_law_10
def tL_law_8 : List Nat := 0 :: 0 :: 3 :: 70 :: 0 :: 0 :: 3 :: 93 :: 0 :: 0 :: 3 :: 136 :: 0 :: 0 :: 3 :: 189 :: tL_law_9
def tL_law_7 : List Nat := 0 :: 0 :: 2 :: 174 :: 0 :: 0 :: 2 :: 207 :: 0 :: 0 :: 2 :: 250 :: 0 :: 0 :: 3 :: 47 :: tL_law_8
def tL_law_6 : List Nat := 0 :: 0 :: 2 :: 32 :: 0 :: 0 :: 2 :: 65 :: 0 :: 0 :: 2 :: 98 :: 0 :: 0 :: 2 :: 131 :: tL_law_7
def tL_law_5 : List Nat := 0 :: 0 :: 1 :: 126 :: 0 :: 0 :: 1 :: 179 :: 0 :: 0 :: 1 :: 212 :: 0 :: 0 :: 1 :: 235 :: tL_law_6
def tL_law_4 : List Nat := 0 :: 0 :: 0 :: 250 :: 0 :: 0 :: 1 :: 27 :: 0 :: 0 :: 1 :: 60 :: 0 :: 0 :: 1 :: 93 :: tL_law_5
def tL_law_3 : List Nat := 0 :: 0 :: 0 :: 128 :: 0 :: 0 :: 0 :: 191 :: 0 :: 0 :: 0 :: 204 :: 0 :: 0 :: 0 :: 217 :: tL_law_4
def tL_law_2 : List Nat := 170 :: 0 :: 0 :: 0 :: 0 :: 0 :: 4 :: 48 :: 0 :: 0 :: 0 :: 0 :: 0 :: 0 :: 0 :: 27 :: tL_law_3
def tL_law_1 : List Nat := 3 :: 62 :: 29 :: 42 :: 190 :: 8 :: 100 :: 163 :: 4 :: 63 :: 42 :: 29 :: 46 :: 16 :: 31 :: 126 :: tL_law_2
def tL_law_0 : List Nat := 187 :: 0 :: 7 :: 89 :: 183 :: 0 :: 9 :: 76 :: 187 :: 0 :: 10 :: 89 :: 183 :: 0 :: 12 :: 77 :: tL_law_1
theorem tL_lawf_0 : (cL_law.data.toList.map UInt8.toNat).drop 0 = tL_law_0 := by decide +kernel
theorem tL_lawf_1 : (cL_law.data.toList.map UInt8.toNat).drop 16 = tL_law_1 := fd_next (k := 0) tL_lawf_0 rfl
theorem tL_lawf_2 : (cL_law.data.toList.map UInt8.toNat).drop 32 = tL_law_2 := fd_next (k := 16) tL_lawf_1 rfl
theorem tL_lawf_3 : (cL_law.data.toList.map UInt8.toNat).drop 48 = tL_law_3 := fd_next (k := 32) tL_lawf_2 rfl
theorem tL_lawf_4 : (cL_law.data.toList.map UInt8.toNat).drop 64 = tL_law_4 := fd_next (k := 48) tL_lawf_3 rfl
theorem tL_lawf_5 : (cL_law.data.toList.map UInt8.toNat).drop 80 = tL_law_5 := fd_next (k := 64) tL_lawf_4 rfl
theorem tL_lawf_6 : (cL_law.data.toList.map UInt8.toNat).drop 96 = tL_law_6 := fd_next (k := 80) tL_lawf_5 rfl
theorem tL_lawf_7 : (cL_law.data.toList.map UInt8.toNat).drop 112 = tL_law_7 := fd_next (k := 96) tL_lawf_6 rfl
theorem tL_lawf_8 : (cL_law.data.toList.map UInt8.toNat).drop 128 = tL_law_8 := fd_next (k := 112) tL_lawf_7 rfl
theorem tL_lawf_9 : (cL_law.data.toList.map UInt8.toNat).drop 144 = tL_law_9 := fd_next (k := 128) tL_lawf_8 rfl
theorem tL_lawf_10 : (cL_law.data.toList.map UInt8.toNat).drop 160 = tL_law_10 := fd_next (k := 144) tL_lawf_9 rfl
theorem tL_lawf_11 : (cL_law.data.toList.map UInt8.toNat).drop 176 = tL_law_11 := fd_next (k := 160) tL_lawf_10 rfl
theorem tL_lawf_12 : (cL_law.data.toList.map UInt8.toNat).drop 192 = tL_law_12 := fd_next (k := 176) tL_lawf_11 rfl
theorem tL_lawf_13 : (cL_law.data.toList.map UInt8.toNat).drop 208 = tL_law_13 := fd_next (k := 192) tL_lawf_12 rfl
theorem tL_lawf_14 : (cL_law.data.toList.map UInt8.toNat).drop 224 = tL_law_14 := fd_next (k := 208) tL_lawf_13 rfl
theorem tL_lawf_15 : (cL_law.data.toList.map UInt8.toNat).drop 240 = tL_law_15 := fd_next (k := 224) tL_lawf_14 rfl
theorem tL_lawf_16 : (cL_law.data.toList.map UInt8.toNat).drop 256 = tL_law_16 := fd_next (k := 240) tL_lawf_15 rfl
theorem tL_lawf_17 : (cL_law.data.toList.map UInt8.toNat).drop 272 = tL_law_17 := fd_next (k := 256) tL_lawf_16 rfl
theorem tL_lawf_18 : (cL_law.data.toList.map UInt8.toNat).drop 288 = tL_law_18 := fd_next (k := 272) tL_lawf_17 rfl
theorem tL_lawf_19 : (cL_law.data.toList.map UInt8.toNat).drop 304 = tL_law_19 := fd_next (k := 288) tL_lawf_18 rfl
theorem tL_lawf_20 : (cL_law.data.toList.map UInt8.toNat).drop 320 = tL_law_20 := fd_next (k := 304) tL_lawf_19 rfl
theorem tL_lawf_21 : (cL_law.data.toList.map UInt8.toNat).drop 336 = tL_law_21 := fd_next (k := 320) tL_lawf_20 rfl
theorem tL_lawf_22 : (cL_law.data.toList.map UInt8.toNat).drop 352 = tL_law_22 := fd_next (k := 336) tL_lawf_21 rfl
theorem tL_lawf_23 : (cL_law.data.toList.map UInt8.toNat).drop 368 = tL_law_23 := fd_next (k := 352) tL_lawf_22 rfl
theorem tL_lawf_24 : (cL_law.data.toList.map UInt8.toNat).drop 384 = tL_law_24 := fd_next (k := 368) tL_lawf_23 rfl
theorem tL_lawf_25 : (cL_law.data.toList.map UInt8.toNat).drop 400 = tL_law_25 := fd_next (k := 384) tL_lawf_24 rfl
theorem tL_lawf_26 : (cL_law.data.toList.map UInt8.toNat).drop 416 = tL_law_26 := fd_next (k := 400) tL_lawf_25 rfl
theorem tL_lawf_27 : (cL_law.data.toList.map UInt8.toNat).drop 432 = tL_law_27 := fd_next (k := 416) tL_lawf_26 rfl
theorem tL_lawf_28 : (cL_law.data.toList.map UInt8.toNat).drop 448 = tL_law_28 := fd_next (k := 432) tL_lawf_27 rfl
theorem tL_lawf_29 : (cL_law.data.toList.map UInt8.toNat).drop 464 = tL_law_29 := fd_next (k := 448) tL_lawf_28 rfl
theorem tL_lawf_30 : (cL_law.data.toList.map UInt8.toNat).drop 480 = tL_law_30 := fd_next (k := 464) tL_lawf_29 rfl
theorem tL_lawf_31 : (cL_law.data.toList.map UInt8.toNat).drop 496 = tL_law_31 := fd_next (k := 480) tL_lawf_30 rfl
theorem tL_lawf_32 : (cL_law.data.toList.map UInt8.toNat).drop 512 = tL_law_32 := fd_next (k := 496) tL_lawf_31 rfl
theorem tL_lawf_33 : (cL_law.data.toList.map UInt8.toNat).drop 528 = tL_law_33 := fd_next (k := 512) tL_lawf_32 rfl
theorem tL_lawf_34 : (cL_law.data.toList.map UInt8.toNat).drop 544 = tL_law_34 := fd_next (k := 528) tL_lawf_33 rfl
theorem tL_lawf_35 : (cL_law.data.toList.map UInt8.toNat).drop 560 = tL_law_35 := fd_next (k := 544) tL_lawf_34 rfl
theorem tL_lawf_36 : (cL_law.data.toList.map UInt8.toNat).drop 576 = tL_law_36 := fd_next (k := 560) tL_lawf_35 rfl
theorem tL_lawf_37 : (cL_law.data.toList.map UInt8.toNat).drop 592 = tL_law_37 := fd_next (k := 576) tL_lawf_36 rfl
theorem tL_lawf_38 : (cL_law.data.toList.map UInt8.toNat).drop 608 = tL_law_38 := fd_next (k := 592) tL_lawf_37 rfl
theorem tL_lawf_39 : (cL_law.data.toList.map UInt8.toNat).drop 624 = tL_law_39 := fd_next (k := 608) tL_lawf_38 rfl
theorem tL_lawf_40 : (cL_law.data.toList.map UInt8.toNat).drop 640 = tL_law_40 := fd_next (k := 624) tL_lawf_39 rfl
theorem tL_lawf_41 : (cL_law.data.toList.map UInt8.toNat).drop 656 = tL_law_41 := fd_next (k := 640) tL_lawf_40 rfl
theorem tL_lawf_42 : (cL_law.data.toList.map UInt8.toNat).drop 672 = tL_law_42 := fd_next (k := 656) tL_lawf_41 rfl
theorem tL_lawf_43 : (cL_law.data.toList.map UInt8.toNat).drop 688 = tL_law_43 := fd_next (k := 672) tL_lawf_42 rfl
theorem tL_lawf_44 : (cL_law.data.toList.map UInt8.toNat).drop 704 = tL_law_44 := fd_next (k := 688) tL_lawf_43 rfl
theorem tL_lawf_45 : (cL_law.data.toList.map UInt8.toNat).drop 720 = tL_law_45 := fd_next (k := 704) tL_lawf_44 rfl
theorem tL_lawf_46 : (cL_law.data.toList.map UInt8.toNat).drop 736 = tL_law_46 := fd_next (k := 720) tL_lawf_45 rfl
theorem tL_lawf_47 : (cL_law.data.toList.map UInt8.toNat).drop 752 = tL_law_47 := fd_next (k := 736) tL_lawf_46 rfl
theorem tL_lawf_48 : (cL_law.data.toList.map UInt8.toNat).drop 768 = tL_law_48 := fd_next (k := 752) tL_lawf_47 rfl
theorem tL_lawf_49 : (cL_law.data.toList.map UInt8.toNat).drop 784 = tL_law_49 := fd_next (k := 768) tL_lawf_48 rfl
theorem tL_lawf_50 : (cL_law.data.toList.map UInt8.toNat).drop 800 = tL_law_50 := fd_next (k := 784) tL_lawf_49 rfl
theorem tL_lawf_51 : (cL_law.data.toList.map UInt8.toNat).drop 816 = tL_law_51 := fd_next (k := 800) tL_lawf_50 rfl
theorem tL_lawf_52 : (cL_law.data.toList.map UInt8.toNat).drop 832 = tL_law_52 := fd_next (k := 816) tL_lawf_51 rfl
theorem tL_lawf_53 : (cL_law.data.toList.map UInt8.toNat).drop 848 = tL_law_53 := fd_next (k := 832) tL_lawf_52 rfl
theorem tL_lawf_54 : (cL_law.data.toList.map UInt8.toNat).drop 864 = tL_law_54 := fd_next (k := 848) tL_lawf_53 rfl
theorem tL_lawf_55 : (cL_law.data.toList.map UInt8.toNat).drop 880 = tL_law_55 := fd_next (k := 864) tL_lawf_54 rfl
theorem tL_lawf_56 : (cL_law.data.toList.map UInt8.toNat).drop 896 = tL_law_56 := fd_next (k := 880) tL_lawf_55 rfl
theorem tL_lawf_57 : (cL_law.data.toList.map UInt8.toNat).drop 912 = tL_law_57 := fd_next (k := 896) tL_lawf_56 rfl
theorem tL_lawf_58 : (cL_law.data.toList.map UInt8.toNat).drop 928 = tL_law_58 := fd_next (k := 912) tL_lawf_57 rfl
theorem tL_lawf_59 : (cL_law.data.toList.map UInt8.toNat).drop 944 = tL_law_59 := fd_next (k := 928) tL_lawf_58 rfl
theorem tL_lawf_60 : (cL_law.data.toList.map UInt8.toNat).drop 960 = tL_law_60 := fd_next (k := 944) tL_lawf_59 rfl
theorem tL_lawf_61 : (cL_law.data.toList.map UInt8.toNat).drop 976 = tL_law_61 := fd_next (k := 960) tL_lawf_60 rfl
theorem tL_lawf_62 : (cL_law.data.toList.map UInt8.toNat).drop 992 = tL_law_62 := fd_next (k := 976) tL_lawf_61 rfl
theorem tL_lawf_63 : (cL_law.data.toList.map UInt8.toNat).drop 1008 = tL_law_63 := fd_next (k := 992) tL_lawf_62 rfl
theorem tL_lawf_64 : (cL_law.data.toList.map UInt8.toNat).drop 1024 = tL_law_64 := fd_next (k := 1008) tL_lawf_63 rfl
theorem tL_lawf_65 : (cL_law.data.toList.map UInt8.toNat).drop 1040 = tL_law_65 := fd_next (k := 1024) tL_lawf_64 rfl
theorem tL_lawf_66 : (cL_law.data.toList.map UInt8.toNat).drop 1056 = tL_law_66 := fd_next (k := 1040) tL_lawf_65 rfl
theorem tL_lawf_67 : (cL_law.data.toList.map UInt8.toNat).drop 1072 = tL_law_67 := fd_next (k := 1056) tL_lawf_66 rfl
theorem tL_lawf_68 : (cL_law.data.toList.map UInt8.toNat).drop 1088 = tL_law_68 := fd_next (k := 1072) tL_lawf_67 rfl
theorem tL_lawf_69 : (cL_law.data.toList.map UInt8.toNat).drop 1104 = tL_law_69 := fd_next (k := 1088) tL_lawf_68 rfl
theorem dL_law_0 : decode cL_law 0 = .ok (.new 7, 3) := dk_187 (fdB_of (k := 0) tL_lawf_0 0 187 rfl) (fdB_of (k := 0) tL_lawf_0 1 0 rfl) (fdB_of (k := 0) tL_lawf_0 2 7 rfl)
theorem dL_law_3 : decode cL_law 3 = .ok (.dup, 1) := dk_89 (fdB_of (k := 0) tL_lawf_0 3 89 rfl)
theorem dL_law_4 : decode cL_law 4 = .ok (.invokespecial 9, 3) := dk_183 (fdB_of (k := 0) tL_lawf_0 4 183 rfl) (fdB_of (k := 0) tL_lawf_0 5 0 rfl) (fdB_of (k := 0) tL_lawf_0 6 9 rfl)
theorem dL_law_7 : decode cL_law 7 = .ok (.astore_n 1, 1) := dk_76 (fdB_of (k := 0) tL_lawf_0 7 76 rfl)
theorem dL_law_8 : decode cL_law 8 = .ok (.new 10, 3) := dk_187 (fdB_of (k := 0) tL_lawf_0 8 187 rfl) (fdB_of (k := 0) tL_lawf_0 9 0 rfl) (fdB_of (k := 0) tL_lawf_0 10 10 rfl)
theorem dL_law_11 : decode cL_law 11 = .ok (.dup, 1) := dk_89 (fdB_of (k := 0) tL_lawf_0 11 89 rfl)
theorem dL_law_12 : decode cL_law 12 = .ok (.invokespecial 12, 3) := dk_183 (fdB_of (k := 0) tL_lawf_0 12 183 rfl) (fdB_of (k := 0) tL_lawf_0 13 0 rfl) (fdB_of (k := 0) tL_lawf_0 14 12 rfl)
theorem dL_law_15 : decode cL_law 15 = .ok (.astore_n 2, 1) := dk_77 (fdB_of (k := 0) tL_lawf_0 15 77 rfl)
theorem dL_law_16 : decode cL_law 16 = .ok (.iconst 0, 1) := dk_3 (fdB_of (k := 16) tL_lawf_1 0 3 rfl)
theorem dL_law_17 : decode cL_law 17 = .ok (.istore_n 3, 1) := dk_62 (fdB_of (k := 16) tL_lawf_1 1 62 rfl)
theorem dL_law_18 : decode cL_law 18 = .ok (.iload_n 3, 1) := dk_29 (fdB_of (k := 16) tL_lawf_1 2 29 rfl)
theorem dL_law_19 : decode cL_law 19 = .ok (.aload_n 0, 1) := dk_42 (fdB_of (k := 16) tL_lawf_1 3 42 rfl)
theorem dL_law_20 : decode cL_law 20 = .ok (.arraylength, 1) := dk_190 (fdB_of (k := 16) tL_lawf_1 4 190 rfl)
theorem dL_law_21 : decode cL_law 21 = .ok (.iconst 5, 1) := dk_8 (fdB_of (k := 16) tL_lawf_1 5 8 rfl)
theorem dL_law_22 : decode cL_law 22 = .ok (.isub, 1) := dk_100 (fdB_of (k := 16) tL_lawf_1 6 100 rfl)
theorem dL_law_23 : decode cL_law 23 = .ok (.if_icmp .gt 1087, 3) := dk_163 (fdB_of (k := 16) tL_lawf_1 7 163 rfl) (fdB_of (k := 16) tL_lawf_1 8 4 rfl) (fdB_of (k := 16) tL_lawf_1 9 63 rfl) (by decide +kernel)
theorem dL_law_26 : decode cL_law 26 = .ok (.aload_n 0, 1) := dk_42 (fdB_of (k := 16) tL_lawf_1 10 42 rfl)
theorem dL_law_27 : decode cL_law 27 = .ok (.iload_n 3, 1) := dk_29 (fdB_of (k := 16) tL_lawf_1 11 29 rfl)
theorem dL_law_28 : decode cL_law 28 = .ok (.iaload, 1) := dk_46 (fdB_of (k := 16) tL_lawf_1 12 46 rfl)
theorem dL_law_29 : decode cL_law 29 = .ok (.bipush 31, 2) := dk_16 (fdB_of (k := 16) tL_lawf_1 13 16 rfl) (fdB_of (k := 16) tL_lawf_1 14 31 rfl) (by decide +kernel)
theorem dL_law_31 : decode cL_law 31 = .ok (.iand, 1) := dk_126 (fdB_of (k := 16) tL_lawf_1 15 126 rfl)
theorem dL_law_32 : decode cL_law 32 = .ok (.tableswitch 1072 0 27 #[128, 191, 204, 217, 250, 283, 316, 349, 382, 435, 468, 491, 544, 577, 610, 643, 686, 719, 762, 815, 838, 861, 904, 957, 990, 1013, 1036, 1059], 128) := by decide +kernel
theorem dL_law_160 : decode cL_law 160 = .ok (.aload_n 1, 1) := dk_43 (fdB_of (k := 160) tL_lawf_10 0 43 rfl)
theorem dL_law_161 : decode cL_law 161 = .ok (.aload_n 0, 1) := dk_42 (fdB_of (k := 160) tL_lawf_10 1 42 rfl)
theorem dL_law_162 : decode cL_law 162 = .ok (.iload_n 3, 1) := dk_29 (fdB_of (k := 160) tL_lawf_10 2 29 rfl)
theorem dL_law_163 : decode cL_law 163 = .ok (.iconst 1, 1) := dk_4 (fdB_of (k := 160) tL_lawf_10 3 4 rfl)
theorem dL_law_164 : decode cL_law 164 = .ok (.iadd, 1) := dk_96 (fdB_of (k := 160) tL_lawf_10 4 96 rfl)
theorem dL_law_165 : decode cL_law 165 = .ok (.iaload, 1) := dk_46 (fdB_of (k := 160) tL_lawf_10 5 46 rfl)
theorem dL_law_166 : decode cL_law 166 = .ok (.i2l, 1) := dk_133 (fdB_of (k := 160) tL_lawf_10 6 133 rfl)
theorem dL_law_167 : decode cL_law 167 = .ok (.bipush 32, 2) := dk_16 (fdB_of (k := 160) tL_lawf_10 7 16 rfl) (fdB_of (k := 160) tL_lawf_10 8 32 rfl) (by decide +kernel)
theorem dL_law_169 : decode cL_law 169 = .ok (.lshl, 1) := dk_121 (fdB_of (k := 160) tL_lawf_10 9 121 rfl)
theorem dL_law_170 : decode cL_law 170 = .ok (.aload_n 0, 1) := dk_42 (fdB_of (k := 160) tL_lawf_10 10 42 rfl)
theorem dL_law_171 : decode cL_law 171 = .ok (.iload_n 3, 1) := dk_29 (fdB_of (k := 160) tL_lawf_10 11 29 rfl)
theorem dL_law_172 : decode cL_law 172 = .ok (.iconst 2, 1) := dk_5 (fdB_of (k := 160) tL_lawf_10 12 5 rfl)
theorem dL_law_173 : decode cL_law 173 = .ok (.iadd, 1) := dk_96 (fdB_of (k := 160) tL_lawf_10 13 96 rfl)
theorem dL_law_174 : decode cL_law 174 = .ok (.iaload, 1) := dk_46 (fdB_of (k := 160) tL_lawf_10 14 46 rfl)
theorem dL_law_175 : decode cL_law 175 = .ok (.i2l, 1) := dk_133 (fdB_of (k := 160) tL_lawf_10 15 133 rfl)
theorem dL_law_176 : decode cL_law 176 = .ok (.ldc2_w 13, 3) := dk_20 (fdB_of (k := 176) tL_lawf_11 0 20 rfl) (fdB_of (k := 176) tL_lawf_11 1 0 rfl) (fdB_of (k := 176) tL_lawf_11 2 13 rfl)
theorem dL_law_179 : decode cL_law 179 = .ok (.land, 1) := dk_127 (fdB_of (k := 176) tL_lawf_11 3 127 rfl)
theorem dL_law_180 : decode cL_law 180 = .ok (.lor, 1) := dk_129 (fdB_of (k := 176) tL_lawf_11 4 129 rfl)
theorem dL_law_181 : decode cL_law 181 = .ok (.aload_n 0, 1) := dk_42 (fdB_of (k := 176) tL_lawf_11 5 42 rfl)
theorem dL_law_182 : decode cL_law 182 = .ok (.iload_n 3, 1) := dk_29 (fdB_of (k := 176) tL_lawf_11 6 29 rfl)
theorem dL_law_183 : decode cL_law 183 = .ok (.iconst 3, 1) := dk_6 (fdB_of (k := 176) tL_lawf_11 7 6 rfl)
theorem dL_law_184 : decode cL_law 184 = .ok (.iadd, 1) := dk_96 (fdB_of (k := 176) tL_lawf_11 8 96 rfl)
theorem dL_law_185 : decode cL_law 185 = .ok (.iaload, 1) := dk_46 (fdB_of (k := 176) tL_lawf_11 9 46 rfl)
theorem dL_law_186 : decode cL_law 186 = .ok (.invokevirtual 15, 3) := dk_182 (fdB_of (k := 176) tL_lawf_11 10 182 rfl) (fdB_of (k := 176) tL_lawf_11 11 0 rfl) (fdB_of (k := 176) tL_lawf_11 12 15 rfl)
theorem dL_law_189 : decode cL_law 189 = .ok (.pop, 1) := dk_87 (fdB_of (k := 176) tL_lawf_11 13 87 rfl)
theorem dL_law_190 : decode cL_law 190 = .ok (.aload_n 2, 1) := dk_44 (fdB_of (k := 176) tL_lawf_11 14 44 rfl)
theorem dL_law_191 : decode cL_law 191 = .ok (.aload_n 0, 1) := dk_42 (fdB_of (k := 176) tL_lawf_11 15 42 rfl)
theorem dL_law_192 : decode cL_law 192 = .ok (.iload_n 3, 1) := dk_29 (fdB_of (k := 192) tL_lawf_12 0 29 rfl)
theorem dL_law_193 : decode cL_law 193 = .ok (.iconst 1, 1) := dk_4 (fdB_of (k := 192) tL_lawf_12 1 4 rfl)
theorem dL_law_194 : decode cL_law 194 = .ok (.iadd, 1) := dk_96 (fdB_of (k := 192) tL_lawf_12 2 96 rfl)
theorem dL_law_195 : decode cL_law 195 = .ok (.iaload, 1) := dk_46 (fdB_of (k := 192) tL_lawf_12 3 46 rfl)
theorem dL_law_196 : decode cL_law 196 = .ok (.i2l, 1) := dk_133 (fdB_of (k := 192) tL_lawf_12 4 133 rfl)
theorem dL_law_197 : decode cL_law 197 = .ok (.bipush 32, 2) := dk_16 (fdB_of (k := 192) tL_lawf_12 5 16 rfl) (fdB_of (k := 192) tL_lawf_12 6 32 rfl) (by decide +kernel)
theorem dL_law_199 : decode cL_law 199 = .ok (.lshl, 1) := dk_121 (fdB_of (k := 192) tL_lawf_12 7 121 rfl)
theorem dL_law_200 : decode cL_law 200 = .ok (.aload_n 0, 1) := dk_42 (fdB_of (k := 192) tL_lawf_12 8 42 rfl)
theorem dL_law_201 : decode cL_law 201 = .ok (.iload_n 3, 1) := dk_29 (fdB_of (k := 192) tL_lawf_12 9 29 rfl)
theorem dL_law_202 : decode cL_law 202 = .ok (.iconst 2, 1) := dk_5 (fdB_of (k := 192) tL_lawf_12 10 5 rfl)
theorem dL_law_203 : decode cL_law 203 = .ok (.iadd, 1) := dk_96 (fdB_of (k := 192) tL_lawf_12 11 96 rfl)
theorem dL_law_204 : decode cL_law 204 = .ok (.iaload, 1) := dk_46 (fdB_of (k := 192) tL_lawf_12 12 46 rfl)
theorem dL_law_205 : decode cL_law 205 = .ok (.i2l, 1) := dk_133 (fdB_of (k := 192) tL_lawf_12 13 133 rfl)
theorem dL_law_206 : decode cL_law 206 = .ok (.ldc2_w 13, 3) := dk_20 (fdB_of (k := 192) tL_lawf_12 14 20 rfl) (fdB_of (k := 192) tL_lawf_12 15 0 rfl) (fdB_of (k := 208) tL_lawf_13 0 13 rfl)
theorem dL_law_209 : decode cL_law 209 = .ok (.land, 1) := dk_127 (fdB_of (k := 208) tL_lawf_13 1 127 rfl)
theorem dL_law_210 : decode cL_law 210 = .ok (.lor, 1) := dk_129 (fdB_of (k := 208) tL_lawf_13 2 129 rfl)
theorem dL_law_211 : decode cL_law 211 = .ok (.aload_n 0, 1) := dk_42 (fdB_of (k := 208) tL_lawf_13 3 42 rfl)
theorem dL_law_212 : decode cL_law 212 = .ok (.iload_n 3, 1) := dk_29 (fdB_of (k := 208) tL_lawf_13 4 29 rfl)
theorem dL_law_213 : decode cL_law 213 = .ok (.iconst 3, 1) := dk_6 (fdB_of (k := 208) tL_lawf_13 5 6 rfl)
theorem dL_law_214 : decode cL_law 214 = .ok (.iadd, 1) := dk_96 (fdB_of (k := 208) tL_lawf_13 6 96 rfl)
theorem dL_law_215 : decode cL_law 215 = .ok (.iaload, 1) := dk_46 (fdB_of (k := 208) tL_lawf_13 7 46 rfl)
theorem dL_law_216 : decode cL_law 216 = .ok (.invokevirtual 19, 3) := dk_182 (fdB_of (k := 208) tL_lawf_13 8 182 rfl) (fdB_of (k := 208) tL_lawf_13 9 0 rfl) (fdB_of (k := 208) tL_lawf_13 10 19 rfl)
theorem dL_law_219 : decode cL_law 219 = .ok (.pop, 1) := dk_87 (fdB_of (k := 208) tL_lawf_13 11 87 rfl)
theorem dL_law_220 : decode cL_law 220 = .ok (.goto 884, 3) := dk_167 (fdB_of (k := 208) tL_lawf_13 12 167 rfl) (fdB_of (k := 208) tL_lawf_13 13 3 rfl) (fdB_of (k := 208) tL_lawf_13 14 116 rfl) (by decide +kernel)
theorem dL_law_223 : decode cL_law 223 = .ok (.aload_n 1, 1) := dk_43 (fdB_of (k := 208) tL_lawf_13 15 43 rfl)
theorem dL_law_224 : decode cL_law 224 = .ok (.invokevirtual 20, 3) := dk_182 (fdB_of (k := 224) tL_lawf_14 0 182 rfl) (fdB_of (k := 224) tL_lawf_14 1 0 rfl) (fdB_of (k := 224) tL_lawf_14 2 20 rfl)
theorem dL_law_227 : decode cL_law 227 = .ok (.pop, 1) := dk_87 (fdB_of (k := 224) tL_lawf_14 3 87 rfl)
theorem dL_law_228 : decode cL_law 228 = .ok (.aload_n 2, 1) := dk_44 (fdB_of (k := 224) tL_lawf_14 4 44 rfl)
theorem dL_law_229 : decode cL_law 229 = .ok (.invokevirtual 24, 3) := dk_182 (fdB_of (k := 224) tL_lawf_14 5 182 rfl) (fdB_of (k := 224) tL_lawf_14 6 0 rfl) (fdB_of (k := 224) tL_lawf_14 7 24 rfl)
theorem dL_law_232 : decode cL_law 232 = .ok (.pop, 1) := dk_87 (fdB_of (k := 224) tL_lawf_14 8 87 rfl)
theorem dL_law_233 : decode cL_law 233 = .ok (.goto 871, 3) := dk_167 (fdB_of (k := 224) tL_lawf_14 9 167 rfl) (fdB_of (k := 224) tL_lawf_14 10 3 rfl) (fdB_of (k := 224) tL_lawf_14 11 103 rfl) (by decide +kernel)
theorem dL_law_236 : decode cL_law 236 = .ok (.aload_n 1, 1) := dk_43 (fdB_of (k := 224) tL_lawf_14 12 43 rfl)
theorem dL_law_237 : decode cL_law 237 = .ok (.invokevirtual 25, 3) := dk_182 (fdB_of (k := 224) tL_lawf_14 13 182 rfl) (fdB_of (k := 224) tL_lawf_14 14 0 rfl) (fdB_of (k := 224) tL_lawf_14 15 25 rfl)
theorem dL_law_240 : decode cL_law 240 = .ok (.pop, 1) := dk_87 (fdB_of (k := 240) tL_lawf_15 0 87 rfl)
theorem dL_law_241 : decode cL_law 241 = .ok (.aload_n 2, 1) := dk_44 (fdB_of (k := 240) tL_lawf_15 1 44 rfl)
theorem dL_law_242 : decode cL_law 242 = .ok (.invokevirtual 28, 3) := dk_182 (fdB_of (k := 240) tL_lawf_15 2 182 rfl) (fdB_of (k := 240) tL_lawf_15 3 0 rfl) (fdB_of (k := 240) tL_lawf_15 4 28 rfl)
theorem dL_law_245 : decode cL_law 245 = .ok (.pop, 1) := dk_87 (fdB_of (k := 240) tL_lawf_15 5 87 rfl)
theorem dL_law_246 : decode cL_law 246 = .ok (.goto 858, 3) := dk_167 (fdB_of (k := 240) tL_lawf_15 6 167 rfl) (fdB_of (k := 240) tL_lawf_15 7 3 rfl) (fdB_of (k := 240) tL_lawf_15 8 90 rfl) (by decide +kernel)
theorem dL_law_249 : decode cL_law 249 = .ok (.aload_n 1, 1) := dk_43 (fdB_of (k := 240) tL_lawf_15 9 43 rfl)
theorem dL_law_250 : decode cL_law 250 = .ok (.aload_n 0, 1) := dk_42 (fdB_of (k := 240) tL_lawf_15 10 42 rfl)
theorem dL_law_251 : decode cL_law 251 = .ok (.iload_n 3, 1) := dk_29 (fdB_of (k := 240) tL_lawf_15 11 29 rfl)
theorem dL_law_252 : decode cL_law 252 = .ok (.iconst 1, 1) := dk_4 (fdB_of (k := 240) tL_lawf_15 12 4 rfl)
theorem dL_law_253 : decode cL_law 253 = .ok (.iadd, 1) := dk_96 (fdB_of (k := 240) tL_lawf_15 13 96 rfl)
theorem dL_law_254 : decode cL_law 254 = .ok (.iaload, 1) := dk_46 (fdB_of (k := 240) tL_lawf_15 14 46 rfl)
theorem dL_law_255 : decode cL_law 255 = .ok (.aload_n 0, 1) := dk_42 (fdB_of (k := 240) tL_lawf_15 15 42 rfl)
theorem dL_law_256 : decode cL_law 256 = .ok (.iload_n 3, 1) := dk_29 (fdB_of (k := 256) tL_lawf_16 0 29 rfl)
theorem dL_law_257 : decode cL_law 257 = .ok (.iconst 2, 1) := dk_5 (fdB_of (k := 256) tL_lawf_16 1 5 rfl)
theorem dL_law_258 : decode cL_law 258 = .ok (.iadd, 1) := dk_96 (fdB_of (k := 256) tL_lawf_16 2 96 rfl)
theorem dL_law_259 : decode cL_law 259 = .ok (.iaload, 1) := dk_46 (fdB_of (k := 256) tL_lawf_16 3 46 rfl)
theorem dL_law_260 : decode cL_law 260 = .ok (.invokevirtual 29, 3) := dk_182 (fdB_of (k := 256) tL_lawf_16 4 182 rfl) (fdB_of (k := 256) tL_lawf_16 5 0 rfl) (fdB_of (k := 256) tL_lawf_16 6 29 rfl)
theorem dL_law_263 : decode cL_law 263 = .ok (.pop, 1) := dk_87 (fdB_of (k := 256) tL_lawf_16 7 87 rfl)
theorem dL_law_264 : decode cL_law 264 = .ok (.aload_n 2, 1) := dk_44 (fdB_of (k := 256) tL_lawf_16 8 44 rfl)
theorem dL_law_265 : decode cL_law 265 = .ok (.aload_n 0, 1) := dk_42 (fdB_of (k := 256) tL_lawf_16 9 42 rfl)
theorem dL_law_266 : decode cL_law 266 = .ok (.iload_n 3, 1) := dk_29 (fdB_of (k := 256) tL_lawf_16 10 29 rfl)
theorem dL_law_267 : decode cL_law 267 = .ok (.iconst 1, 1) := dk_4 (fdB_of (k := 256) tL_lawf_16 11 4 rfl)
theorem dL_law_268 : decode cL_law 268 = .ok (.iadd, 1) := dk_96 (fdB_of (k := 256) tL_lawf_16 12 96 rfl)
theorem dL_law_269 : decode cL_law 269 = .ok (.iaload, 1) := dk_46 (fdB_of (k := 256) tL_lawf_16 13 46 rfl)
theorem dL_law_270 : decode cL_law 270 = .ok (.aload_n 0, 1) := dk_42 (fdB_of (k := 256) tL_lawf_16 14 42 rfl)
theorem dL_law_271 : decode cL_law 271 = .ok (.iload_n 3, 1) := dk_29 (fdB_of (k := 256) tL_lawf_16 15 29 rfl)
theorem dL_law_272 : decode cL_law 272 = .ok (.iconst 2, 1) := dk_5 (fdB_of (k := 272) tL_lawf_17 0 5 rfl)
theorem dL_law_273 : decode cL_law 273 = .ok (.iadd, 1) := dk_96 (fdB_of (k := 272) tL_lawf_17 1 96 rfl)
theorem dL_law_274 : decode cL_law 274 = .ok (.iaload, 1) := dk_46 (fdB_of (k := 272) tL_lawf_17 2 46 rfl)
theorem dL_law_275 : decode cL_law 275 = .ok (.invokevirtual 33, 3) := dk_182 (fdB_of (k := 272) tL_lawf_17 3 182 rfl) (fdB_of (k := 272) tL_lawf_17 4 0 rfl) (fdB_of (k := 272) tL_lawf_17 5 33 rfl)
theorem dL_law_278 : decode cL_law 278 = .ok (.pop, 1) := dk_87 (fdB_of (k := 272) tL_lawf_17 6 87 rfl)
theorem dL_law_279 : decode cL_law 279 = .ok (.goto 825, 3) := dk_167 (fdB_of (k := 272) tL_lawf_17 7 167 rfl) (fdB_of (k := 272) tL_lawf_17 8 3 rfl) (fdB_of (k := 272) tL_lawf_17 9 57 rfl) (by decide +kernel)
theorem dL_law_282 : decode cL_law 282 = .ok (.aload_n 1, 1) := dk_43 (fdB_of (k := 272) tL_lawf_17 10 43 rfl)
theorem dL_law_283 : decode cL_law 283 = .ok (.aload_n 0, 1) := dk_42 (fdB_of (k := 272) tL_lawf_17 11 42 rfl)
theorem dL_law_284 : decode cL_law 284 = .ok (.iload_n 3, 1) := dk_29 (fdB_of (k := 272) tL_lawf_17 12 29 rfl)
theorem dL_law_285 : decode cL_law 285 = .ok (.iconst 1, 1) := dk_4 (fdB_of (k := 272) tL_lawf_17 13 4 rfl)
theorem dL_law_286 : decode cL_law 286 = .ok (.iadd, 1) := dk_96 (fdB_of (k := 272) tL_lawf_17 14 96 rfl)
theorem dL_law_287 : decode cL_law 287 = .ok (.iaload, 1) := dk_46 (fdB_of (k := 272) tL_lawf_17 15 46 rfl)
theorem dL_law_288 : decode cL_law 288 = .ok (.aload_n 0, 1) := dk_42 (fdB_of (k := 288) tL_lawf_18 0 42 rfl)
theorem dL_law_289 : decode cL_law 289 = .ok (.iload_n 3, 1) := dk_29 (fdB_of (k := 288) tL_lawf_18 1 29 rfl)
theorem dL_law_290 : decode cL_law 290 = .ok (.iconst 2, 1) := dk_5 (fdB_of (k := 288) tL_lawf_18 2 5 rfl)
theorem dL_law_291 : decode cL_law 291 = .ok (.iadd, 1) := dk_96 (fdB_of (k := 288) tL_lawf_18 3 96 rfl)
theorem dL_law_292 : decode cL_law 292 = .ok (.iaload, 1) := dk_46 (fdB_of (k := 288) tL_lawf_18 4 46 rfl)
theorem dL_law_293 : decode cL_law 293 = .ok (.invokevirtual 34, 3) := dk_182 (fdB_of (k := 288) tL_lawf_18 5 182 rfl) (fdB_of (k := 288) tL_lawf_18 6 0 rfl) (fdB_of (k := 288) tL_lawf_18 7 34 rfl)
theorem dL_law_296 : decode cL_law 296 = .ok (.pop, 1) := dk_87 (fdB_of (k := 288) tL_lawf_18 8 87 rfl)
theorem dL_law_297 : decode cL_law 297 = .ok (.aload_n 2, 1) := dk_44 (fdB_of (k := 288) tL_lawf_18 9 44 rfl)
theorem dL_law_298 : decode cL_law 298 = .ok (.aload_n 0, 1) := dk_42 (fdB_of (k := 288) tL_lawf_18 10 42 rfl)
theorem dL_law_299 : decode cL_law 299 = .ok (.iload_n 3, 1) := dk_29 (fdB_of (k := 288) tL_lawf_18 11 29 rfl)
theorem dL_law_300 : decode cL_law 300 = .ok (.iconst 1, 1) := dk_4 (fdB_of (k := 288) tL_lawf_18 12 4 rfl)
theorem dL_law_301 : decode cL_law 301 = .ok (.iadd, 1) := dk_96 (fdB_of (k := 288) tL_lawf_18 13 96 rfl)
theorem dL_law_302 : decode cL_law 302 = .ok (.iaload, 1) := dk_46 (fdB_of (k := 288) tL_lawf_18 14 46 rfl)
theorem dL_law_303 : decode cL_law 303 = .ok (.aload_n 0, 1) := dk_42 (fdB_of (k := 288) tL_lawf_18 15 42 rfl)
theorem dL_law_304 : decode cL_law 304 = .ok (.iload_n 3, 1) := dk_29 (fdB_of (k := 304) tL_lawf_19 0 29 rfl)
theorem dL_law_305 : decode cL_law 305 = .ok (.iconst 2, 1) := dk_5 (fdB_of (k := 304) tL_lawf_19 1 5 rfl)
theorem dL_law_306 : decode cL_law 306 = .ok (.iadd, 1) := dk_96 (fdB_of (k := 304) tL_lawf_19 2 96 rfl)
theorem dL_law_307 : decode cL_law 307 = .ok (.iaload, 1) := dk_46 (fdB_of (k := 304) tL_lawf_19 3 46 rfl)
theorem dL_law_308 : decode cL_law 308 = .ok (.invokevirtual 37, 3) := dk_182 (fdB_of (k := 304) tL_lawf_19 4 182 rfl) (fdB_of (k := 304) tL_lawf_19 5 0 rfl) (fdB_of (k := 304) tL_lawf_19 6 37 rfl)
theorem dL_law_311 : decode cL_law 311 = .ok (.pop, 1) := dk_87 (fdB_of (k := 304) tL_lawf_19 7 87 rfl)
theorem dL_law_312 : decode cL_law 312 = .ok (.goto 792, 3) := dk_167 (fdB_of (k := 304) tL_lawf_19 8 167 rfl) (fdB_of (k := 304) tL_lawf_19 9 3 rfl) (fdB_of (k := 304) tL_lawf_19 10 24 rfl) (by decide +kernel)
theorem dL_law_315 : decode cL_law 315 = .ok (.aload_n 1, 1) := dk_43 (fdB_of (k := 304) tL_lawf_19 11 43 rfl)
theorem dL_law_316 : decode cL_law 316 = .ok (.aload_n 0, 1) := dk_42 (fdB_of (k := 304) tL_lawf_19 12 42 rfl)
theorem dL_law_317 : decode cL_law 317 = .ok (.iload_n 3, 1) := dk_29 (fdB_of (k := 304) tL_lawf_19 13 29 rfl)
theorem dL_law_318 : decode cL_law 318 = .ok (.iconst 1, 1) := dk_4 (fdB_of (k := 304) tL_lawf_19 14 4 rfl)
theorem dL_law_319 : decode cL_law 319 = .ok (.iadd, 1) := dk_96 (fdB_of (k := 304) tL_lawf_19 15 96 rfl)
theorem dL_law_320 : decode cL_law 320 = .ok (.iaload, 1) := dk_46 (fdB_of (k := 320) tL_lawf_20 0 46 rfl)
theorem dL_law_321 : decode cL_law 321 = .ok (.aload_n 0, 1) := dk_42 (fdB_of (k := 320) tL_lawf_20 1 42 rfl)
theorem dL_law_322 : decode cL_law 322 = .ok (.iload_n 3, 1) := dk_29 (fdB_of (k := 320) tL_lawf_20 2 29 rfl)
theorem dL_law_323 : decode cL_law 323 = .ok (.iconst 2, 1) := dk_5 (fdB_of (k := 320) tL_lawf_20 3 5 rfl)
theorem dL_law_324 : decode cL_law 324 = .ok (.iadd, 1) := dk_96 (fdB_of (k := 320) tL_lawf_20 4 96 rfl)
theorem dL_law_325 : decode cL_law 325 = .ok (.iaload, 1) := dk_46 (fdB_of (k := 320) tL_lawf_20 5 46 rfl)
theorem dL_law_326 : decode cL_law 326 = .ok (.invokevirtual 38, 3) := dk_182 (fdB_of (k := 320) tL_lawf_20 6 182 rfl) (fdB_of (k := 320) tL_lawf_20 7 0 rfl) (fdB_of (k := 320) tL_lawf_20 8 38 rfl)
theorem dL_law_329 : decode cL_law 329 = .ok (.pop, 1) := dk_87 (fdB_of (k := 320) tL_lawf_20 9 87 rfl)
theorem dL_law_330 : decode cL_law 330 = .ok (.aload_n 2, 1) := dk_44 (fdB_of (k := 320) tL_lawf_20 10 44 rfl)
theorem dL_law_331 : decode cL_law 331 = .ok (.aload_n 0, 1) := dk_42 (fdB_of (k := 320) tL_lawf_20 11 42 rfl)
theorem dL_law_332 : decode cL_law 332 = .ok (.iload_n 3, 1) := dk_29 (fdB_of (k := 320) tL_lawf_20 12 29 rfl)
theorem dL_law_333 : decode cL_law 333 = .ok (.iconst 1, 1) := dk_4 (fdB_of (k := 320) tL_lawf_20 13 4 rfl)
theorem dL_law_334 : decode cL_law 334 = .ok (.iadd, 1) := dk_96 (fdB_of (k := 320) tL_lawf_20 14 96 rfl)
theorem dL_law_335 : decode cL_law 335 = .ok (.iaload, 1) := dk_46 (fdB_of (k := 320) tL_lawf_20 15 46 rfl)
theorem dL_law_336 : decode cL_law 336 = .ok (.aload_n 0, 1) := dk_42 (fdB_of (k := 336) tL_lawf_21 0 42 rfl)
theorem dL_law_337 : decode cL_law 337 = .ok (.iload_n 3, 1) := dk_29 (fdB_of (k := 336) tL_lawf_21 1 29 rfl)
theorem dL_law_338 : decode cL_law 338 = .ok (.iconst 2, 1) := dk_5 (fdB_of (k := 336) tL_lawf_21 2 5 rfl)
theorem dL_law_339 : decode cL_law 339 = .ok (.iadd, 1) := dk_96 (fdB_of (k := 336) tL_lawf_21 3 96 rfl)
theorem dL_law_340 : decode cL_law 340 = .ok (.iaload, 1) := dk_46 (fdB_of (k := 336) tL_lawf_21 4 46 rfl)
theorem dL_law_341 : decode cL_law 341 = .ok (.invokevirtual 41, 3) := dk_182 (fdB_of (k := 336) tL_lawf_21 5 182 rfl) (fdB_of (k := 336) tL_lawf_21 6 0 rfl) (fdB_of (k := 336) tL_lawf_21 7 41 rfl)
theorem dL_law_344 : decode cL_law 344 = .ok (.pop, 1) := dk_87 (fdB_of (k := 336) tL_lawf_21 8 87 rfl)
theorem dL_law_345 : decode cL_law 345 = .ok (.goto 759, 3) := dk_167 (fdB_of (k := 336) tL_lawf_21 9 167 rfl) (fdB_of (k := 336) tL_lawf_21 10 2 rfl) (fdB_of (k := 336) tL_lawf_21 11 247 rfl) (by decide +kernel)
theorem dL_law_348 : decode cL_law 348 = .ok (.aload_n 1, 1) := dk_43 (fdB_of (k := 336) tL_lawf_21 12 43 rfl)
theorem dL_law_349 : decode cL_law 349 = .ok (.aload_n 0, 1) := dk_42 (fdB_of (k := 336) tL_lawf_21 13 42 rfl)
theorem dL_law_350 : decode cL_law 350 = .ok (.iload_n 3, 1) := dk_29 (fdB_of (k := 336) tL_lawf_21 14 29 rfl)
theorem dL_law_351 : decode cL_law 351 = .ok (.iconst 1, 1) := dk_4 (fdB_of (k := 336) tL_lawf_21 15 4 rfl)
theorem dL_law_352 : decode cL_law 352 = .ok (.iadd, 1) := dk_96 (fdB_of (k := 352) tL_lawf_22 0 96 rfl)
theorem dL_law_353 : decode cL_law 353 = .ok (.iaload, 1) := dk_46 (fdB_of (k := 352) tL_lawf_22 1 46 rfl)
theorem dL_law_354 : decode cL_law 354 = .ok (.aload_n 0, 1) := dk_42 (fdB_of (k := 352) tL_lawf_22 2 42 rfl)
theorem dL_law_355 : decode cL_law 355 = .ok (.iload_n 3, 1) := dk_29 (fdB_of (k := 352) tL_lawf_22 3 29 rfl)
theorem dL_law_356 : decode cL_law 356 = .ok (.iconst 2, 1) := dk_5 (fdB_of (k := 352) tL_lawf_22 4 5 rfl)
theorem dL_law_357 : decode cL_law 357 = .ok (.iadd, 1) := dk_96 (fdB_of (k := 352) tL_lawf_22 5 96 rfl)
theorem dL_law_358 : decode cL_law 358 = .ok (.iaload, 1) := dk_46 (fdB_of (k := 352) tL_lawf_22 6 46 rfl)
theorem dL_law_359 : decode cL_law 359 = .ok (.invokevirtual 42, 3) := dk_182 (fdB_of (k := 352) tL_lawf_22 7 182 rfl) (fdB_of (k := 352) tL_lawf_22 8 0 rfl) (fdB_of (k := 352) tL_lawf_22 9 42 rfl)
theorem dL_law_362 : decode cL_law 362 = .ok (.pop, 1) := dk_87 (fdB_of (k := 352) tL_lawf_22 10 87 rfl)
theorem dL_law_363 : decode cL_law 363 = .ok (.aload_n 2, 1) := dk_44 (fdB_of (k := 352) tL_lawf_22 11 44 rfl)
theorem dL_law_364 : decode cL_law 364 = .ok (.aload_n 0, 1) := dk_42 (fdB_of (k := 352) tL_lawf_22 12 42 rfl)
theorem dL_law_365 : decode cL_law 365 = .ok (.iload_n 3, 1) := dk_29 (fdB_of (k := 352) tL_lawf_22 13 29 rfl)
theorem dL_law_366 : decode cL_law 366 = .ok (.iconst 1, 1) := dk_4 (fdB_of (k := 352) tL_lawf_22 14 4 rfl)
theorem dL_law_367 : decode cL_law 367 = .ok (.iadd, 1) := dk_96 (fdB_of (k := 352) tL_lawf_22 15 96 rfl)
theorem dL_law_368 : decode cL_law 368 = .ok (.iaload, 1) := dk_46 (fdB_of (k := 368) tL_lawf_23 0 46 rfl)
theorem dL_law_369 : decode cL_law 369 = .ok (.aload_n 0, 1) := dk_42 (fdB_of (k := 368) tL_lawf_23 1 42 rfl)
theorem dL_law_370 : decode cL_law 370 = .ok (.iload_n 3, 1) := dk_29 (fdB_of (k := 368) tL_lawf_23 2 29 rfl)
theorem dL_law_371 : decode cL_law 371 = .ok (.iconst 2, 1) := dk_5 (fdB_of (k := 368) tL_lawf_23 3 5 rfl)
theorem dL_law_372 : decode cL_law 372 = .ok (.iadd, 1) := dk_96 (fdB_of (k := 368) tL_lawf_23 4 96 rfl)
theorem dL_law_373 : decode cL_law 373 = .ok (.iaload, 1) := dk_46 (fdB_of (k := 368) tL_lawf_23 5 46 rfl)
theorem dL_law_374 : decode cL_law 374 = .ok (.invokevirtual 45, 3) := dk_182 (fdB_of (k := 368) tL_lawf_23 6 182 rfl) (fdB_of (k := 368) tL_lawf_23 7 0 rfl) (fdB_of (k := 368) tL_lawf_23 8 45 rfl)
theorem dL_law_377 : decode cL_law 377 = .ok (.pop, 1) := dk_87 (fdB_of (k := 368) tL_lawf_23 9 87 rfl)
theorem dL_law_378 : decode cL_law 378 = .ok (.goto 726, 3) := dk_167 (fdB_of (k := 368) tL_lawf_23 10 167 rfl) (fdB_of (k := 368) tL_lawf_23 11 2 rfl) (fdB_of (k := 368) tL_lawf_23 12 214 rfl) (by decide +kernel)
theorem dL_law_381 : decode cL_law 381 = .ok (.aload_n 1, 1) := dk_43 (fdB_of (k := 368) tL_lawf_23 13 43 rfl)
theorem dL_law_382 : decode cL_law 382 = .ok (.aload_n 0, 1) := dk_42 (fdB_of (k := 368) tL_lawf_23 14 42 rfl)
theorem dL_law_383 : decode cL_law 383 = .ok (.iload_n 3, 1) := dk_29 (fdB_of (k := 368) tL_lawf_23 15 29 rfl)
theorem dL_law_384 : decode cL_law 384 = .ok (.iconst 1, 1) := dk_4 (fdB_of (k := 384) tL_lawf_24 0 4 rfl)
theorem dL_law_385 : decode cL_law 385 = .ok (.iadd, 1) := dk_96 (fdB_of (k := 384) tL_lawf_24 1 96 rfl)
theorem dL_law_386 : decode cL_law 386 = .ok (.iaload, 1) := dk_46 (fdB_of (k := 384) tL_lawf_24 2 46 rfl)
theorem dL_law_387 : decode cL_law 387 = .ok (.aload_n 0, 1) := dk_42 (fdB_of (k := 384) tL_lawf_24 3 42 rfl)
theorem dL_law_388 : decode cL_law 388 = .ok (.iload_n 3, 1) := dk_29 (fdB_of (k := 384) tL_lawf_24 4 29 rfl)
theorem dL_law_389 : decode cL_law 389 = .ok (.iconst 2, 1) := dk_5 (fdB_of (k := 384) tL_lawf_24 5 5 rfl)
theorem dL_law_390 : decode cL_law 390 = .ok (.iadd, 1) := dk_96 (fdB_of (k := 384) tL_lawf_24 6 96 rfl)
theorem dL_law_391 : decode cL_law 391 = .ok (.iaload, 1) := dk_46 (fdB_of (k := 384) tL_lawf_24 7 46 rfl)
theorem dL_law_392 : decode cL_law 392 = .ok (.invokevirtual 46, 3) := dk_182 (fdB_of (k := 384) tL_lawf_24 8 182 rfl) (fdB_of (k := 384) tL_lawf_24 9 0 rfl) (fdB_of (k := 384) tL_lawf_24 10 46 rfl)
theorem dL_law_395 : decode cL_law 395 = .ok (.pop, 1) := dk_87 (fdB_of (k := 384) tL_lawf_24 11 87 rfl)
theorem dL_law_396 : decode cL_law 396 = .ok (.aload_n 2, 1) := dk_44 (fdB_of (k := 384) tL_lawf_24 12 44 rfl)
theorem dL_law_397 : decode cL_law 397 = .ok (.aload_n 0, 1) := dk_42 (fdB_of (k := 384) tL_lawf_24 13 42 rfl)
theorem dL_law_398 : decode cL_law 398 = .ok (.iload_n 3, 1) := dk_29 (fdB_of (k := 384) tL_lawf_24 14 29 rfl)
theorem dL_law_399 : decode cL_law 399 = .ok (.iconst 1, 1) := dk_4 (fdB_of (k := 384) tL_lawf_24 15 4 rfl)
theorem dL_law_400 : decode cL_law 400 = .ok (.iadd, 1) := dk_96 (fdB_of (k := 400) tL_lawf_25 0 96 rfl)
theorem dL_law_401 : decode cL_law 401 = .ok (.iaload, 1) := dk_46 (fdB_of (k := 400) tL_lawf_25 1 46 rfl)
theorem dL_law_402 : decode cL_law 402 = .ok (.aload_n 0, 1) := dk_42 (fdB_of (k := 400) tL_lawf_25 2 42 rfl)
theorem dL_law_403 : decode cL_law 403 = .ok (.iload_n 3, 1) := dk_29 (fdB_of (k := 400) tL_lawf_25 3 29 rfl)
theorem dL_law_404 : decode cL_law 404 = .ok (.iconst 2, 1) := dk_5 (fdB_of (k := 400) tL_lawf_25 4 5 rfl)
theorem dL_law_405 : decode cL_law 405 = .ok (.iadd, 1) := dk_96 (fdB_of (k := 400) tL_lawf_25 5 96 rfl)
theorem dL_law_406 : decode cL_law 406 = .ok (.iaload, 1) := dk_46 (fdB_of (k := 400) tL_lawf_25 6 46 rfl)
theorem dL_law_407 : decode cL_law 407 = .ok (.invokevirtual 49, 3) := dk_182 (fdB_of (k := 400) tL_lawf_25 7 182 rfl) (fdB_of (k := 400) tL_lawf_25 8 0 rfl) (fdB_of (k := 400) tL_lawf_25 9 49 rfl)
theorem dL_law_410 : decode cL_law 410 = .ok (.pop, 1) := dk_87 (fdB_of (k := 400) tL_lawf_25 10 87 rfl)
theorem dL_law_411 : decode cL_law 411 = .ok (.goto 693, 3) := dk_167 (fdB_of (k := 400) tL_lawf_25 11 167 rfl) (fdB_of (k := 400) tL_lawf_25 12 2 rfl) (fdB_of (k := 400) tL_lawf_25 13 181 rfl) (by decide +kernel)
theorem dL_law_414 : decode cL_law 414 = .ok (.aload_n 1, 1) := dk_43 (fdB_of (k := 400) tL_lawf_25 14 43 rfl)
theorem dL_law_415 : decode cL_law 415 = .ok (.aload_n 0, 1) := dk_42 (fdB_of (k := 400) tL_lawf_25 15 42 rfl)
theorem dL_law_416 : decode cL_law 416 = .ok (.iload_n 3, 1) := dk_29 (fdB_of (k := 416) tL_lawf_26 0 29 rfl)
theorem dL_law_417 : decode cL_law 417 = .ok (.iconst 1, 1) := dk_4 (fdB_of (k := 416) tL_lawf_26 1 4 rfl)
theorem dL_law_418 : decode cL_law 418 = .ok (.iadd, 1) := dk_96 (fdB_of (k := 416) tL_lawf_26 2 96 rfl)
theorem dL_law_419 : decode cL_law 419 = .ok (.iaload, 1) := dk_46 (fdB_of (k := 416) tL_lawf_26 3 46 rfl)
theorem dL_law_420 : decode cL_law 420 = .ok (.aload_n 0, 1) := dk_42 (fdB_of (k := 416) tL_lawf_26 4 42 rfl)
theorem dL_law_421 : decode cL_law 421 = .ok (.iload_n 3, 1) := dk_29 (fdB_of (k := 416) tL_lawf_26 5 29 rfl)
theorem dL_law_422 : decode cL_law 422 = .ok (.iconst 2, 1) := dk_5 (fdB_of (k := 416) tL_lawf_26 6 5 rfl)
theorem dL_law_423 : decode cL_law 423 = .ok (.iadd, 1) := dk_96 (fdB_of (k := 416) tL_lawf_26 7 96 rfl)
theorem dL_law_424 : decode cL_law 424 = .ok (.iaload, 1) := dk_46 (fdB_of (k := 416) tL_lawf_26 8 46 rfl)
theorem dL_law_425 : decode cL_law 425 = .ok (.aload_n 0, 1) := dk_42 (fdB_of (k := 416) tL_lawf_26 9 42 rfl)
theorem dL_law_426 : decode cL_law 426 = .ok (.iload_n 3, 1) := dk_29 (fdB_of (k := 416) tL_lawf_26 10 29 rfl)
theorem dL_law_427 : decode cL_law 427 = .ok (.iconst 3, 1) := dk_6 (fdB_of (k := 416) tL_lawf_26 11 6 rfl)
theorem dL_law_428 : decode cL_law 428 = .ok (.iadd, 1) := dk_96 (fdB_of (k := 416) tL_lawf_26 12 96 rfl)
theorem dL_law_429 : decode cL_law 429 = .ok (.iaload, 1) := dk_46 (fdB_of (k := 416) tL_lawf_26 13 46 rfl)
theorem dL_law_430 : decode cL_law 430 = .ok (.aload_n 0, 1) := dk_42 (fdB_of (k := 416) tL_lawf_26 14 42 rfl)
theorem dL_law_431 : decode cL_law 431 = .ok (.iload_n 3, 1) := dk_29 (fdB_of (k := 416) tL_lawf_26 15 29 rfl)
theorem dL_law_432 : decode cL_law 432 = .ok (.iconst 4, 1) := dk_7 (fdB_of (k := 432) tL_lawf_27 0 7 rfl)
theorem dL_law_433 : decode cL_law 433 = .ok (.iadd, 1) := dk_96 (fdB_of (k := 432) tL_lawf_27 1 96 rfl)
theorem dL_law_434 : decode cL_law 434 = .ok (.iaload, 1) := dk_46 (fdB_of (k := 432) tL_lawf_27 2 46 rfl)
theorem dL_law_435 : decode cL_law 435 = .ok (.invokevirtual 50, 3) := dk_182 (fdB_of (k := 432) tL_lawf_27 3 182 rfl) (fdB_of (k := 432) tL_lawf_27 4 0 rfl) (fdB_of (k := 432) tL_lawf_27 5 50 rfl)
theorem dL_law_438 : decode cL_law 438 = .ok (.pop, 1) := dk_87 (fdB_of (k := 432) tL_lawf_27 6 87 rfl)
theorem dL_law_439 : decode cL_law 439 = .ok (.aload_n 2, 1) := dk_44 (fdB_of (k := 432) tL_lawf_27 7 44 rfl)
theorem dL_law_440 : decode cL_law 440 = .ok (.aload_n 0, 1) := dk_42 (fdB_of (k := 432) tL_lawf_27 8 42 rfl)
theorem dL_law_441 : decode cL_law 441 = .ok (.iload_n 3, 1) := dk_29 (fdB_of (k := 432) tL_lawf_27 9 29 rfl)
theorem dL_law_442 : decode cL_law 442 = .ok (.iconst 1, 1) := dk_4 (fdB_of (k := 432) tL_lawf_27 10 4 rfl)
theorem dL_law_443 : decode cL_law 443 = .ok (.iadd, 1) := dk_96 (fdB_of (k := 432) tL_lawf_27 11 96 rfl)
theorem dL_law_444 : decode cL_law 444 = .ok (.iaload, 1) := dk_46 (fdB_of (k := 432) tL_lawf_27 12 46 rfl)
theorem dL_law_445 : decode cL_law 445 = .ok (.aload_n 0, 1) := dk_42 (fdB_of (k := 432) tL_lawf_27 13 42 rfl)
theorem dL_law_446 : decode cL_law 446 = .ok (.iload_n 3, 1) := dk_29 (fdB_of (k := 432) tL_lawf_27 14 29 rfl)
theorem dL_law_447 : decode cL_law 447 = .ok (.iconst 2, 1) := dk_5 (fdB_of (k := 432) tL_lawf_27 15 5 rfl)
theorem dL_law_448 : decode cL_law 448 = .ok (.iadd, 1) := dk_96 (fdB_of (k := 448) tL_lawf_28 0 96 rfl)
theorem dL_law_449 : decode cL_law 449 = .ok (.iaload, 1) := dk_46 (fdB_of (k := 448) tL_lawf_28 1 46 rfl)
theorem dL_law_450 : decode cL_law 450 = .ok (.aload_n 0, 1) := dk_42 (fdB_of (k := 448) tL_lawf_28 2 42 rfl)
theorem dL_law_451 : decode cL_law 451 = .ok (.iload_n 3, 1) := dk_29 (fdB_of (k := 448) tL_lawf_28 3 29 rfl)
theorem dL_law_452 : decode cL_law 452 = .ok (.iconst 3, 1) := dk_6 (fdB_of (k := 448) tL_lawf_28 4 6 rfl)
theorem dL_law_453 : decode cL_law 453 = .ok (.iadd, 1) := dk_96 (fdB_of (k := 448) tL_lawf_28 5 96 rfl)
theorem dL_law_454 : decode cL_law 454 = .ok (.iaload, 1) := dk_46 (fdB_of (k := 448) tL_lawf_28 6 46 rfl)
theorem dL_law_455 : decode cL_law 455 = .ok (.aload_n 0, 1) := dk_42 (fdB_of (k := 448) tL_lawf_28 7 42 rfl)
theorem dL_law_456 : decode cL_law 456 = .ok (.iload_n 3, 1) := dk_29 (fdB_of (k := 448) tL_lawf_28 8 29 rfl)
theorem dL_law_457 : decode cL_law 457 = .ok (.iconst 4, 1) := dk_7 (fdB_of (k := 448) tL_lawf_28 9 7 rfl)
theorem dL_law_458 : decode cL_law 458 = .ok (.iadd, 1) := dk_96 (fdB_of (k := 448) tL_lawf_28 10 96 rfl)
theorem dL_law_459 : decode cL_law 459 = .ok (.iaload, 1) := dk_46 (fdB_of (k := 448) tL_lawf_28 11 46 rfl)
theorem dL_law_460 : decode cL_law 460 = .ok (.invokevirtual 54, 3) := dk_182 (fdB_of (k := 448) tL_lawf_28 12 182 rfl) (fdB_of (k := 448) tL_lawf_28 13 0 rfl) (fdB_of (k := 448) tL_lawf_28 14 54 rfl)
theorem dL_law_463 : decode cL_law 463 = .ok (.pop, 1) := dk_87 (fdB_of (k := 448) tL_lawf_28 15 87 rfl)
theorem dL_law_464 : decode cL_law 464 = .ok (.goto 640, 3) := dk_167 (fdB_of (k := 464) tL_lawf_29 0 167 rfl) (fdB_of (k := 464) tL_lawf_29 1 2 rfl) (fdB_of (k := 464) tL_lawf_29 2 128 rfl) (by decide +kernel)
theorem dL_law_467 : decode cL_law 467 = .ok (.aload_n 1, 1) := dk_43 (fdB_of (k := 464) tL_lawf_29 3 43 rfl)
theorem dL_law_468 : decode cL_law 468 = .ok (.aload_n 0, 1) := dk_42 (fdB_of (k := 464) tL_lawf_29 4 42 rfl)
theorem dL_law_469 : decode cL_law 469 = .ok (.iload_n 3, 1) := dk_29 (fdB_of (k := 464) tL_lawf_29 5 29 rfl)
theorem dL_law_470 : decode cL_law 470 = .ok (.iconst 1, 1) := dk_4 (fdB_of (k := 464) tL_lawf_29 6 4 rfl)
theorem dL_law_471 : decode cL_law 471 = .ok (.iadd, 1) := dk_96 (fdB_of (k := 464) tL_lawf_29 7 96 rfl)
theorem dL_law_472 : decode cL_law 472 = .ok (.iaload, 1) := dk_46 (fdB_of (k := 464) tL_lawf_29 8 46 rfl)
theorem dL_law_473 : decode cL_law 473 = .ok (.aload_n 0, 1) := dk_42 (fdB_of (k := 464) tL_lawf_29 9 42 rfl)
theorem dL_law_474 : decode cL_law 474 = .ok (.iload_n 3, 1) := dk_29 (fdB_of (k := 464) tL_lawf_29 10 29 rfl)
theorem dL_law_475 : decode cL_law 475 = .ok (.iconst 2, 1) := dk_5 (fdB_of (k := 464) tL_lawf_29 11 5 rfl)
theorem dL_law_476 : decode cL_law 476 = .ok (.iadd, 1) := dk_96 (fdB_of (k := 464) tL_lawf_29 12 96 rfl)
theorem dL_law_477 : decode cL_law 477 = .ok (.iaload, 1) := dk_46 (fdB_of (k := 464) tL_lawf_29 13 46 rfl)
theorem dL_law_478 : decode cL_law 478 = .ok (.invokevirtual 55, 3) := dk_182 (fdB_of (k := 464) tL_lawf_29 14 182 rfl) (fdB_of (k := 464) tL_lawf_29 15 0 rfl) (fdB_of (k := 480) tL_lawf_30 0 55 rfl)
theorem dL_law_481 : decode cL_law 481 = .ok (.pop, 1) := dk_87 (fdB_of (k := 480) tL_lawf_30 1 87 rfl)
theorem dL_law_482 : decode cL_law 482 = .ok (.aload_n 2, 1) := dk_44 (fdB_of (k := 480) tL_lawf_30 2 44 rfl)
theorem dL_law_483 : decode cL_law 483 = .ok (.aload_n 0, 1) := dk_42 (fdB_of (k := 480) tL_lawf_30 3 42 rfl)
theorem dL_law_484 : decode cL_law 484 = .ok (.iload_n 3, 1) := dk_29 (fdB_of (k := 480) tL_lawf_30 4 29 rfl)
theorem dL_law_485 : decode cL_law 485 = .ok (.iconst 1, 1) := dk_4 (fdB_of (k := 480) tL_lawf_30 5 4 rfl)
theorem dL_law_486 : decode cL_law 486 = .ok (.iadd, 1) := dk_96 (fdB_of (k := 480) tL_lawf_30 6 96 rfl)
theorem dL_law_487 : decode cL_law 487 = .ok (.iaload, 1) := dk_46 (fdB_of (k := 480) tL_lawf_30 7 46 rfl)
theorem dL_law_488 : decode cL_law 488 = .ok (.aload_n 0, 1) := dk_42 (fdB_of (k := 480) tL_lawf_30 8 42 rfl)
theorem dL_law_489 : decode cL_law 489 = .ok (.iload_n 3, 1) := dk_29 (fdB_of (k := 480) tL_lawf_30 9 29 rfl)
theorem dL_law_490 : decode cL_law 490 = .ok (.iconst 2, 1) := dk_5 (fdB_of (k := 480) tL_lawf_30 10 5 rfl)
theorem dL_law_491 : decode cL_law 491 = .ok (.iadd, 1) := dk_96 (fdB_of (k := 480) tL_lawf_30 11 96 rfl)
theorem dL_law_492 : decode cL_law 492 = .ok (.iaload, 1) := dk_46 (fdB_of (k := 480) tL_lawf_30 12 46 rfl)
theorem dL_law_493 : decode cL_law 493 = .ok (.invokevirtual 58, 3) := dk_182 (fdB_of (k := 480) tL_lawf_30 13 182 rfl) (fdB_of (k := 480) tL_lawf_30 14 0 rfl) (fdB_of (k := 480) tL_lawf_30 15 58 rfl)
theorem dL_law_496 : decode cL_law 496 = .ok (.pop, 1) := dk_87 (fdB_of (k := 496) tL_lawf_31 0 87 rfl)
theorem dL_law_497 : decode cL_law 497 = .ok (.goto 607, 3) := dk_167 (fdB_of (k := 496) tL_lawf_31 1 167 rfl) (fdB_of (k := 496) tL_lawf_31 2 2 rfl) (fdB_of (k := 496) tL_lawf_31 3 95 rfl) (by decide +kernel)
theorem dL_law_500 : decode cL_law 500 = .ok (.aload_n 1, 1) := dk_43 (fdB_of (k := 496) tL_lawf_31 4 43 rfl)
theorem dL_law_501 : decode cL_law 501 = .ok (.aload_n 0, 1) := dk_42 (fdB_of (k := 496) tL_lawf_31 5 42 rfl)
theorem dL_law_502 : decode cL_law 502 = .ok (.iload_n 3, 1) := dk_29 (fdB_of (k := 496) tL_lawf_31 6 29 rfl)
theorem dL_law_503 : decode cL_law 503 = .ok (.iconst 1, 1) := dk_4 (fdB_of (k := 496) tL_lawf_31 7 4 rfl)
theorem dL_law_504 : decode cL_law 504 = .ok (.iadd, 1) := dk_96 (fdB_of (k := 496) tL_lawf_31 8 96 rfl)
theorem dL_law_505 : decode cL_law 505 = .ok (.iaload, 1) := dk_46 (fdB_of (k := 496) tL_lawf_31 9 46 rfl)
theorem dL_law_506 : decode cL_law 506 = .ok (.invokevirtual 59, 3) := dk_182 (fdB_of (k := 496) tL_lawf_31 10 182 rfl) (fdB_of (k := 496) tL_lawf_31 11 0 rfl) (fdB_of (k := 496) tL_lawf_31 12 59 rfl)
theorem dL_law_509 : decode cL_law 509 = .ok (.pop, 1) := dk_87 (fdB_of (k := 496) tL_lawf_31 13 87 rfl)
theorem dL_law_510 : decode cL_law 510 = .ok (.aload_n 2, 1) := dk_44 (fdB_of (k := 496) tL_lawf_31 14 44 rfl)
theorem dL_law_511 : decode cL_law 511 = .ok (.aload_n 0, 1) := dk_42 (fdB_of (k := 496) tL_lawf_31 15 42 rfl)
theorem dL_law_512 : decode cL_law 512 = .ok (.iload_n 3, 1) := dk_29 (fdB_of (k := 512) tL_lawf_32 0 29 rfl)
theorem dL_law_513 : decode cL_law 513 = .ok (.iconst 1, 1) := dk_4 (fdB_of (k := 512) tL_lawf_32 1 4 rfl)
theorem dL_law_514 : decode cL_law 514 = .ok (.iadd, 1) := dk_96 (fdB_of (k := 512) tL_lawf_32 2 96 rfl)
theorem dL_law_515 : decode cL_law 515 = .ok (.iaload, 1) := dk_46 (fdB_of (k := 512) tL_lawf_32 3 46 rfl)
theorem dL_law_516 : decode cL_law 516 = .ok (.invokevirtual 63, 3) := dk_182 (fdB_of (k := 512) tL_lawf_32 4 182 rfl) (fdB_of (k := 512) tL_lawf_32 5 0 rfl) (fdB_of (k := 512) tL_lawf_32 6 63 rfl)
theorem dL_law_519 : decode cL_law 519 = .ok (.pop, 1) := dk_87 (fdB_of (k := 512) tL_lawf_32 7 87 rfl)
theorem dL_law_520 : decode cL_law 520 = .ok (.goto 584, 3) := dk_167 (fdB_of (k := 512) tL_lawf_32 8 167 rfl) (fdB_of (k := 512) tL_lawf_32 9 2 rfl) (fdB_of (k := 512) tL_lawf_32 10 72 rfl) (by decide +kernel)
theorem dL_law_523 : decode cL_law 523 = .ok (.aload_n 1, 1) := dk_43 (fdB_of (k := 512) tL_lawf_32 11 43 rfl)
theorem dL_law_524 : decode cL_law 524 = .ok (.aload_n 0, 1) := dk_42 (fdB_of (k := 512) tL_lawf_32 12 42 rfl)
theorem dL_law_525 : decode cL_law 525 = .ok (.iload_n 3, 1) := dk_29 (fdB_of (k := 512) tL_lawf_32 13 29 rfl)
theorem dL_law_526 : decode cL_law 526 = .ok (.iconst 1, 1) := dk_4 (fdB_of (k := 512) tL_lawf_32 14 4 rfl)
theorem dL_law_527 : decode cL_law 527 = .ok (.iadd, 1) := dk_96 (fdB_of (k := 512) tL_lawf_32 15 96 rfl)
theorem dL_law_528 : decode cL_law 528 = .ok (.iaload, 1) := dk_46 (fdB_of (k := 528) tL_lawf_33 0 46 rfl)
theorem dL_law_529 : decode cL_law 529 = .ok (.aload_n 0, 1) := dk_42 (fdB_of (k := 528) tL_lawf_33 1 42 rfl)
theorem dL_law_530 : decode cL_law 530 = .ok (.iload_n 3, 1) := dk_29 (fdB_of (k := 528) tL_lawf_33 2 29 rfl)
theorem dL_law_531 : decode cL_law 531 = .ok (.iconst 2, 1) := dk_5 (fdB_of (k := 528) tL_lawf_33 3 5 rfl)
theorem dL_law_532 : decode cL_law 532 = .ok (.iadd, 1) := dk_96 (fdB_of (k := 528) tL_lawf_33 4 96 rfl)
theorem dL_law_533 : decode cL_law 533 = .ok (.iaload, 1) := dk_46 (fdB_of (k := 528) tL_lawf_33 5 46 rfl)
theorem dL_law_534 : decode cL_law 534 = .ok (.aload_n 0, 1) := dk_42 (fdB_of (k := 528) tL_lawf_33 6 42 rfl)
theorem dL_law_535 : decode cL_law 535 = .ok (.iload_n 3, 1) := dk_29 (fdB_of (k := 528) tL_lawf_33 7 29 rfl)
theorem dL_law_536 : decode cL_law 536 = .ok (.iconst 3, 1) := dk_6 (fdB_of (k := 528) tL_lawf_33 8 6 rfl)
theorem dL_law_537 : decode cL_law 537 = .ok (.iadd, 1) := dk_96 (fdB_of (k := 528) tL_lawf_33 9 96 rfl)
theorem dL_law_538 : decode cL_law 538 = .ok (.iaload, 1) := dk_46 (fdB_of (k := 528) tL_lawf_33 10 46 rfl)
theorem dL_law_539 : decode cL_law 539 = .ok (.aload_n 0, 1) := dk_42 (fdB_of (k := 528) tL_lawf_33 11 42 rfl)
theorem dL_law_540 : decode cL_law 540 = .ok (.iload_n 3, 1) := dk_29 (fdB_of (k := 528) tL_lawf_33 12 29 rfl)
theorem dL_law_541 : decode cL_law 541 = .ok (.iconst 4, 1) := dk_7 (fdB_of (k := 528) tL_lawf_33 13 7 rfl)
theorem dL_law_542 : decode cL_law 542 = .ok (.iadd, 1) := dk_96 (fdB_of (k := 528) tL_lawf_33 14 96 rfl)
theorem dL_law_543 : decode cL_law 543 = .ok (.iaload, 1) := dk_46 (fdB_of (k := 528) tL_lawf_33 15 46 rfl)
theorem dL_law_544 : decode cL_law 544 = .ok (.invokevirtual 64, 3) := dk_182 (fdB_of (k := 544) tL_lawf_34 0 182 rfl) (fdB_of (k := 544) tL_lawf_34 1 0 rfl) (fdB_of (k := 544) tL_lawf_34 2 64 rfl)
theorem dL_law_547 : decode cL_law 547 = .ok (.pop, 1) := dk_87 (fdB_of (k := 544) tL_lawf_34 3 87 rfl)
theorem dL_law_548 : decode cL_law 548 = .ok (.aload_n 2, 1) := dk_44 (fdB_of (k := 544) tL_lawf_34 4 44 rfl)
theorem dL_law_549 : decode cL_law 549 = .ok (.aload_n 0, 1) := dk_42 (fdB_of (k := 544) tL_lawf_34 5 42 rfl)
theorem dL_law_550 : decode cL_law 550 = .ok (.iload_n 3, 1) := dk_29 (fdB_of (k := 544) tL_lawf_34 6 29 rfl)
theorem dL_law_551 : decode cL_law 551 = .ok (.iconst 1, 1) := dk_4 (fdB_of (k := 544) tL_lawf_34 7 4 rfl)
theorem dL_law_552 : decode cL_law 552 = .ok (.iadd, 1) := dk_96 (fdB_of (k := 544) tL_lawf_34 8 96 rfl)
theorem dL_law_553 : decode cL_law 553 = .ok (.iaload, 1) := dk_46 (fdB_of (k := 544) tL_lawf_34 9 46 rfl)
theorem dL_law_554 : decode cL_law 554 = .ok (.aload_n 0, 1) := dk_42 (fdB_of (k := 544) tL_lawf_34 10 42 rfl)
theorem dL_law_555 : decode cL_law 555 = .ok (.iload_n 3, 1) := dk_29 (fdB_of (k := 544) tL_lawf_34 11 29 rfl)
theorem dL_law_556 : decode cL_law 556 = .ok (.iconst 2, 1) := dk_5 (fdB_of (k := 544) tL_lawf_34 12 5 rfl)
theorem dL_law_557 : decode cL_law 557 = .ok (.iadd, 1) := dk_96 (fdB_of (k := 544) tL_lawf_34 13 96 rfl)
theorem dL_law_558 : decode cL_law 558 = .ok (.iaload, 1) := dk_46 (fdB_of (k := 544) tL_lawf_34 14 46 rfl)
theorem dL_law_559 : decode cL_law 559 = .ok (.aload_n 0, 1) := dk_42 (fdB_of (k := 544) tL_lawf_34 15 42 rfl)
theorem dL_law_560 : decode cL_law 560 = .ok (.iload_n 3, 1) := dk_29 (fdB_of (k := 560) tL_lawf_35 0 29 rfl)
theorem dL_law_561 : decode cL_law 561 = .ok (.iconst 3, 1) := dk_6 (fdB_of (k := 560) tL_lawf_35 1 6 rfl)
theorem dL_law_562 : decode cL_law 562 = .ok (.iadd, 1) := dk_96 (fdB_of (k := 560) tL_lawf_35 2 96 rfl)
theorem dL_law_563 : decode cL_law 563 = .ok (.iaload, 1) := dk_46 (fdB_of (k := 560) tL_lawf_35 3 46 rfl)
theorem dL_law_564 : decode cL_law 564 = .ok (.aload_n 0, 1) := dk_42 (fdB_of (k := 560) tL_lawf_35 4 42 rfl)
theorem dL_law_565 : decode cL_law 565 = .ok (.iload_n 3, 1) := dk_29 (fdB_of (k := 560) tL_lawf_35 5 29 rfl)
theorem dL_law_566 : decode cL_law 566 = .ok (.iconst 4, 1) := dk_7 (fdB_of (k := 560) tL_lawf_35 6 7 rfl)
theorem dL_law_567 : decode cL_law 567 = .ok (.iadd, 1) := dk_96 (fdB_of (k := 560) tL_lawf_35 7 96 rfl)
theorem dL_law_568 : decode cL_law 568 = .ok (.iaload, 1) := dk_46 (fdB_of (k := 560) tL_lawf_35 8 46 rfl)
theorem dL_law_569 : decode cL_law 569 = .ok (.invokevirtual 67, 3) := dk_182 (fdB_of (k := 560) tL_lawf_35 9 182 rfl) (fdB_of (k := 560) tL_lawf_35 10 0 rfl) (fdB_of (k := 560) tL_lawf_35 11 67 rfl)
theorem dL_law_572 : decode cL_law 572 = .ok (.pop, 1) := dk_87 (fdB_of (k := 560) tL_lawf_35 12 87 rfl)
theorem dL_law_573 : decode cL_law 573 = .ok (.goto 531, 3) := dk_167 (fdB_of (k := 560) tL_lawf_35 13 167 rfl) (fdB_of (k := 560) tL_lawf_35 14 2 rfl) (fdB_of (k := 560) tL_lawf_35 15 19 rfl) (by decide +kernel)
theorem dL_law_576 : decode cL_law 576 = .ok (.aload_n 1, 1) := dk_43 (fdB_of (k := 576) tL_lawf_36 0 43 rfl)
theorem dL_law_577 : decode cL_law 577 = .ok (.aload_n 0, 1) := dk_42 (fdB_of (k := 576) tL_lawf_36 1 42 rfl)
theorem dL_law_578 : decode cL_law 578 = .ok (.iload_n 3, 1) := dk_29 (fdB_of (k := 576) tL_lawf_36 2 29 rfl)
theorem dL_law_579 : decode cL_law 579 = .ok (.iconst 1, 1) := dk_4 (fdB_of (k := 576) tL_lawf_36 3 4 rfl)
theorem dL_law_580 : decode cL_law 580 = .ok (.iadd, 1) := dk_96 (fdB_of (k := 576) tL_lawf_36 4 96 rfl)
theorem dL_law_581 : decode cL_law 581 = .ok (.iaload, 1) := dk_46 (fdB_of (k := 576) tL_lawf_36 5 46 rfl)
theorem dL_law_582 : decode cL_law 582 = .ok (.aload_n 0, 1) := dk_42 (fdB_of (k := 576) tL_lawf_36 6 42 rfl)
theorem dL_law_583 : decode cL_law 583 = .ok (.iload_n 3, 1) := dk_29 (fdB_of (k := 576) tL_lawf_36 7 29 rfl)
theorem dL_law_584 : decode cL_law 584 = .ok (.iconst 2, 1) := dk_5 (fdB_of (k := 576) tL_lawf_36 8 5 rfl)
theorem dL_law_585 : decode cL_law 585 = .ok (.iadd, 1) := dk_96 (fdB_of (k := 576) tL_lawf_36 9 96 rfl)
theorem dL_law_586 : decode cL_law 586 = .ok (.iaload, 1) := dk_46 (fdB_of (k := 576) tL_lawf_36 10 46 rfl)
theorem dL_law_587 : decode cL_law 587 = .ok (.invokevirtual 68, 3) := dk_182 (fdB_of (k := 576) tL_lawf_36 11 182 rfl) (fdB_of (k := 576) tL_lawf_36 12 0 rfl) (fdB_of (k := 576) tL_lawf_36 13 68 rfl)
theorem dL_law_590 : decode cL_law 590 = .ok (.pop, 1) := dk_87 (fdB_of (k := 576) tL_lawf_36 14 87 rfl)
theorem dL_law_591 : decode cL_law 591 = .ok (.aload_n 2, 1) := dk_44 (fdB_of (k := 576) tL_lawf_36 15 44 rfl)
theorem dL_law_592 : decode cL_law 592 = .ok (.aload_n 0, 1) := dk_42 (fdB_of (k := 592) tL_lawf_37 0 42 rfl)
theorem dL_law_593 : decode cL_law 593 = .ok (.iload_n 3, 1) := dk_29 (fdB_of (k := 592) tL_lawf_37 1 29 rfl)
theorem dL_law_594 : decode cL_law 594 = .ok (.iconst 1, 1) := dk_4 (fdB_of (k := 592) tL_lawf_37 2 4 rfl)
theorem dL_law_595 : decode cL_law 595 = .ok (.iadd, 1) := dk_96 (fdB_of (k := 592) tL_lawf_37 3 96 rfl)
theorem dL_law_596 : decode cL_law 596 = .ok (.iaload, 1) := dk_46 (fdB_of (k := 592) tL_lawf_37 4 46 rfl)
theorem dL_law_597 : decode cL_law 597 = .ok (.aload_n 0, 1) := dk_42 (fdB_of (k := 592) tL_lawf_37 5 42 rfl)
theorem dL_law_598 : decode cL_law 598 = .ok (.iload_n 3, 1) := dk_29 (fdB_of (k := 592) tL_lawf_37 6 29 rfl)
theorem dL_law_599 : decode cL_law 599 = .ok (.iconst 2, 1) := dk_5 (fdB_of (k := 592) tL_lawf_37 7 5 rfl)
theorem dL_law_600 : decode cL_law 600 = .ok (.iadd, 1) := dk_96 (fdB_of (k := 592) tL_lawf_37 8 96 rfl)
theorem dL_law_601 : decode cL_law 601 = .ok (.iaload, 1) := dk_46 (fdB_of (k := 592) tL_lawf_37 9 46 rfl)
theorem dL_law_602 : decode cL_law 602 = .ok (.invokevirtual 71, 3) := dk_182 (fdB_of (k := 592) tL_lawf_37 10 182 rfl) (fdB_of (k := 592) tL_lawf_37 11 0 rfl) (fdB_of (k := 592) tL_lawf_37 12 71 rfl)
theorem dL_law_605 : decode cL_law 605 = .ok (.pop, 1) := dk_87 (fdB_of (k := 592) tL_lawf_37 13 87 rfl)
theorem dL_law_606 : decode cL_law 606 = .ok (.goto 498, 3) := dk_167 (fdB_of (k := 592) tL_lawf_37 14 167 rfl) (fdB_of (k := 592) tL_lawf_37 15 1 rfl) (fdB_of (k := 608) tL_lawf_38 0 242 rfl) (by decide +kernel)
theorem dL_law_609 : decode cL_law 609 = .ok (.aload_n 1, 1) := dk_43 (fdB_of (k := 608) tL_lawf_38 1 43 rfl)
theorem dL_law_610 : decode cL_law 610 = .ok (.aload_n 0, 1) := dk_42 (fdB_of (k := 608) tL_lawf_38 2 42 rfl)
theorem dL_law_611 : decode cL_law 611 = .ok (.iload_n 3, 1) := dk_29 (fdB_of (k := 608) tL_lawf_38 3 29 rfl)
theorem dL_law_612 : decode cL_law 612 = .ok (.iconst 1, 1) := dk_4 (fdB_of (k := 608) tL_lawf_38 4 4 rfl)
theorem dL_law_613 : decode cL_law 613 = .ok (.iadd, 1) := dk_96 (fdB_of (k := 608) tL_lawf_38 5 96 rfl)
theorem dL_law_614 : decode cL_law 614 = .ok (.iaload, 1) := dk_46 (fdB_of (k := 608) tL_lawf_38 6 46 rfl)
theorem dL_law_615 : decode cL_law 615 = .ok (.aload_n 0, 1) := dk_42 (fdB_of (k := 608) tL_lawf_38 7 42 rfl)
theorem dL_law_616 : decode cL_law 616 = .ok (.iload_n 3, 1) := dk_29 (fdB_of (k := 608) tL_lawf_38 8 29 rfl)
theorem dL_law_617 : decode cL_law 617 = .ok (.iconst 2, 1) := dk_5 (fdB_of (k := 608) tL_lawf_38 9 5 rfl)
theorem dL_law_618 : decode cL_law 618 = .ok (.iadd, 1) := dk_96 (fdB_of (k := 608) tL_lawf_38 10 96 rfl)
theorem dL_law_619 : decode cL_law 619 = .ok (.iaload, 1) := dk_46 (fdB_of (k := 608) tL_lawf_38 11 46 rfl)
theorem dL_law_620 : decode cL_law 620 = .ok (.invokevirtual 72, 3) := dk_182 (fdB_of (k := 608) tL_lawf_38 12 182 rfl) (fdB_of (k := 608) tL_lawf_38 13 0 rfl) (fdB_of (k := 608) tL_lawf_38 14 72 rfl)
theorem dL_law_623 : decode cL_law 623 = .ok (.pop, 1) := dk_87 (fdB_of (k := 608) tL_lawf_38 15 87 rfl)
theorem dL_law_624 : decode cL_law 624 = .ok (.aload_n 2, 1) := dk_44 (fdB_of (k := 624) tL_lawf_39 0 44 rfl)
theorem dL_law_625 : decode cL_law 625 = .ok (.aload_n 0, 1) := dk_42 (fdB_of (k := 624) tL_lawf_39 1 42 rfl)
theorem dL_law_626 : decode cL_law 626 = .ok (.iload_n 3, 1) := dk_29 (fdB_of (k := 624) tL_lawf_39 2 29 rfl)
theorem dL_law_627 : decode cL_law 627 = .ok (.iconst 1, 1) := dk_4 (fdB_of (k := 624) tL_lawf_39 3 4 rfl)
theorem dL_law_628 : decode cL_law 628 = .ok (.iadd, 1) := dk_96 (fdB_of (k := 624) tL_lawf_39 4 96 rfl)
theorem dL_law_629 : decode cL_law 629 = .ok (.iaload, 1) := dk_46 (fdB_of (k := 624) tL_lawf_39 5 46 rfl)
theorem dL_law_630 : decode cL_law 630 = .ok (.aload_n 0, 1) := dk_42 (fdB_of (k := 624) tL_lawf_39 6 42 rfl)
theorem dL_law_631 : decode cL_law 631 = .ok (.iload_n 3, 1) := dk_29 (fdB_of (k := 624) tL_lawf_39 7 29 rfl)
theorem dL_law_632 : decode cL_law 632 = .ok (.iconst 2, 1) := dk_5 (fdB_of (k := 624) tL_lawf_39 8 5 rfl)
theorem dL_law_633 : decode cL_law 633 = .ok (.iadd, 1) := dk_96 (fdB_of (k := 624) tL_lawf_39 9 96 rfl)
theorem dL_law_634 : decode cL_law 634 = .ok (.iaload, 1) := dk_46 (fdB_of (k := 624) tL_lawf_39 10 46 rfl)
theorem dL_law_635 : decode cL_law 635 = .ok (.invokevirtual 75, 3) := dk_182 (fdB_of (k := 624) tL_lawf_39 11 182 rfl) (fdB_of (k := 624) tL_lawf_39 12 0 rfl) (fdB_of (k := 624) tL_lawf_39 13 75 rfl)
theorem dL_law_638 : decode cL_law 638 = .ok (.pop, 1) := dk_87 (fdB_of (k := 624) tL_lawf_39 14 87 rfl)
theorem dL_law_639 : decode cL_law 639 = .ok (.goto 465, 3) := dk_167 (fdB_of (k := 624) tL_lawf_39 15 167 rfl) (fdB_of (k := 640) tL_lawf_40 0 1 rfl) (fdB_of (k := 640) tL_lawf_40 1 209 rfl) (by decide +kernel)
theorem dL_law_642 : decode cL_law 642 = .ok (.aload_n 1, 1) := dk_43 (fdB_of (k := 640) tL_lawf_40 2 43 rfl)
theorem dL_law_643 : decode cL_law 643 = .ok (.aload_n 0, 1) := dk_42 (fdB_of (k := 640) tL_lawf_40 3 42 rfl)
theorem dL_law_644 : decode cL_law 644 = .ok (.iload_n 3, 1) := dk_29 (fdB_of (k := 640) tL_lawf_40 4 29 rfl)
theorem dL_law_645 : decode cL_law 645 = .ok (.iconst 1, 1) := dk_4 (fdB_of (k := 640) tL_lawf_40 5 4 rfl)
theorem dL_law_646 : decode cL_law 646 = .ok (.iadd, 1) := dk_96 (fdB_of (k := 640) tL_lawf_40 6 96 rfl)
theorem dL_law_647 : decode cL_law 647 = .ok (.iaload, 1) := dk_46 (fdB_of (k := 640) tL_lawf_40 7 46 rfl)
theorem dL_law_648 : decode cL_law 648 = .ok (.aload_n 0, 1) := dk_42 (fdB_of (k := 640) tL_lawf_40 8 42 rfl)
theorem dL_law_649 : decode cL_law 649 = .ok (.iload_n 3, 1) := dk_29 (fdB_of (k := 640) tL_lawf_40 9 29 rfl)
theorem dL_law_650 : decode cL_law 650 = .ok (.iconst 2, 1) := dk_5 (fdB_of (k := 640) tL_lawf_40 10 5 rfl)
theorem dL_law_651 : decode cL_law 651 = .ok (.iadd, 1) := dk_96 (fdB_of (k := 640) tL_lawf_40 11 96 rfl)
theorem dL_law_652 : decode cL_law 652 = .ok (.iaload, 1) := dk_46 (fdB_of (k := 640) tL_lawf_40 12 46 rfl)
theorem dL_law_653 : decode cL_law 653 = .ok (.invokevirtual 76, 3) := dk_182 (fdB_of (k := 640) tL_lawf_40 13 182 rfl) (fdB_of (k := 640) tL_lawf_40 14 0 rfl) (fdB_of (k := 640) tL_lawf_40 15 76 rfl)
theorem dL_law_656 : decode cL_law 656 = .ok (.pop, 1) := dk_87 (fdB_of (k := 656) tL_lawf_41 0 87 rfl)
theorem dL_law_657 : decode cL_law 657 = .ok (.aload_n 2, 1) := dk_44 (fdB_of (k := 656) tL_lawf_41 1 44 rfl)
theorem dL_law_658 : decode cL_law 658 = .ok (.aload_n 0, 1) := dk_42 (fdB_of (k := 656) tL_lawf_41 2 42 rfl)
theorem dL_law_659 : decode cL_law 659 = .ok (.iload_n 3, 1) := dk_29 (fdB_of (k := 656) tL_lawf_41 3 29 rfl)
theorem dL_law_660 : decode cL_law 660 = .ok (.iconst 1, 1) := dk_4 (fdB_of (k := 656) tL_lawf_41 4 4 rfl)
theorem dL_law_661 : decode cL_law 661 = .ok (.iadd, 1) := dk_96 (fdB_of (k := 656) tL_lawf_41 5 96 rfl)
theorem dL_law_662 : decode cL_law 662 = .ok (.iaload, 1) := dk_46 (fdB_of (k := 656) tL_lawf_41 6 46 rfl)
theorem dL_law_663 : decode cL_law 663 = .ok (.aload_n 0, 1) := dk_42 (fdB_of (k := 656) tL_lawf_41 7 42 rfl)
theorem dL_law_664 : decode cL_law 664 = .ok (.iload_n 3, 1) := dk_29 (fdB_of (k := 656) tL_lawf_41 8 29 rfl)
theorem dL_law_665 : decode cL_law 665 = .ok (.iconst 2, 1) := dk_5 (fdB_of (k := 656) tL_lawf_41 9 5 rfl)
theorem dL_law_666 : decode cL_law 666 = .ok (.iadd, 1) := dk_96 (fdB_of (k := 656) tL_lawf_41 10 96 rfl)
theorem dL_law_667 : decode cL_law 667 = .ok (.iaload, 1) := dk_46 (fdB_of (k := 656) tL_lawf_41 11 46 rfl)
theorem dL_law_668 : decode cL_law 668 = .ok (.invokevirtual 79, 3) := dk_182 (fdB_of (k := 656) tL_lawf_41 12 182 rfl) (fdB_of (k := 656) tL_lawf_41 13 0 rfl) (fdB_of (k := 656) tL_lawf_41 14 79 rfl)
theorem dL_law_671 : decode cL_law 671 = .ok (.pop, 1) := dk_87 (fdB_of (k := 656) tL_lawf_41 15 87 rfl)
theorem dL_law_672 : decode cL_law 672 = .ok (.goto 432, 3) := dk_167 (fdB_of (k := 672) tL_lawf_42 0 167 rfl) (fdB_of (k := 672) tL_lawf_42 1 1 rfl) (fdB_of (k := 672) tL_lawf_42 2 176 rfl) (by decide +kernel)
theorem dL_law_675 : decode cL_law 675 = .ok (.aload_n 1, 1) := dk_43 (fdB_of (k := 672) tL_lawf_42 3 43 rfl)
theorem dL_law_676 : decode cL_law 676 = .ok (.aload_n 0, 1) := dk_42 (fdB_of (k := 672) tL_lawf_42 4 42 rfl)
theorem dL_law_677 : decode cL_law 677 = .ok (.iload_n 3, 1) := dk_29 (fdB_of (k := 672) tL_lawf_42 5 29 rfl)
theorem dL_law_678 : decode cL_law 678 = .ok (.iconst 1, 1) := dk_4 (fdB_of (k := 672) tL_lawf_42 6 4 rfl)
theorem dL_law_679 : decode cL_law 679 = .ok (.iadd, 1) := dk_96 (fdB_of (k := 672) tL_lawf_42 7 96 rfl)
theorem dL_law_680 : decode cL_law 680 = .ok (.iaload, 1) := dk_46 (fdB_of (k := 672) tL_lawf_42 8 46 rfl)
theorem dL_law_681 : decode cL_law 681 = .ok (.aload_n 0, 1) := dk_42 (fdB_of (k := 672) tL_lawf_42 9 42 rfl)
theorem dL_law_682 : decode cL_law 682 = .ok (.iload_n 3, 1) := dk_29 (fdB_of (k := 672) tL_lawf_42 10 29 rfl)
theorem dL_law_683 : decode cL_law 683 = .ok (.iconst 2, 1) := dk_5 (fdB_of (k := 672) tL_lawf_42 11 5 rfl)
theorem dL_law_684 : decode cL_law 684 = .ok (.iadd, 1) := dk_96 (fdB_of (k := 672) tL_lawf_42 12 96 rfl)
theorem dL_law_685 : decode cL_law 685 = .ok (.iaload, 1) := dk_46 (fdB_of (k := 672) tL_lawf_42 13 46 rfl)
theorem dL_law_686 : decode cL_law 686 = .ok (.aload_n 0, 1) := dk_42 (fdB_of (k := 672) tL_lawf_42 14 42 rfl)
theorem dL_law_687 : decode cL_law 687 = .ok (.iload_n 3, 1) := dk_29 (fdB_of (k := 672) tL_lawf_42 15 29 rfl)
theorem dL_law_688 : decode cL_law 688 = .ok (.iconst 3, 1) := dk_6 (fdB_of (k := 688) tL_lawf_43 0 6 rfl)
theorem dL_law_689 : decode cL_law 689 = .ok (.iadd, 1) := dk_96 (fdB_of (k := 688) tL_lawf_43 1 96 rfl)
theorem dL_law_690 : decode cL_law 690 = .ok (.iaload, 1) := dk_46 (fdB_of (k := 688) tL_lawf_43 2 46 rfl)
theorem dL_law_691 : decode cL_law 691 = .ok (.invokevirtual 80, 3) := dk_182 (fdB_of (k := 688) tL_lawf_43 3 182 rfl) (fdB_of (k := 688) tL_lawf_43 4 0 rfl) (fdB_of (k := 688) tL_lawf_43 5 80 rfl)
theorem dL_law_694 : decode cL_law 694 = .ok (.pop, 1) := dk_87 (fdB_of (k := 688) tL_lawf_43 6 87 rfl)
theorem dL_law_695 : decode cL_law 695 = .ok (.aload_n 2, 1) := dk_44 (fdB_of (k := 688) tL_lawf_43 7 44 rfl)
theorem dL_law_696 : decode cL_law 696 = .ok (.aload_n 0, 1) := dk_42 (fdB_of (k := 688) tL_lawf_43 8 42 rfl)
theorem dL_law_697 : decode cL_law 697 = .ok (.iload_n 3, 1) := dk_29 (fdB_of (k := 688) tL_lawf_43 9 29 rfl)
theorem dL_law_698 : decode cL_law 698 = .ok (.iconst 1, 1) := dk_4 (fdB_of (k := 688) tL_lawf_43 10 4 rfl)
theorem dL_law_699 : decode cL_law 699 = .ok (.iadd, 1) := dk_96 (fdB_of (k := 688) tL_lawf_43 11 96 rfl)
theorem dL_law_700 : decode cL_law 700 = .ok (.iaload, 1) := dk_46 (fdB_of (k := 688) tL_lawf_43 12 46 rfl)
theorem dL_law_701 : decode cL_law 701 = .ok (.aload_n 0, 1) := dk_42 (fdB_of (k := 688) tL_lawf_43 13 42 rfl)
theorem dL_law_702 : decode cL_law 702 = .ok (.iload_n 3, 1) := dk_29 (fdB_of (k := 688) tL_lawf_43 14 29 rfl)
theorem dL_law_703 : decode cL_law 703 = .ok (.iconst 2, 1) := dk_5 (fdB_of (k := 688) tL_lawf_43 15 5 rfl)
theorem dL_law_704 : decode cL_law 704 = .ok (.iadd, 1) := dk_96 (fdB_of (k := 704) tL_lawf_44 0 96 rfl)
theorem dL_law_705 : decode cL_law 705 = .ok (.iaload, 1) := dk_46 (fdB_of (k := 704) tL_lawf_44 1 46 rfl)
theorem dL_law_706 : decode cL_law 706 = .ok (.aload_n 0, 1) := dk_42 (fdB_of (k := 704) tL_lawf_44 2 42 rfl)
theorem dL_law_707 : decode cL_law 707 = .ok (.iload_n 3, 1) := dk_29 (fdB_of (k := 704) tL_lawf_44 3 29 rfl)
theorem dL_law_708 : decode cL_law 708 = .ok (.iconst 3, 1) := dk_6 (fdB_of (k := 704) tL_lawf_44 4 6 rfl)
theorem dL_law_709 : decode cL_law 709 = .ok (.iadd, 1) := dk_96 (fdB_of (k := 704) tL_lawf_44 5 96 rfl)
theorem dL_law_710 : decode cL_law 710 = .ok (.iaload, 1) := dk_46 (fdB_of (k := 704) tL_lawf_44 6 46 rfl)
theorem dL_law_711 : decode cL_law 711 = .ok (.invokevirtual 84, 3) := dk_182 (fdB_of (k := 704) tL_lawf_44 7 182 rfl) (fdB_of (k := 704) tL_lawf_44 8 0 rfl) (fdB_of (k := 704) tL_lawf_44 9 84 rfl)
theorem dL_law_714 : decode cL_law 714 = .ok (.pop, 1) := dk_87 (fdB_of (k := 704) tL_lawf_44 10 87 rfl)
theorem dL_law_715 : decode cL_law 715 = .ok (.goto 389, 3) := dk_167 (fdB_of (k := 704) tL_lawf_44 11 167 rfl) (fdB_of (k := 704) tL_lawf_44 12 1 rfl) (fdB_of (k := 704) tL_lawf_44 13 133 rfl) (by decide +kernel)
theorem dL_law_718 : decode cL_law 718 = .ok (.aload_n 1, 1) := dk_43 (fdB_of (k := 704) tL_lawf_44 14 43 rfl)
theorem dL_law_719 : decode cL_law 719 = .ok (.aload_n 0, 1) := dk_42 (fdB_of (k := 704) tL_lawf_44 15 42 rfl)
theorem dL_law_720 : decode cL_law 720 = .ok (.iload_n 3, 1) := dk_29 (fdB_of (k := 720) tL_lawf_45 0 29 rfl)
theorem dL_law_721 : decode cL_law 721 = .ok (.iconst 1, 1) := dk_4 (fdB_of (k := 720) tL_lawf_45 1 4 rfl)
theorem dL_law_722 : decode cL_law 722 = .ok (.iadd, 1) := dk_96 (fdB_of (k := 720) tL_lawf_45 2 96 rfl)
theorem dL_law_723 : decode cL_law 723 = .ok (.iaload, 1) := dk_46 (fdB_of (k := 720) tL_lawf_45 3 46 rfl)
theorem dL_law_724 : decode cL_law 724 = .ok (.aload_n 0, 1) := dk_42 (fdB_of (k := 720) tL_lawf_45 4 42 rfl)
theorem dL_law_725 : decode cL_law 725 = .ok (.iload_n 3, 1) := dk_29 (fdB_of (k := 720) tL_lawf_45 5 29 rfl)
theorem dL_law_726 : decode cL_law 726 = .ok (.iconst 2, 1) := dk_5 (fdB_of (k := 720) tL_lawf_45 6 5 rfl)
theorem dL_law_727 : decode cL_law 727 = .ok (.iadd, 1) := dk_96 (fdB_of (k := 720) tL_lawf_45 7 96 rfl)
theorem dL_law_728 : decode cL_law 728 = .ok (.iaload, 1) := dk_46 (fdB_of (k := 720) tL_lawf_45 8 46 rfl)
theorem dL_law_729 : decode cL_law 729 = .ok (.invokevirtual 85, 3) := dk_182 (fdB_of (k := 720) tL_lawf_45 9 182 rfl) (fdB_of (k := 720) tL_lawf_45 10 0 rfl) (fdB_of (k := 720) tL_lawf_45 11 85 rfl)
theorem dL_law_732 : decode cL_law 732 = .ok (.pop, 1) := dk_87 (fdB_of (k := 720) tL_lawf_45 12 87 rfl)
theorem dL_law_733 : decode cL_law 733 = .ok (.aload_n 2, 1) := dk_44 (fdB_of (k := 720) tL_lawf_45 13 44 rfl)
theorem dL_law_734 : decode cL_law 734 = .ok (.aload_n 0, 1) := dk_42 (fdB_of (k := 720) tL_lawf_45 14 42 rfl)
theorem dL_law_735 : decode cL_law 735 = .ok (.iload_n 3, 1) := dk_29 (fdB_of (k := 720) tL_lawf_45 15 29 rfl)
theorem dL_law_736 : decode cL_law 736 = .ok (.iconst 1, 1) := dk_4 (fdB_of (k := 736) tL_lawf_46 0 4 rfl)
theorem dL_law_737 : decode cL_law 737 = .ok (.iadd, 1) := dk_96 (fdB_of (k := 736) tL_lawf_46 1 96 rfl)
theorem dL_law_738 : decode cL_law 738 = .ok (.iaload, 1) := dk_46 (fdB_of (k := 736) tL_lawf_46 2 46 rfl)
theorem dL_law_739 : decode cL_law 739 = .ok (.aload_n 0, 1) := dk_42 (fdB_of (k := 736) tL_lawf_46 3 42 rfl)
theorem dL_law_740 : decode cL_law 740 = .ok (.iload_n 3, 1) := dk_29 (fdB_of (k := 736) tL_lawf_46 4 29 rfl)
theorem dL_law_741 : decode cL_law 741 = .ok (.iconst 2, 1) := dk_5 (fdB_of (k := 736) tL_lawf_46 5 5 rfl)
theorem dL_law_742 : decode cL_law 742 = .ok (.iadd, 1) := dk_96 (fdB_of (k := 736) tL_lawf_46 6 96 rfl)
theorem dL_law_743 : decode cL_law 743 = .ok (.iaload, 1) := dk_46 (fdB_of (k := 736) tL_lawf_46 7 46 rfl)
theorem dL_law_744 : decode cL_law 744 = .ok (.invokevirtual 88, 3) := dk_182 (fdB_of (k := 736) tL_lawf_46 8 182 rfl) (fdB_of (k := 736) tL_lawf_46 9 0 rfl) (fdB_of (k := 736) tL_lawf_46 10 88 rfl)
theorem dL_law_747 : decode cL_law 747 = .ok (.pop, 1) := dk_87 (fdB_of (k := 736) tL_lawf_46 11 87 rfl)
theorem dL_law_748 : decode cL_law 748 = .ok (.goto 356, 3) := dk_167 (fdB_of (k := 736) tL_lawf_46 12 167 rfl) (fdB_of (k := 736) tL_lawf_46 13 1 rfl) (fdB_of (k := 736) tL_lawf_46 14 100 rfl) (by decide +kernel)
theorem dL_law_751 : decode cL_law 751 = .ok (.aload_n 1, 1) := dk_43 (fdB_of (k := 736) tL_lawf_46 15 43 rfl)
theorem dL_law_752 : decode cL_law 752 = .ok (.aload_n 0, 1) := dk_42 (fdB_of (k := 752) tL_lawf_47 0 42 rfl)
theorem dL_law_753 : decode cL_law 753 = .ok (.iload_n 3, 1) := dk_29 (fdB_of (k := 752) tL_lawf_47 1 29 rfl)
theorem dL_law_754 : decode cL_law 754 = .ok (.iconst 1, 1) := dk_4 (fdB_of (k := 752) tL_lawf_47 2 4 rfl)
theorem dL_law_755 : decode cL_law 755 = .ok (.iadd, 1) := dk_96 (fdB_of (k := 752) tL_lawf_47 3 96 rfl)
theorem dL_law_756 : decode cL_law 756 = .ok (.iaload, 1) := dk_46 (fdB_of (k := 752) tL_lawf_47 4 46 rfl)
theorem dL_law_757 : decode cL_law 757 = .ok (.aload_n 0, 1) := dk_42 (fdB_of (k := 752) tL_lawf_47 5 42 rfl)
theorem dL_law_758 : decode cL_law 758 = .ok (.iload_n 3, 1) := dk_29 (fdB_of (k := 752) tL_lawf_47 6 29 rfl)
theorem dL_law_759 : decode cL_law 759 = .ok (.iconst 2, 1) := dk_5 (fdB_of (k := 752) tL_lawf_47 7 5 rfl)
theorem dL_law_760 : decode cL_law 760 = .ok (.iadd, 1) := dk_96 (fdB_of (k := 752) tL_lawf_47 8 96 rfl)
theorem dL_law_761 : decode cL_law 761 = .ok (.iaload, 1) := dk_46 (fdB_of (k := 752) tL_lawf_47 9 46 rfl)
theorem dL_law_762 : decode cL_law 762 = .ok (.aload_n 0, 1) := dk_42 (fdB_of (k := 752) tL_lawf_47 10 42 rfl)
theorem dL_law_763 : decode cL_law 763 = .ok (.iload_n 3, 1) := dk_29 (fdB_of (k := 752) tL_lawf_47 11 29 rfl)
theorem dL_law_764 : decode cL_law 764 = .ok (.iconst 3, 1) := dk_6 (fdB_of (k := 752) tL_lawf_47 12 6 rfl)
theorem dL_law_765 : decode cL_law 765 = .ok (.iadd, 1) := dk_96 (fdB_of (k := 752) tL_lawf_47 13 96 rfl)
theorem dL_law_766 : decode cL_law 766 = .ok (.iaload, 1) := dk_46 (fdB_of (k := 752) tL_lawf_47 14 46 rfl)
theorem dL_law_767 : decode cL_law 767 = .ok (.invokevirtual 89, 3) := dk_182 (fdB_of (k := 752) tL_lawf_47 15 182 rfl) (fdB_of (k := 768) tL_lawf_48 0 0 rfl) (fdB_of (k := 768) tL_lawf_48 1 89 rfl)
theorem dL_law_770 : decode cL_law 770 = .ok (.pop, 1) := dk_87 (fdB_of (k := 768) tL_lawf_48 2 87 rfl)
theorem dL_law_771 : decode cL_law 771 = .ok (.aload_n 2, 1) := dk_44 (fdB_of (k := 768) tL_lawf_48 3 44 rfl)
theorem dL_law_772 : decode cL_law 772 = .ok (.aload_n 0, 1) := dk_42 (fdB_of (k := 768) tL_lawf_48 4 42 rfl)
theorem dL_law_773 : decode cL_law 773 = .ok (.iload_n 3, 1) := dk_29 (fdB_of (k := 768) tL_lawf_48 5 29 rfl)
theorem dL_law_774 : decode cL_law 774 = .ok (.iconst 1, 1) := dk_4 (fdB_of (k := 768) tL_lawf_48 6 4 rfl)
theorem dL_law_775 : decode cL_law 775 = .ok (.iadd, 1) := dk_96 (fdB_of (k := 768) tL_lawf_48 7 96 rfl)
theorem dL_law_776 : decode cL_law 776 = .ok (.iaload, 1) := dk_46 (fdB_of (k := 768) tL_lawf_48 8 46 rfl)
theorem dL_law_777 : decode cL_law 777 = .ok (.aload_n 0, 1) := dk_42 (fdB_of (k := 768) tL_lawf_48 9 42 rfl)
theorem dL_law_778 : decode cL_law 778 = .ok (.iload_n 3, 1) := dk_29 (fdB_of (k := 768) tL_lawf_48 10 29 rfl)
theorem dL_law_779 : decode cL_law 779 = .ok (.iconst 2, 1) := dk_5 (fdB_of (k := 768) tL_lawf_48 11 5 rfl)
theorem dL_law_780 : decode cL_law 780 = .ok (.iadd, 1) := dk_96 (fdB_of (k := 768) tL_lawf_48 12 96 rfl)
theorem dL_law_781 : decode cL_law 781 = .ok (.iaload, 1) := dk_46 (fdB_of (k := 768) tL_lawf_48 13 46 rfl)
theorem dL_law_782 : decode cL_law 782 = .ok (.aload_n 0, 1) := dk_42 (fdB_of (k := 768) tL_lawf_48 14 42 rfl)
theorem dL_law_783 : decode cL_law 783 = .ok (.iload_n 3, 1) := dk_29 (fdB_of (k := 768) tL_lawf_48 15 29 rfl)
theorem dL_law_784 : decode cL_law 784 = .ok (.iconst 3, 1) := dk_6 (fdB_of (k := 784) tL_lawf_49 0 6 rfl)
theorem dL_law_785 : decode cL_law 785 = .ok (.iadd, 1) := dk_96 (fdB_of (k := 784) tL_lawf_49 1 96 rfl)
theorem dL_law_786 : decode cL_law 786 = .ok (.iaload, 1) := dk_46 (fdB_of (k := 784) tL_lawf_49 2 46 rfl)
theorem dL_law_787 : decode cL_law 787 = .ok (.invokevirtual 92, 3) := dk_182 (fdB_of (k := 784) tL_lawf_49 3 182 rfl) (fdB_of (k := 784) tL_lawf_49 4 0 rfl) (fdB_of (k := 784) tL_lawf_49 5 92 rfl)
theorem dL_law_790 : decode cL_law 790 = .ok (.pop, 1) := dk_87 (fdB_of (k := 784) tL_lawf_49 6 87 rfl)
theorem dL_law_791 : decode cL_law 791 = .ok (.goto 313, 3) := dk_167 (fdB_of (k := 784) tL_lawf_49 7 167 rfl) (fdB_of (k := 784) tL_lawf_49 8 1 rfl) (fdB_of (k := 784) tL_lawf_49 9 57 rfl) (by decide +kernel)
theorem dL_law_794 : decode cL_law 794 = .ok (.aload_n 1, 1) := dk_43 (fdB_of (k := 784) tL_lawf_49 10 43 rfl)
theorem dL_law_795 : decode cL_law 795 = .ok (.aload_n 0, 1) := dk_42 (fdB_of (k := 784) tL_lawf_49 11 42 rfl)
theorem dL_law_796 : decode cL_law 796 = .ok (.iload_n 3, 1) := dk_29 (fdB_of (k := 784) tL_lawf_49 12 29 rfl)
theorem dL_law_797 : decode cL_law 797 = .ok (.iconst 1, 1) := dk_4 (fdB_of (k := 784) tL_lawf_49 13 4 rfl)
theorem dL_law_798 : decode cL_law 798 = .ok (.iadd, 1) := dk_96 (fdB_of (k := 784) tL_lawf_49 14 96 rfl)
theorem dL_law_799 : decode cL_law 799 = .ok (.iaload, 1) := dk_46 (fdB_of (k := 784) tL_lawf_49 15 46 rfl)
theorem dL_law_800 : decode cL_law 800 = .ok (.aload_n 0, 1) := dk_42 (fdB_of (k := 800) tL_lawf_50 0 42 rfl)
theorem dL_law_801 : decode cL_law 801 = .ok (.iload_n 3, 1) := dk_29 (fdB_of (k := 800) tL_lawf_50 1 29 rfl)
theorem dL_law_802 : decode cL_law 802 = .ok (.iconst 2, 1) := dk_5 (fdB_of (k := 800) tL_lawf_50 2 5 rfl)
theorem dL_law_803 : decode cL_law 803 = .ok (.iadd, 1) := dk_96 (fdB_of (k := 800) tL_lawf_50 3 96 rfl)
theorem dL_law_804 : decode cL_law 804 = .ok (.iaload, 1) := dk_46 (fdB_of (k := 800) tL_lawf_50 4 46 rfl)
theorem dL_law_805 : decode cL_law 805 = .ok (.aload_n 0, 1) := dk_42 (fdB_of (k := 800) tL_lawf_50 5 42 rfl)
theorem dL_law_806 : decode cL_law 806 = .ok (.iload_n 3, 1) := dk_29 (fdB_of (k := 800) tL_lawf_50 6 29 rfl)
theorem dL_law_807 : decode cL_law 807 = .ok (.iconst 3, 1) := dk_6 (fdB_of (k := 800) tL_lawf_50 7 6 rfl)
theorem dL_law_808 : decode cL_law 808 = .ok (.iadd, 1) := dk_96 (fdB_of (k := 800) tL_lawf_50 8 96 rfl)
theorem dL_law_809 : decode cL_law 809 = .ok (.iaload, 1) := dk_46 (fdB_of (k := 800) tL_lawf_50 9 46 rfl)
theorem dL_law_810 : decode cL_law 810 = .ok (.aload_n 0, 1) := dk_42 (fdB_of (k := 800) tL_lawf_50 10 42 rfl)
theorem dL_law_811 : decode cL_law 811 = .ok (.iload_n 3, 1) := dk_29 (fdB_of (k := 800) tL_lawf_50 11 29 rfl)
theorem dL_law_812 : decode cL_law 812 = .ok (.iconst 4, 1) := dk_7 (fdB_of (k := 800) tL_lawf_50 12 7 rfl)
theorem dL_law_813 : decode cL_law 813 = .ok (.iadd, 1) := dk_96 (fdB_of (k := 800) tL_lawf_50 13 96 rfl)
theorem dL_law_814 : decode cL_law 814 = .ok (.iaload, 1) := dk_46 (fdB_of (k := 800) tL_lawf_50 14 46 rfl)
theorem dL_law_815 : decode cL_law 815 = .ok (.invokevirtual 93, 3) := dk_182 (fdB_of (k := 800) tL_lawf_50 15 182 rfl) (fdB_of (k := 816) tL_lawf_51 0 0 rfl) (fdB_of (k := 816) tL_lawf_51 1 93 rfl)
theorem dL_law_818 : decode cL_law 818 = .ok (.pop, 1) := dk_87 (fdB_of (k := 816) tL_lawf_51 2 87 rfl)
theorem dL_law_819 : decode cL_law 819 = .ok (.aload_n 2, 1) := dk_44 (fdB_of (k := 816) tL_lawf_51 3 44 rfl)
theorem dL_law_820 : decode cL_law 820 = .ok (.aload_n 0, 1) := dk_42 (fdB_of (k := 816) tL_lawf_51 4 42 rfl)
theorem dL_law_821 : decode cL_law 821 = .ok (.iload_n 3, 1) := dk_29 (fdB_of (k := 816) tL_lawf_51 5 29 rfl)
theorem dL_law_822 : decode cL_law 822 = .ok (.iconst 1, 1) := dk_4 (fdB_of (k := 816) tL_lawf_51 6 4 rfl)
theorem dL_law_823 : decode cL_law 823 = .ok (.iadd, 1) := dk_96 (fdB_of (k := 816) tL_lawf_51 7 96 rfl)
theorem dL_law_824 : decode cL_law 824 = .ok (.iaload, 1) := dk_46 (fdB_of (k := 816) tL_lawf_51 8 46 rfl)
theorem dL_law_825 : decode cL_law 825 = .ok (.aload_n 0, 1) := dk_42 (fdB_of (k := 816) tL_lawf_51 9 42 rfl)
theorem dL_law_826 : decode cL_law 826 = .ok (.iload_n 3, 1) := dk_29 (fdB_of (k := 816) tL_lawf_51 10 29 rfl)
theorem dL_law_827 : decode cL_law 827 = .ok (.iconst 2, 1) := dk_5 (fdB_of (k := 816) tL_lawf_51 11 5 rfl)
theorem dL_law_828 : decode cL_law 828 = .ok (.iadd, 1) := dk_96 (fdB_of (k := 816) tL_lawf_51 12 96 rfl)
theorem dL_law_829 : decode cL_law 829 = .ok (.iaload, 1) := dk_46 (fdB_of (k := 816) tL_lawf_51 13 46 rfl)
theorem dL_law_830 : decode cL_law 830 = .ok (.aload_n 0, 1) := dk_42 (fdB_of (k := 816) tL_lawf_51 14 42 rfl)
theorem dL_law_831 : decode cL_law 831 = .ok (.iload_n 3, 1) := dk_29 (fdB_of (k := 816) tL_lawf_51 15 29 rfl)
theorem dL_law_832 : decode cL_law 832 = .ok (.iconst 3, 1) := dk_6 (fdB_of (k := 832) tL_lawf_52 0 6 rfl)
theorem dL_law_833 : decode cL_law 833 = .ok (.iadd, 1) := dk_96 (fdB_of (k := 832) tL_lawf_52 1 96 rfl)
theorem dL_law_834 : decode cL_law 834 = .ok (.iaload, 1) := dk_46 (fdB_of (k := 832) tL_lawf_52 2 46 rfl)
theorem dL_law_835 : decode cL_law 835 = .ok (.aload_n 0, 1) := dk_42 (fdB_of (k := 832) tL_lawf_52 3 42 rfl)
theorem dL_law_836 : decode cL_law 836 = .ok (.iload_n 3, 1) := dk_29 (fdB_of (k := 832) tL_lawf_52 4 29 rfl)
theorem dL_law_837 : decode cL_law 837 = .ok (.iconst 4, 1) := dk_7 (fdB_of (k := 832) tL_lawf_52 5 7 rfl)
theorem dL_law_838 : decode cL_law 838 = .ok (.iadd, 1) := dk_96 (fdB_of (k := 832) tL_lawf_52 6 96 rfl)
theorem dL_law_839 : decode cL_law 839 = .ok (.iaload, 1) := dk_46 (fdB_of (k := 832) tL_lawf_52 7 46 rfl)
theorem dL_law_840 : decode cL_law 840 = .ok (.invokevirtual 96, 3) := dk_182 (fdB_of (k := 832) tL_lawf_52 8 182 rfl) (fdB_of (k := 832) tL_lawf_52 9 0 rfl) (fdB_of (k := 832) tL_lawf_52 10 96 rfl)
theorem dL_law_843 : decode cL_law 843 = .ok (.pop, 1) := dk_87 (fdB_of (k := 832) tL_lawf_52 11 87 rfl)
theorem dL_law_844 : decode cL_law 844 = .ok (.goto 260, 3) := dk_167 (fdB_of (k := 832) tL_lawf_52 12 167 rfl) (fdB_of (k := 832) tL_lawf_52 13 1 rfl) (fdB_of (k := 832) tL_lawf_52 14 4 rfl) (by decide +kernel)
theorem dL_law_847 : decode cL_law 847 = .ok (.aload_n 1, 1) := dk_43 (fdB_of (k := 832) tL_lawf_52 15 43 rfl)
theorem dL_law_848 : decode cL_law 848 = .ok (.aload_n 0, 1) := dk_42 (fdB_of (k := 848) tL_lawf_53 0 42 rfl)
theorem dL_law_849 : decode cL_law 849 = .ok (.iload_n 3, 1) := dk_29 (fdB_of (k := 848) tL_lawf_53 1 29 rfl)
theorem dL_law_850 : decode cL_law 850 = .ok (.iconst 1, 1) := dk_4 (fdB_of (k := 848) tL_lawf_53 2 4 rfl)
theorem dL_law_851 : decode cL_law 851 = .ok (.iadd, 1) := dk_96 (fdB_of (k := 848) tL_lawf_53 3 96 rfl)
theorem dL_law_852 : decode cL_law 852 = .ok (.iaload, 1) := dk_46 (fdB_of (k := 848) tL_lawf_53 4 46 rfl)
theorem dL_law_853 : decode cL_law 853 = .ok (.invokevirtual 97, 3) := dk_182 (fdB_of (k := 848) tL_lawf_53 5 182 rfl) (fdB_of (k := 848) tL_lawf_53 6 0 rfl) (fdB_of (k := 848) tL_lawf_53 7 97 rfl)
theorem dL_law_856 : decode cL_law 856 = .ok (.pop, 1) := dk_87 (fdB_of (k := 848) tL_lawf_53 8 87 rfl)
theorem dL_law_857 : decode cL_law 857 = .ok (.aload_n 2, 1) := dk_44 (fdB_of (k := 848) tL_lawf_53 9 44 rfl)
theorem dL_law_858 : decode cL_law 858 = .ok (.aload_n 0, 1) := dk_42 (fdB_of (k := 848) tL_lawf_53 10 42 rfl)
theorem dL_law_859 : decode cL_law 859 = .ok (.iload_n 3, 1) := dk_29 (fdB_of (k := 848) tL_lawf_53 11 29 rfl)
theorem dL_law_860 : decode cL_law 860 = .ok (.iconst 1, 1) := dk_4 (fdB_of (k := 848) tL_lawf_53 12 4 rfl)
theorem dL_law_861 : decode cL_law 861 = .ok (.iadd, 1) := dk_96 (fdB_of (k := 848) tL_lawf_53 13 96 rfl)
theorem dL_law_862 : decode cL_law 862 = .ok (.iaload, 1) := dk_46 (fdB_of (k := 848) tL_lawf_53 14 46 rfl)
theorem dL_law_863 : decode cL_law 863 = .ok (.invokevirtual 100, 3) := dk_182 (fdB_of (k := 848) tL_lawf_53 15 182 rfl) (fdB_of (k := 864) tL_lawf_54 0 0 rfl) (fdB_of (k := 864) tL_lawf_54 1 100 rfl)
theorem dL_law_866 : decode cL_law 866 = .ok (.pop, 1) := dk_87 (fdB_of (k := 864) tL_lawf_54 2 87 rfl)
theorem dL_law_867 : decode cL_law 867 = .ok (.goto 237, 3) := dk_167 (fdB_of (k := 864) tL_lawf_54 3 167 rfl) (fdB_of (k := 864) tL_lawf_54 4 0 rfl) (fdB_of (k := 864) tL_lawf_54 5 237 rfl) (by decide +kernel)
theorem dL_law_870 : decode cL_law 870 = .ok (.aload_n 1, 1) := dk_43 (fdB_of (k := 864) tL_lawf_54 6 43 rfl)
theorem dL_law_871 : decode cL_law 871 = .ok (.aload_n 0, 1) := dk_42 (fdB_of (k := 864) tL_lawf_54 7 42 rfl)
theorem dL_law_872 : decode cL_law 872 = .ok (.iload_n 3, 1) := dk_29 (fdB_of (k := 864) tL_lawf_54 8 29 rfl)
theorem dL_law_873 : decode cL_law 873 = .ok (.iconst 1, 1) := dk_4 (fdB_of (k := 864) tL_lawf_54 9 4 rfl)
theorem dL_law_874 : decode cL_law 874 = .ok (.iadd, 1) := dk_96 (fdB_of (k := 864) tL_lawf_54 10 96 rfl)
theorem dL_law_875 : decode cL_law 875 = .ok (.iaload, 1) := dk_46 (fdB_of (k := 864) tL_lawf_54 11 46 rfl)
theorem dL_law_876 : decode cL_law 876 = .ok (.invokevirtual 101, 3) := dk_182 (fdB_of (k := 864) tL_lawf_54 12 182 rfl) (fdB_of (k := 864) tL_lawf_54 13 0 rfl) (fdB_of (k := 864) tL_lawf_54 14 101 rfl)
theorem dL_law_879 : decode cL_law 879 = .ok (.pop, 1) := dk_87 (fdB_of (k := 864) tL_lawf_54 15 87 rfl)
theorem dL_law_880 : decode cL_law 880 = .ok (.aload_n 2, 1) := dk_44 (fdB_of (k := 880) tL_lawf_55 0 44 rfl)
theorem dL_law_881 : decode cL_law 881 = .ok (.aload_n 0, 1) := dk_42 (fdB_of (k := 880) tL_lawf_55 1 42 rfl)
theorem dL_law_882 : decode cL_law 882 = .ok (.iload_n 3, 1) := dk_29 (fdB_of (k := 880) tL_lawf_55 2 29 rfl)
theorem dL_law_883 : decode cL_law 883 = .ok (.iconst 1, 1) := dk_4 (fdB_of (k := 880) tL_lawf_55 3 4 rfl)
theorem dL_law_884 : decode cL_law 884 = .ok (.iadd, 1) := dk_96 (fdB_of (k := 880) tL_lawf_55 4 96 rfl)
theorem dL_law_885 : decode cL_law 885 = .ok (.iaload, 1) := dk_46 (fdB_of (k := 880) tL_lawf_55 5 46 rfl)
theorem dL_law_886 : decode cL_law 886 = .ok (.invokevirtual 104, 3) := dk_182 (fdB_of (k := 880) tL_lawf_55 6 182 rfl) (fdB_of (k := 880) tL_lawf_55 7 0 rfl) (fdB_of (k := 880) tL_lawf_55 8 104 rfl)
theorem dL_law_889 : decode cL_law 889 = .ok (.pop, 1) := dk_87 (fdB_of (k := 880) tL_lawf_55 9 87 rfl)
theorem dL_law_890 : decode cL_law 890 = .ok (.goto 214, 3) := dk_167 (fdB_of (k := 880) tL_lawf_55 10 167 rfl) (fdB_of (k := 880) tL_lawf_55 11 0 rfl) (fdB_of (k := 880) tL_lawf_55 12 214 rfl) (by decide +kernel)
theorem dL_law_893 : decode cL_law 893 = .ok (.aload_n 1, 1) := dk_43 (fdB_of (k := 880) tL_lawf_55 13 43 rfl)
theorem dL_law_894 : decode cL_law 894 = .ok (.aload_n 0, 1) := dk_42 (fdB_of (k := 880) tL_lawf_55 14 42 rfl)
theorem dL_law_895 : decode cL_law 895 = .ok (.iload_n 3, 1) := dk_29 (fdB_of (k := 880) tL_lawf_55 15 29 rfl)
theorem dL_law_896 : decode cL_law 896 = .ok (.iconst 1, 1) := dk_4 (fdB_of (k := 896) tL_lawf_56 0 4 rfl)
theorem dL_law_897 : decode cL_law 897 = .ok (.iadd, 1) := dk_96 (fdB_of (k := 896) tL_lawf_56 1 96 rfl)
theorem dL_law_898 : decode cL_law 898 = .ok (.iaload, 1) := dk_46 (fdB_of (k := 896) tL_lawf_56 2 46 rfl)
theorem dL_law_899 : decode cL_law 899 = .ok (.aload_n 0, 1) := dk_42 (fdB_of (k := 896) tL_lawf_56 3 42 rfl)
theorem dL_law_900 : decode cL_law 900 = .ok (.iload_n 3, 1) := dk_29 (fdB_of (k := 896) tL_lawf_56 4 29 rfl)
theorem dL_law_901 : decode cL_law 901 = .ok (.iconst 2, 1) := dk_5 (fdB_of (k := 896) tL_lawf_56 5 5 rfl)
theorem dL_law_902 : decode cL_law 902 = .ok (.iadd, 1) := dk_96 (fdB_of (k := 896) tL_lawf_56 6 96 rfl)
theorem dL_law_903 : decode cL_law 903 = .ok (.iaload, 1) := dk_46 (fdB_of (k := 896) tL_lawf_56 7 46 rfl)
theorem dL_law_904 : decode cL_law 904 = .ok (.aload_n 0, 1) := dk_42 (fdB_of (k := 896) tL_lawf_56 8 42 rfl)
theorem dL_law_905 : decode cL_law 905 = .ok (.iload_n 3, 1) := dk_29 (fdB_of (k := 896) tL_lawf_56 9 29 rfl)
theorem dL_law_906 : decode cL_law 906 = .ok (.iconst 3, 1) := dk_6 (fdB_of (k := 896) tL_lawf_56 10 6 rfl)
theorem dL_law_907 : decode cL_law 907 = .ok (.iadd, 1) := dk_96 (fdB_of (k := 896) tL_lawf_56 11 96 rfl)
theorem dL_law_908 : decode cL_law 908 = .ok (.iaload, 1) := dk_46 (fdB_of (k := 896) tL_lawf_56 12 46 rfl)
theorem dL_law_909 : decode cL_law 909 = .ok (.invokevirtual 105, 3) := dk_182 (fdB_of (k := 896) tL_lawf_56 13 182 rfl) (fdB_of (k := 896) tL_lawf_56 14 0 rfl) (fdB_of (k := 896) tL_lawf_56 15 105 rfl)
theorem dL_law_912 : decode cL_law 912 = .ok (.aload_n 2, 1) := dk_44 (fdB_of (k := 912) tL_lawf_57 0 44 rfl)
theorem dL_law_913 : decode cL_law 913 = .ok (.aload_n 0, 1) := dk_42 (fdB_of (k := 912) tL_lawf_57 1 42 rfl)
theorem dL_law_914 : decode cL_law 914 = .ok (.iload_n 3, 1) := dk_29 (fdB_of (k := 912) tL_lawf_57 2 29 rfl)
theorem dL_law_915 : decode cL_law 915 = .ok (.iconst 1, 1) := dk_4 (fdB_of (k := 912) tL_lawf_57 3 4 rfl)
theorem dL_law_916 : decode cL_law 916 = .ok (.iadd, 1) := dk_96 (fdB_of (k := 912) tL_lawf_57 4 96 rfl)
theorem dL_law_917 : decode cL_law 917 = .ok (.iaload, 1) := dk_46 (fdB_of (k := 912) tL_lawf_57 5 46 rfl)
theorem dL_law_918 : decode cL_law 918 = .ok (.aload_n 0, 1) := dk_42 (fdB_of (k := 912) tL_lawf_57 6 42 rfl)
theorem dL_law_919 : decode cL_law 919 = .ok (.iload_n 3, 1) := dk_29 (fdB_of (k := 912) tL_lawf_57 7 29 rfl)
theorem dL_law_920 : decode cL_law 920 = .ok (.iconst 2, 1) := dk_5 (fdB_of (k := 912) tL_lawf_57 8 5 rfl)
theorem dL_law_921 : decode cL_law 921 = .ok (.iadd, 1) := dk_96 (fdB_of (k := 912) tL_lawf_57 9 96 rfl)
theorem dL_law_922 : decode cL_law 922 = .ok (.iaload, 1) := dk_46 (fdB_of (k := 912) tL_lawf_57 10 46 rfl)
theorem dL_law_923 : decode cL_law 923 = .ok (.aload_n 0, 1) := dk_42 (fdB_of (k := 912) tL_lawf_57 11 42 rfl)
theorem dL_law_924 : decode cL_law 924 = .ok (.iload_n 3, 1) := dk_29 (fdB_of (k := 912) tL_lawf_57 12 29 rfl)
theorem dL_law_925 : decode cL_law 925 = .ok (.iconst 3, 1) := dk_6 (fdB_of (k := 912) tL_lawf_57 13 6 rfl)
theorem dL_law_926 : decode cL_law 926 = .ok (.iadd, 1) := dk_96 (fdB_of (k := 912) tL_lawf_57 14 96 rfl)
theorem dL_law_927 : decode cL_law 927 = .ok (.iaload, 1) := dk_46 (fdB_of (k := 912) tL_lawf_57 15 46 rfl)
theorem dL_law_928 : decode cL_law 928 = .ok (.invokevirtual 108, 3) := dk_182 (fdB_of (k := 928) tL_lawf_58 0 182 rfl) (fdB_of (k := 928) tL_lawf_58 1 0 rfl) (fdB_of (k := 928) tL_lawf_58 2 108 rfl)
theorem dL_law_931 : decode cL_law 931 = .ok (.if_icmp .eq 173, 3) := dk_159 (fdB_of (k := 928) tL_lawf_58 3 159 rfl) (fdB_of (k := 928) tL_lawf_58 4 0 rfl) (fdB_of (k := 928) tL_lawf_58 5 173 rfl) (by decide +kernel)
theorem dL_law_934 : decode cL_law 934 = .ok (.iconst 0, 1) := dk_3 (fdB_of (k := 928) tL_lawf_58 6 3 rfl)
theorem dL_law_935 : decode cL_law 935 = .ok (.ireturn, 1) := dk_172 (fdB_of (k := 928) tL_lawf_58 7 172 rfl)
theorem dL_law_936 : decode cL_law 936 = .ok (.aload_n 1, 1) := dk_43 (fdB_of (k := 928) tL_lawf_58 8 43 rfl)
theorem dL_law_937 : decode cL_law 937 = .ok (.aload_n 0, 1) := dk_42 (fdB_of (k := 928) tL_lawf_58 9 42 rfl)
theorem dL_law_938 : decode cL_law 938 = .ok (.iload_n 3, 1) := dk_29 (fdB_of (k := 928) tL_lawf_58 10 29 rfl)
theorem dL_law_939 : decode cL_law 939 = .ok (.iconst 1, 1) := dk_4 (fdB_of (k := 928) tL_lawf_58 11 4 rfl)
theorem dL_law_940 : decode cL_law 940 = .ok (.iadd, 1) := dk_96 (fdB_of (k := 928) tL_lawf_58 12 96 rfl)
theorem dL_law_941 : decode cL_law 941 = .ok (.iaload, 1) := dk_46 (fdB_of (k := 928) tL_lawf_58 13 46 rfl)
theorem dL_law_942 : decode cL_law 942 = .ok (.aload_n 0, 1) := dk_42 (fdB_of (k := 928) tL_lawf_58 14 42 rfl)
theorem dL_law_943 : decode cL_law 943 = .ok (.iload_n 3, 1) := dk_29 (fdB_of (k := 928) tL_lawf_58 15 29 rfl)
theorem dL_law_944 : decode cL_law 944 = .ok (.iconst 2, 1) := dk_5 (fdB_of (k := 944) tL_lawf_59 0 5 rfl)
theorem dL_law_945 : decode cL_law 945 = .ok (.iadd, 1) := dk_96 (fdB_of (k := 944) tL_lawf_59 1 96 rfl)
theorem dL_law_946 : decode cL_law 946 = .ok (.iaload, 1) := dk_46 (fdB_of (k := 944) tL_lawf_59 2 46 rfl)
theorem dL_law_947 : decode cL_law 947 = .ok (.aload_n 0, 1) := dk_42 (fdB_of (k := 944) tL_lawf_59 3 42 rfl)
theorem dL_law_948 : decode cL_law 948 = .ok (.iload_n 3, 1) := dk_29 (fdB_of (k := 944) tL_lawf_59 4 29 rfl)
theorem dL_law_949 : decode cL_law 949 = .ok (.iconst 3, 1) := dk_6 (fdB_of (k := 944) tL_lawf_59 5 6 rfl)
theorem dL_law_950 : decode cL_law 950 = .ok (.iadd, 1) := dk_96 (fdB_of (k := 944) tL_lawf_59 6 96 rfl)
theorem dL_law_951 : decode cL_law 951 = .ok (.iaload, 1) := dk_46 (fdB_of (k := 944) tL_lawf_59 7 46 rfl)
theorem dL_law_952 : decode cL_law 952 = .ok (.aload_n 0, 1) := dk_42 (fdB_of (k := 944) tL_lawf_59 8 42 rfl)
theorem dL_law_953 : decode cL_law 953 = .ok (.iload_n 3, 1) := dk_29 (fdB_of (k := 944) tL_lawf_59 9 29 rfl)
theorem dL_law_954 : decode cL_law 954 = .ok (.iconst 4, 1) := dk_7 (fdB_of (k := 944) tL_lawf_59 10 7 rfl)
theorem dL_law_955 : decode cL_law 955 = .ok (.iadd, 1) := dk_96 (fdB_of (k := 944) tL_lawf_59 11 96 rfl)
theorem dL_law_956 : decode cL_law 956 = .ok (.iaload, 1) := dk_46 (fdB_of (k := 944) tL_lawf_59 12 46 rfl)
theorem dL_law_957 : decode cL_law 957 = .ok (.invokevirtual 109, 3) := dk_182 (fdB_of (k := 944) tL_lawf_59 13 182 rfl) (fdB_of (k := 944) tL_lawf_59 14 0 rfl) (fdB_of (k := 944) tL_lawf_59 15 109 rfl)
theorem dL_law_960 : decode cL_law 960 = .ok (.pop2, 1) := dk_88 (fdB_of (k := 960) tL_lawf_60 0 88 rfl)
theorem dL_law_961 : decode cL_law 961 = .ok (.aload_n 2, 1) := dk_44 (fdB_of (k := 960) tL_lawf_60 1 44 rfl)
theorem dL_law_962 : decode cL_law 962 = .ok (.aload_n 0, 1) := dk_42 (fdB_of (k := 960) tL_lawf_60 2 42 rfl)
theorem dL_law_963 : decode cL_law 963 = .ok (.iload_n 3, 1) := dk_29 (fdB_of (k := 960) tL_lawf_60 3 29 rfl)
theorem dL_law_964 : decode cL_law 964 = .ok (.iconst 1, 1) := dk_4 (fdB_of (k := 960) tL_lawf_60 4 4 rfl)
theorem dL_law_965 : decode cL_law 965 = .ok (.iadd, 1) := dk_96 (fdB_of (k := 960) tL_lawf_60 5 96 rfl)
theorem dL_law_966 : decode cL_law 966 = .ok (.iaload, 1) := dk_46 (fdB_of (k := 960) tL_lawf_60 6 46 rfl)
theorem dL_law_967 : decode cL_law 967 = .ok (.aload_n 0, 1) := dk_42 (fdB_of (k := 960) tL_lawf_60 7 42 rfl)
theorem dL_law_968 : decode cL_law 968 = .ok (.iload_n 3, 1) := dk_29 (fdB_of (k := 960) tL_lawf_60 8 29 rfl)
theorem dL_law_969 : decode cL_law 969 = .ok (.iconst 2, 1) := dk_5 (fdB_of (k := 960) tL_lawf_60 9 5 rfl)
theorem dL_law_970 : decode cL_law 970 = .ok (.iadd, 1) := dk_96 (fdB_of (k := 960) tL_lawf_60 10 96 rfl)
theorem dL_law_971 : decode cL_law 971 = .ok (.iaload, 1) := dk_46 (fdB_of (k := 960) tL_lawf_60 11 46 rfl)
theorem dL_law_972 : decode cL_law 972 = .ok (.aload_n 0, 1) := dk_42 (fdB_of (k := 960) tL_lawf_60 12 42 rfl)
theorem dL_law_973 : decode cL_law 973 = .ok (.iload_n 3, 1) := dk_29 (fdB_of (k := 960) tL_lawf_60 13 29 rfl)
theorem dL_law_974 : decode cL_law 974 = .ok (.iconst 3, 1) := dk_6 (fdB_of (k := 960) tL_lawf_60 14 6 rfl)
theorem dL_law_975 : decode cL_law 975 = .ok (.iadd, 1) := dk_96 (fdB_of (k := 960) tL_lawf_60 15 96 rfl)
theorem dL_law_976 : decode cL_law 976 = .ok (.iaload, 1) := dk_46 (fdB_of (k := 976) tL_lawf_61 0 46 rfl)
theorem dL_law_977 : decode cL_law 977 = .ok (.aload_n 0, 1) := dk_42 (fdB_of (k := 976) tL_lawf_61 1 42 rfl)
theorem dL_law_978 : decode cL_law 978 = .ok (.iload_n 3, 1) := dk_29 (fdB_of (k := 976) tL_lawf_61 2 29 rfl)
theorem dL_law_979 : decode cL_law 979 = .ok (.iconst 4, 1) := dk_7 (fdB_of (k := 976) tL_lawf_61 3 7 rfl)
theorem dL_law_980 : decode cL_law 980 = .ok (.iadd, 1) := dk_96 (fdB_of (k := 976) tL_lawf_61 4 96 rfl)
theorem dL_law_981 : decode cL_law 981 = .ok (.iaload, 1) := dk_46 (fdB_of (k := 976) tL_lawf_61 5 46 rfl)
theorem dL_law_982 : decode cL_law 982 = .ok (.invokevirtual 113, 3) := dk_182 (fdB_of (k := 976) tL_lawf_61 6 182 rfl) (fdB_of (k := 976) tL_lawf_61 7 0 rfl) (fdB_of (k := 976) tL_lawf_61 8 113 rfl)
theorem dL_law_985 : decode cL_law 985 = .ok (.pop2, 1) := dk_88 (fdB_of (k := 976) tL_lawf_61 9 88 rfl)
theorem dL_law_986 : decode cL_law 986 = .ok (.goto 118, 3) := dk_167 (fdB_of (k := 976) tL_lawf_61 10 167 rfl) (fdB_of (k := 976) tL_lawf_61 11 0 rfl) (fdB_of (k := 976) tL_lawf_61 12 118 rfl) (by decide +kernel)
theorem dL_law_989 : decode cL_law 989 = .ok (.aload_n 1, 1) := dk_43 (fdB_of (k := 976) tL_lawf_61 13 43 rfl)
theorem dL_law_990 : decode cL_law 990 = .ok (.aload_n 0, 1) := dk_42 (fdB_of (k := 976) tL_lawf_61 14 42 rfl)
theorem dL_law_991 : decode cL_law 991 = .ok (.iload_n 3, 1) := dk_29 (fdB_of (k := 976) tL_lawf_61 15 29 rfl)
theorem dL_law_992 : decode cL_law 992 = .ok (.iconst 1, 1) := dk_4 (fdB_of (k := 992) tL_lawf_62 0 4 rfl)
theorem dL_law_993 : decode cL_law 993 = .ok (.iadd, 1) := dk_96 (fdB_of (k := 992) tL_lawf_62 1 96 rfl)
theorem dL_law_994 : decode cL_law 994 = .ok (.iaload, 1) := dk_46 (fdB_of (k := 992) tL_lawf_62 2 46 rfl)
theorem dL_law_995 : decode cL_law 995 = .ok (.aload_n 0, 1) := dk_42 (fdB_of (k := 992) tL_lawf_62 3 42 rfl)
theorem dL_law_996 : decode cL_law 996 = .ok (.iload_n 3, 1) := dk_29 (fdB_of (k := 992) tL_lawf_62 4 29 rfl)
theorem dL_law_997 : decode cL_law 997 = .ok (.iconst 2, 1) := dk_5 (fdB_of (k := 992) tL_lawf_62 5 5 rfl)
theorem dL_law_998 : decode cL_law 998 = .ok (.iadd, 1) := dk_96 (fdB_of (k := 992) tL_lawf_62 6 96 rfl)
theorem dL_law_999 : decode cL_law 999 = .ok (.iaload, 1) := dk_46 (fdB_of (k := 992) tL_lawf_62 7 46 rfl)
theorem dL_law_1000 : decode cL_law 1000 = .ok (.invokevirtual 114, 3) := dk_182 (fdB_of (k := 992) tL_lawf_62 8 182 rfl) (fdB_of (k := 992) tL_lawf_62 9 0 rfl) (fdB_of (k := 992) tL_lawf_62 10 114 rfl)
theorem dL_law_1003 : decode cL_law 1003 = .ok (.pop, 1) := dk_87 (fdB_of (k := 992) tL_lawf_62 11 87 rfl)
theorem dL_law_1004 : decode cL_law 1004 = .ok (.aload_n 2, 1) := dk_44 (fdB_of (k := 992) tL_lawf_62 12 44 rfl)
theorem dL_law_1005 : decode cL_law 1005 = .ok (.aload_n 0, 1) := dk_42 (fdB_of (k := 992) tL_lawf_62 13 42 rfl)
theorem dL_law_1006 : decode cL_law 1006 = .ok (.iload_n 3, 1) := dk_29 (fdB_of (k := 992) tL_lawf_62 14 29 rfl)
theorem dL_law_1007 : decode cL_law 1007 = .ok (.iconst 1, 1) := dk_4 (fdB_of (k := 992) tL_lawf_62 15 4 rfl)
theorem dL_law_1008 : decode cL_law 1008 = .ok (.iadd, 1) := dk_96 (fdB_of (k := 1008) tL_lawf_63 0 96 rfl)
theorem dL_law_1009 : decode cL_law 1009 = .ok (.iaload, 1) := dk_46 (fdB_of (k := 1008) tL_lawf_63 1 46 rfl)
theorem dL_law_1010 : decode cL_law 1010 = .ok (.aload_n 0, 1) := dk_42 (fdB_of (k := 1008) tL_lawf_63 2 42 rfl)
theorem dL_law_1011 : decode cL_law 1011 = .ok (.iload_n 3, 1) := dk_29 (fdB_of (k := 1008) tL_lawf_63 3 29 rfl)
theorem dL_law_1012 : decode cL_law 1012 = .ok (.iconst 2, 1) := dk_5 (fdB_of (k := 1008) tL_lawf_63 4 5 rfl)
theorem dL_law_1013 : decode cL_law 1013 = .ok (.iadd, 1) := dk_96 (fdB_of (k := 1008) tL_lawf_63 5 96 rfl)
theorem dL_law_1014 : decode cL_law 1014 = .ok (.iaload, 1) := dk_46 (fdB_of (k := 1008) tL_lawf_63 6 46 rfl)
theorem dL_law_1015 : decode cL_law 1015 = .ok (.invokevirtual 117, 3) := dk_182 (fdB_of (k := 1008) tL_lawf_63 7 182 rfl) (fdB_of (k := 1008) tL_lawf_63 8 0 rfl) (fdB_of (k := 1008) tL_lawf_63 9 117 rfl)
theorem dL_law_1018 : decode cL_law 1018 = .ok (.pop, 1) := dk_87 (fdB_of (k := 1008) tL_lawf_63 10 87 rfl)
theorem dL_law_1019 : decode cL_law 1019 = .ok (.goto 85, 3) := dk_167 (fdB_of (k := 1008) tL_lawf_63 11 167 rfl) (fdB_of (k := 1008) tL_lawf_63 12 0 rfl) (fdB_of (k := 1008) tL_lawf_63 13 85 rfl) (by decide +kernel)
theorem dL_law_1022 : decode cL_law 1022 = .ok (.aload_n 1, 1) := dk_43 (fdB_of (k := 1008) tL_lawf_63 14 43 rfl)
theorem dL_law_1023 : decode cL_law 1023 = .ok (.aload_n 0, 1) := dk_42 (fdB_of (k := 1008) tL_lawf_63 15 42 rfl)
theorem dL_law_1024 : decode cL_law 1024 = .ok (.iload_n 3, 1) := dk_29 (fdB_of (k := 1024) tL_lawf_64 0 29 rfl)
theorem dL_law_1025 : decode cL_law 1025 = .ok (.iconst 1, 1) := dk_4 (fdB_of (k := 1024) tL_lawf_64 1 4 rfl)
theorem dL_law_1026 : decode cL_law 1026 = .ok (.iadd, 1) := dk_96 (fdB_of (k := 1024) tL_lawf_64 2 96 rfl)
theorem dL_law_1027 : decode cL_law 1027 = .ok (.iaload, 1) := dk_46 (fdB_of (k := 1024) tL_lawf_64 3 46 rfl)
theorem dL_law_1028 : decode cL_law 1028 = .ok (.invokevirtual 118, 3) := dk_182 (fdB_of (k := 1024) tL_lawf_64 4 182 rfl) (fdB_of (k := 1024) tL_lawf_64 5 0 rfl) (fdB_of (k := 1024) tL_lawf_64 6 118 rfl)
theorem dL_law_1031 : decode cL_law 1031 = .ok (.pop, 1) := dk_87 (fdB_of (k := 1024) tL_lawf_64 7 87 rfl)
theorem dL_law_1032 : decode cL_law 1032 = .ok (.aload_n 2, 1) := dk_44 (fdB_of (k := 1024) tL_lawf_64 8 44 rfl)
theorem dL_law_1033 : decode cL_law 1033 = .ok (.aload_n 0, 1) := dk_42 (fdB_of (k := 1024) tL_lawf_64 9 42 rfl)
theorem dL_law_1034 : decode cL_law 1034 = .ok (.iload_n 3, 1) := dk_29 (fdB_of (k := 1024) tL_lawf_64 10 29 rfl)
theorem dL_law_1035 : decode cL_law 1035 = .ok (.iconst 1, 1) := dk_4 (fdB_of (k := 1024) tL_lawf_64 11 4 rfl)
theorem dL_law_1036 : decode cL_law 1036 = .ok (.iadd, 1) := dk_96 (fdB_of (k := 1024) tL_lawf_64 12 96 rfl)
theorem dL_law_1037 : decode cL_law 1037 = .ok (.iaload, 1) := dk_46 (fdB_of (k := 1024) tL_lawf_64 13 46 rfl)
theorem dL_law_1038 : decode cL_law 1038 = .ok (.invokevirtual 121, 3) := dk_182 (fdB_of (k := 1024) tL_lawf_64 14 182 rfl) (fdB_of (k := 1024) tL_lawf_64 15 0 rfl) (fdB_of (k := 1040) tL_lawf_65 0 121 rfl)
theorem dL_law_1041 : decode cL_law 1041 = .ok (.pop, 1) := dk_87 (fdB_of (k := 1040) tL_lawf_65 1 87 rfl)
theorem dL_law_1042 : decode cL_law 1042 = .ok (.goto 62, 3) := dk_167 (fdB_of (k := 1040) tL_lawf_65 2 167 rfl) (fdB_of (k := 1040) tL_lawf_65 3 0 rfl) (fdB_of (k := 1040) tL_lawf_65 4 62 rfl) (by decide +kernel)
theorem dL_law_1045 : decode cL_law 1045 = .ok (.aload_n 1, 1) := dk_43 (fdB_of (k := 1040) tL_lawf_65 5 43 rfl)
theorem dL_law_1046 : decode cL_law 1046 = .ok (.aload_n 0, 1) := dk_42 (fdB_of (k := 1040) tL_lawf_65 6 42 rfl)
theorem dL_law_1047 : decode cL_law 1047 = .ok (.iload_n 3, 1) := dk_29 (fdB_of (k := 1040) tL_lawf_65 7 29 rfl)
theorem dL_law_1048 : decode cL_law 1048 = .ok (.iconst 1, 1) := dk_4 (fdB_of (k := 1040) tL_lawf_65 8 4 rfl)
theorem dL_law_1049 : decode cL_law 1049 = .ok (.iadd, 1) := dk_96 (fdB_of (k := 1040) tL_lawf_65 9 96 rfl)
theorem dL_law_1050 : decode cL_law 1050 = .ok (.iaload, 1) := dk_46 (fdB_of (k := 1040) tL_lawf_65 10 46 rfl)
theorem dL_law_1051 : decode cL_law 1051 = .ok (.invokevirtual 122, 3) := dk_182 (fdB_of (k := 1040) tL_lawf_65 11 182 rfl) (fdB_of (k := 1040) tL_lawf_65 12 0 rfl) (fdB_of (k := 1040) tL_lawf_65 13 122 rfl)
theorem dL_law_1054 : decode cL_law 1054 = .ok (.pop, 1) := dk_87 (fdB_of (k := 1040) tL_lawf_65 14 87 rfl)
theorem dL_law_1055 : decode cL_law 1055 = .ok (.aload_n 2, 1) := dk_44 (fdB_of (k := 1040) tL_lawf_65 15 44 rfl)
theorem dL_law_1056 : decode cL_law 1056 = .ok (.aload_n 0, 1) := dk_42 (fdB_of (k := 1056) tL_lawf_66 0 42 rfl)
theorem dL_law_1057 : decode cL_law 1057 = .ok (.iload_n 3, 1) := dk_29 (fdB_of (k := 1056) tL_lawf_66 1 29 rfl)
theorem dL_law_1058 : decode cL_law 1058 = .ok (.iconst 1, 1) := dk_4 (fdB_of (k := 1056) tL_lawf_66 2 4 rfl)
theorem dL_law_1059 : decode cL_law 1059 = .ok (.iadd, 1) := dk_96 (fdB_of (k := 1056) tL_lawf_66 3 96 rfl)
theorem dL_law_1060 : decode cL_law 1060 = .ok (.iaload, 1) := dk_46 (fdB_of (k := 1056) tL_lawf_66 4 46 rfl)
theorem dL_law_1061 : decode cL_law 1061 = .ok (.invokevirtual 125, 3) := dk_182 (fdB_of (k := 1056) tL_lawf_66 5 182 rfl) (fdB_of (k := 1056) tL_lawf_66 6 0 rfl) (fdB_of (k := 1056) tL_lawf_66 7 125 rfl)
theorem dL_law_1064 : decode cL_law 1064 = .ok (.pop, 1) := dk_87 (fdB_of (k := 1056) tL_lawf_66 8 87 rfl)
theorem dL_law_1065 : decode cL_law 1065 = .ok (.goto 39, 3) := dk_167 (fdB_of (k := 1056) tL_lawf_66 9 167 rfl) (fdB_of (k := 1056) tL_lawf_66 10 0 rfl) (fdB_of (k := 1056) tL_lawf_66 11 39 rfl) (by decide +kernel)
theorem dL_law_1068 : decode cL_law 1068 = .ok (.aload_n 1, 1) := dk_43 (fdB_of (k := 1056) tL_lawf_66 12 43 rfl)
theorem dL_law_1069 : decode cL_law 1069 = .ok (.aload_n 0, 1) := dk_42 (fdB_of (k := 1056) tL_lawf_66 13 42 rfl)
theorem dL_law_1070 : decode cL_law 1070 = .ok (.iload_n 3, 1) := dk_29 (fdB_of (k := 1056) tL_lawf_66 14 29 rfl)
theorem dL_law_1071 : decode cL_law 1071 = .ok (.iconst 1, 1) := dk_4 (fdB_of (k := 1056) tL_lawf_66 15 4 rfl)
theorem dL_law_1072 : decode cL_law 1072 = .ok (.iadd, 1) := dk_96 (fdB_of (k := 1072) tL_lawf_67 0 96 rfl)
theorem dL_law_1073 : decode cL_law 1073 = .ok (.iaload, 1) := dk_46 (fdB_of (k := 1072) tL_lawf_67 1 46 rfl)
theorem dL_law_1074 : decode cL_law 1074 = .ok (.invokevirtual 126, 3) := dk_182 (fdB_of (k := 1072) tL_lawf_67 2 182 rfl) (fdB_of (k := 1072) tL_lawf_67 3 0 rfl) (fdB_of (k := 1072) tL_lawf_67 4 126 rfl)
theorem dL_law_1077 : decode cL_law 1077 = .ok (.pop, 1) := dk_87 (fdB_of (k := 1072) tL_lawf_67 5 87 rfl)
theorem dL_law_1078 : decode cL_law 1078 = .ok (.aload_n 2, 1) := dk_44 (fdB_of (k := 1072) tL_lawf_67 6 44 rfl)
theorem dL_law_1079 : decode cL_law 1079 = .ok (.aload_n 0, 1) := dk_42 (fdB_of (k := 1072) tL_lawf_67 7 42 rfl)
theorem dL_law_1080 : decode cL_law 1080 = .ok (.iload_n 3, 1) := dk_29 (fdB_of (k := 1072) tL_lawf_67 8 29 rfl)
theorem dL_law_1081 : decode cL_law 1081 = .ok (.iconst 1, 1) := dk_4 (fdB_of (k := 1072) tL_lawf_67 9 4 rfl)
theorem dL_law_1082 : decode cL_law 1082 = .ok (.iadd, 1) := dk_96 (fdB_of (k := 1072) tL_lawf_67 10 96 rfl)
theorem dL_law_1083 : decode cL_law 1083 = .ok (.iaload, 1) := dk_46 (fdB_of (k := 1072) tL_lawf_67 11 46 rfl)
theorem dL_law_1084 : decode cL_law 1084 = .ok (.invokevirtual 129, 3) := dk_182 (fdB_of (k := 1072) tL_lawf_67 12 182 rfl) (fdB_of (k := 1072) tL_lawf_67 13 0 rfl) (fdB_of (k := 1072) tL_lawf_67 14 129 rfl)
theorem dL_law_1087 : decode cL_law 1087 = .ok (.pop, 1) := dk_87 (fdB_of (k := 1072) tL_lawf_67 15 87 rfl)
theorem dL_law_1088 : decode cL_law 1088 = .ok (.goto 16, 3) := dk_167 (fdB_of (k := 1088) tL_lawf_68 0 167 rfl) (fdB_of (k := 1088) tL_lawf_68 1 0 rfl) (fdB_of (k := 1088) tL_lawf_68 2 16 rfl) (by decide +kernel)
theorem dL_law_1091 : decode cL_law 1091 = .ok (.aload_n 1, 1) := dk_43 (fdB_of (k := 1088) tL_lawf_68 3 43 rfl)
theorem dL_law_1092 : decode cL_law 1092 = .ok (.invokevirtual 130, 3) := dk_182 (fdB_of (k := 1088) tL_lawf_68 4 182 rfl) (fdB_of (k := 1088) tL_lawf_68 5 0 rfl) (fdB_of (k := 1088) tL_lawf_68 6 130 rfl)
theorem dL_law_1095 : decode cL_law 1095 = .ok (.pop2, 1) := dk_88 (fdB_of (k := 1088) tL_lawf_68 7 88 rfl)
theorem dL_law_1096 : decode cL_law 1096 = .ok (.aload_n 2, 1) := dk_44 (fdB_of (k := 1088) tL_lawf_68 8 44 rfl)
theorem dL_law_1097 : decode cL_law 1097 = .ok (.invokevirtual 134, 3) := dk_182 (fdB_of (k := 1088) tL_lawf_68 9 182 rfl) (fdB_of (k := 1088) tL_lawf_68 10 0 rfl) (fdB_of (k := 1088) tL_lawf_68 11 134 rfl)
theorem dL_law_1100 : decode cL_law 1100 = .ok (.pop2, 1) := dk_88 (fdB_of (k := 1088) tL_lawf_68 12 88 rfl)
theorem dL_law_1101 : decode cL_law 1101 = .ok (.goto 3, 3) := dk_167 (fdB_of (k := 1088) tL_lawf_68 13 167 rfl) (fdB_of (k := 1088) tL_lawf_68 14 0 rfl) (fdB_of (k := 1088) tL_lawf_68 15 3 rfl) (by decide +kernel)
theorem dL_law_1104 : decode cL_law 1104 = .ok (.iinc 3 5, 3) := dk_132 (fdB_of (k := 1104) tL_lawf_69 0 132 rfl) (fdB_of (k := 1104) tL_lawf_69 1 3 rfl) (fdB_of (k := 1104) tL_lawf_69 2 5 rfl) (by decide +kernel)
theorem dL_law_1107 : decode cL_law 1107 = .ok (.goto (-1089), 3) := dk_167 (fdB_of (k := 1104) tL_lawf_69 3 167 rfl) (fdB_of (k := 1104) tL_lawf_69 4 251 rfl) (fdB_of (k := 1104) tL_lawf_69 5 191 rfl) (by decide +kernel)
theorem dL_law_1110 : decode cL_law 1110 = .ok (.iconst 1, 1) := dk_4 (fdB_of (k := 1104) tL_lawf_69 6 4 rfl)
theorem dL_law_1111 : decode cL_law 1111 = .ok (.ireturn, 1) := dk_172 (fdB_of (k := 1104) tL_lawf_69 7 172 rfl)

theorem sc_in {j L c : Nat} (h : j + 5 ≤ L) (hL : L ≤ 2560) (hc : c < 5) : vp_in (nI j + nI c) L := by
  rw [nI_add]
  exact vp_in_nI (by omega) (by omega)

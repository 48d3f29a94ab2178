/-! THE CLAIM OUT OF ONE WALK OF THE LAW'S BODY. Your part is whole_start (and what it stands on); all else here is the same for every law, but numbers. -/
def R_law : String := "DigesterRatesLaw"
def lw_P (b : Addr) (xs : List Int32) (args : Array Value) (s : State) : Prop := args = #[.ref b] ∧ s.IntsAt b xs ∧ xs.length ≤ 2560 ∧ (Jvm.Cond.and given_1 narrow_1).before args s = true
def lw_Q (_ : Array Value) (s : State) (o : Outcome) (t : State) : Prop := o = .returned (some (.int 1)) ∧ Framed s o t [] 600000 7302250
def lw_Z (below : List Frame) (a : Array Value) (s : State) : State → Prop := fun t => ∃ o, t.status = .running ∧ Ended t below o ∧ lw_Q a s o t
/-- the law's own end, with 1 on the stack, nothing written that was there before, its room as the claim has it -/
theorem lw_ret {p : Program} {l : Launch} {e : Env} {s : State} {m : MethodId} {below : List Frame} {meth : Method} {c : Code} {b : Nat} (hx : p.tables.exec = Jvm.exec) (hb : c.code = code) (hr : meth.sig.returnType = ret) (hlocks : meth.locks = false) {pc : Nat} {H : Heap} {ls : Array Slot} (hdg : decode code pc = .ok (.ireturn, 1)) : W p l e room_1 s m #[Value.ref b] below meth c H [] 600000 7302250 (lw_Z below #[Value.ref b] s) (F0 m pc ls [.int 1]) := by
  intro T hT X
  obtain ⟨fs, hret, hrun, hended, hW, hframe⟩ := X.leave (v := some (.int 1)) (hlocks := hlocks) (fun h => by rw [hr] at h; cases h)
  have hmeth' : T.vm.method? m = some meth := X.method'
  refine ⟨T.setFrames fs, ?_, .returned (some (.int 1)), hrun, hended, rfl, ⟨_, rfl⟩, hW, hframe⟩
  jvm_step X.here [X.here.top, hx, hb, hdg, hmeth', hr, ret, narrow_b1]
  (try refine ⟨rfl, ?_⟩); (try refine ⟨rfl, ?_⟩)
  first | (intro acts; rw [hret _ acts rfl rfl rfl]) | rw [hret _ _ rfl rfl rfl]
  exact Steps.refl _
/-- what holds at the law's entry: the machine, the code, the tables' words (any of lw_tbl by 'hts w (by decide +kernel)'), the script of L ints xs at the cell b, what the Statement gives of the start (any of its parts by flat_of_before) -/
def lw_At (p : Program) (s : State) (m : MethodId) (meth : Method) (c : Code) (b L : Nat) (xs : Nat → Int32) : Prop :=
  p.tables.exec = Jvm.exec ∧ c.code = code ∧ meth.sig.returnType = ret ∧ c.maxLocals = 4 ∧ s.vm.findClass R_law = some m.cls ∧ (∀ w ∈ lw_tbl, w.before #[Value.ref b] s = true) ∧ va_X b L xs s s.heap ∧ b < s.heap.size ∧ meth.locks = false ∧ (Jvm.Cond.and given_1 narrow_1).before #[Value.ref b] s = true
theorem d_Law_law_0 : decode code 0 = .ok (.new 7, 3) := by decide +kernel
theorem d_Law_law_3 : decode code 3 = .ok (.dup, 1) := by decide +kernel
theorem d_Law_law_4 : decode code 4 = .ok (.invokespecial 9, 3) := by decide +kernel
theorem d_Law_law_7 : decode code 7 = .ok (.astore_n 1, 1) := by decide +kernel
theorem d_Law_law_8 : decode code 8 = .ok (.new 10, 3) := by decide +kernel
theorem d_Law_law_11 : decode code 11 = .ok (.dup, 1) := by decide +kernel
theorem d_Law_law_12 : decode code 12 = .ok (.invokespecial 12, 3) := by decide +kernel
theorem d_Law_law_15 : decode code 15 = .ok (.astore_n 2, 1) := by decide +kernel
theorem d_Law_law_16 : decode code 16 = .ok (.iconst 0, 1) := by decide +kernel
theorem d_Law_law_17 : decode code 17 = .ok (.istore_n 3, 1) := by decide +kernel
theorem d_Law_law_18 : decode code 18 = .ok (.iload_n 3, 1) := by decide +kernel
theorem d_Law_law_19 : decode code 19 = .ok (.aload_n 0, 1) := by decide +kernel
theorem d_Law_law_20 : decode code 20 = .ok (.arraylength, 1) := by decide +kernel
theorem d_Law_law_21 : decode code 21 = .ok (.iconst 5, 1) := by decide +kernel
theorem d_Law_law_22 : decode code 22 = .ok (.isub, 1) := by decide +kernel
theorem d_Law_law_23 : decode code 23 = .ok (.if_icmp .gt 631, 3) := by decide +kernel
theorem d_Law_law_26 : decode code 26 = .ok (.aload_n 0, 1) := by decide +kernel
theorem d_Law_law_27 : decode code 27 = .ok (.iload_n 3, 1) := by decide +kernel
theorem d_Law_law_28 : decode code 28 = .ok (.iaload, 1) := by decide +kernel
theorem d_Law_law_29 : decode code 29 = .ok (.bipush 31, 2) := by decide +kernel
theorem d_Law_law_31 : decode code 31 = .ok (.iand, 1) := by decide +kernel
theorem d_Law_law_32 : decode code 32 = .ok (.tableswitch 616 0 17 #[88, 131, 164, 207, 240, 263, 286, 319, 342, 366, 390, 414, 438, 451, 504, 557, 580, 603], 88) := by decide +kernel
theorem d_Law_law_120 : decode code 120 = .ok (.aload_n 1, 1) := by decide +kernel
theorem d_Law_law_121 : decode code 121 = .ok (.aload_n 0, 1) := by decide +kernel
theorem d_Law_law_122 : decode code 122 = .ok (.iload_n 3, 1) := by decide +kernel
theorem d_Law_law_123 : decode code 123 = .ok (.iconst 1, 1) := by decide +kernel
theorem d_Law_law_124 : decode code 124 = .ok (.iadd, 1) := by decide +kernel
theorem d_Law_law_125 : decode code 125 = .ok (.iaload, 1) := by decide +kernel
theorem d_Law_law_126 : decode code 126 = .ok (.aload_n 0, 1) := by decide +kernel
theorem d_Law_law_127 : decode code 127 = .ok (.iload_n 3, 1) := by decide +kernel
theorem d_Law_law_128 : decode code 128 = .ok (.iconst 2, 1) := by decide +kernel
theorem d_Law_law_129 : decode code 129 = .ok (.iadd, 1) := by decide +kernel
theorem d_Law_law_130 : decode code 130 = .ok (.iaload, 1) := by decide +kernel
theorem d_Law_law_131 : decode code 131 = .ok (.aload_n 0, 1) := by decide +kernel
theorem d_Law_law_132 : decode code 132 = .ok (.iload_n 3, 1) := by decide +kernel
theorem d_Law_law_133 : decode code 133 = .ok (.iconst 3, 1) := by decide +kernel
theorem d_Law_law_134 : decode code 134 = .ok (.iadd, 1) := by decide +kernel
theorem d_Law_law_135 : decode code 135 = .ok (.iaload, 1) := by decide +kernel
theorem d_Law_law_136 : decode code 136 = .ok (.invokevirtual 13, 3) := by decide +kernel
theorem d_Law_law_139 : decode code 139 = .ok (.aload_n 2, 1) := by decide +kernel
theorem d_Law_law_140 : decode code 140 = .ok (.aload_n 0, 1) := by decide +kernel
theorem d_Law_law_141 : decode code 141 = .ok (.iload_n 3, 1) := by decide +kernel
theorem d_Law_law_142 : decode code 142 = .ok (.iconst 1, 1) := by decide +kernel
theorem d_Law_law_143 : decode code 143 = .ok (.iadd, 1) := by decide +kernel
theorem d_Law_law_144 : decode code 144 = .ok (.iaload, 1) := by decide +kernel
theorem d_Law_law_145 : decode code 145 = .ok (.aload_n 0, 1) := by decide +kernel
theorem d_Law_law_146 : decode code 146 = .ok (.iload_n 3, 1) := by decide +kernel
theorem d_Law_law_147 : decode code 147 = .ok (.iconst 2, 1) := by decide +kernel
theorem d_Law_law_148 : decode code 148 = .ok (.iadd, 1) := by decide +kernel
theorem d_Law_law_149 : decode code 149 = .ok (.iaload, 1) := by decide +kernel
theorem d_Law_law_150 : decode code 150 = .ok (.aload_n 0, 1) := by decide +kernel
theorem d_Law_law_151 : decode code 151 = .ok (.iload_n 3, 1) := by decide +kernel
theorem d_Law_law_152 : decode code 152 = .ok (.iconst 3, 1) := by decide +kernel
theorem d_Law_law_153 : decode code 153 = .ok (.iadd, 1) := by decide +kernel
theorem d_Law_law_154 : decode code 154 = .ok (.iaload, 1) := by decide +kernel
theorem d_Law_law_155 : decode code 155 = .ok (.invokevirtual 17, 3) := by decide +kernel
theorem d_Law_law_158 : decode code 158 = .ok (.if_icmp .eq 490, 3) := by decide +kernel
theorem d_Law_law_161 : decode code 161 = .ok (.iconst 0, 1) := by decide +kernel
theorem d_Law_law_162 : decode code 162 = .ok (.ireturn, 1) := by decide +kernel
theorem d_Law_law_163 : decode code 163 = .ok (.aload_n 1, 1) := by decide +kernel
theorem d_Law_law_164 : decode code 164 = .ok (.aload_n 0, 1) := by decide +kernel
theorem d_Law_law_165 : decode code 165 = .ok (.iload_n 3, 1) := by decide +kernel
theorem d_Law_law_166 : decode code 166 = .ok (.iconst 1, 1) := by decide +kernel
theorem d_Law_law_167 : decode code 167 = .ok (.iadd, 1) := by decide +kernel
theorem d_Law_law_168 : decode code 168 = .ok (.iaload, 1) := by decide +kernel
theorem d_Law_law_169 : decode code 169 = .ok (.aload_n 0, 1) := by decide +kernel
theorem d_Law_law_170 : decode code 170 = .ok (.iload_n 3, 1) := by decide +kernel
theorem d_Law_law_171 : decode code 171 = .ok (.iconst 2, 1) := by decide +kernel
theorem d_Law_law_172 : decode code 172 = .ok (.iadd, 1) := by decide +kernel
theorem d_Law_law_173 : decode code 173 = .ok (.iaload, 1) := by decide +kernel
theorem d_Law_law_174 : decode code 174 = .ok (.invokevirtual 18, 3) := by decide +kernel
theorem d_Law_law_177 : decode code 177 = .ok (.aload_n 2, 1) := by decide +kernel
theorem d_Law_law_178 : decode code 178 = .ok (.aload_n 0, 1) := by decide +kernel
theorem d_Law_law_179 : decode code 179 = .ok (.iload_n 3, 1) := by decide +kernel
theorem d_Law_law_180 : decode code 180 = .ok (.iconst 1, 1) := by decide +kernel
theorem d_Law_law_181 : decode code 181 = .ok (.iadd, 1) := by decide +kernel
theorem d_Law_law_182 : decode code 182 = .ok (.iaload, 1) := by decide +kernel
theorem d_Law_law_183 : decode code 183 = .ok (.aload_n 0, 1) := by decide +kernel
theorem d_Law_law_184 : decode code 184 = .ok (.iload_n 3, 1) := by decide +kernel
theorem d_Law_law_185 : decode code 185 = .ok (.iconst 2, 1) := by decide +kernel
theorem d_Law_law_186 : decode code 186 = .ok (.iadd, 1) := by decide +kernel
theorem d_Law_law_187 : decode code 187 = .ok (.iaload, 1) := by decide +kernel
theorem d_Law_law_188 : decode code 188 = .ok (.invokevirtual 22, 3) := by decide +kernel
theorem d_Law_law_191 : decode code 191 = .ok (.if_icmp .eq 457, 3) := by decide +kernel
theorem d_Law_law_194 : decode code 194 = .ok (.iconst 0, 1) := by decide +kernel
theorem d_Law_law_195 : decode code 195 = .ok (.ireturn, 1) := by decide +kernel
theorem d_Law_law_196 : decode code 196 = .ok (.aload_n 1, 1) := by decide +kernel
theorem d_Law_law_197 : decode code 197 = .ok (.aload_n 0, 1) := by decide +kernel
theorem d_Law_law_198 : decode code 198 = .ok (.iload_n 3, 1) := by decide +kernel
theorem d_Law_law_199 : decode code 199 = .ok (.iconst 1, 1) := by decide +kernel
theorem d_Law_law_200 : decode code 200 = .ok (.iadd, 1) := by decide +kernel
theorem d_Law_law_201 : decode code 201 = .ok (.iaload, 1) := by decide +kernel
theorem d_Law_law_202 : decode code 202 = .ok (.aload_n 0, 1) := by decide +kernel
theorem d_Law_law_203 : decode code 203 = .ok (.iload_n 3, 1) := by decide +kernel
theorem d_Law_law_204 : decode code 204 = .ok (.iconst 2, 1) := by decide +kernel
theorem d_Law_law_205 : decode code 205 = .ok (.iadd, 1) := by decide +kernel
theorem d_Law_law_206 : decode code 206 = .ok (.iaload, 1) := by decide +kernel
theorem d_Law_law_207 : decode code 207 = .ok (.aload_n 0, 1) := by decide +kernel
theorem d_Law_law_208 : decode code 208 = .ok (.iload_n 3, 1) := by decide +kernel
theorem d_Law_law_209 : decode code 209 = .ok (.iconst 3, 1) := by decide +kernel
theorem d_Law_law_210 : decode code 210 = .ok (.iadd, 1) := by decide +kernel
theorem d_Law_law_211 : decode code 211 = .ok (.iaload, 1) := by decide +kernel
theorem d_Law_law_212 : decode code 212 = .ok (.invokevirtual 23, 3) := by decide +kernel
theorem d_Law_law_215 : decode code 215 = .ok (.aload_n 2, 1) := by decide +kernel
theorem d_Law_law_216 : decode code 216 = .ok (.aload_n 0, 1) := by decide +kernel
theorem d_Law_law_217 : decode code 217 = .ok (.iload_n 3, 1) := by decide +kernel
theorem d_Law_law_218 : decode code 218 = .ok (.iconst 1, 1) := by decide +kernel
theorem d_Law_law_219 : decode code 219 = .ok (.iadd, 1) := by decide +kernel
theorem d_Law_law_220 : decode code 220 = .ok (.iaload, 1) := by decide +kernel
theorem d_Law_law_221 : decode code 221 = .ok (.aload_n 0, 1) := by decide +kernel
theorem d_Law_law_222 : decode code 222 = .ok (.iload_n 3, 1) := by decide +kernel
theorem d_Law_law_223 : decode code 223 = .ok (.iconst 2, 1) := by decide +kernel
theorem d_Law_law_224 : decode code 224 = .ok (.iadd, 1) := by decide +kernel
theorem d_Law_law_225 : decode code 225 = .ok (.iaload, 1) := by decide +kernel
theorem d_Law_law_226 : decode code 226 = .ok (.aload_n 0, 1) := by decide +kernel
theorem d_Law_law_227 : decode code 227 = .ok (.iload_n 3, 1) := by decide +kernel
theorem d_Law_law_228 : decode code 228 = .ok (.iconst 3, 1) := by decide +kernel
theorem d_Law_law_229 : decode code 229 = .ok (.iadd, 1) := by decide +kernel
theorem d_Law_law_230 : decode code 230 = .ok (.iaload, 1) := by decide +kernel
theorem d_Law_law_231 : decode code 231 = .ok (.invokevirtual 26, 3) := by decide +kernel
theorem d_Law_law_234 : decode code 234 = .ok (.if_icmp .eq 414, 3) := by decide +kernel
theorem d_Law_law_237 : decode code 237 = .ok (.iconst 0, 1) := by decide +kernel
theorem d_Law_law_238 : decode code 238 = .ok (.ireturn, 1) := by decide +kernel
theorem d_Law_law_239 : decode code 239 = .ok (.aload_n 1, 1) := by decide +kernel
theorem d_Law_law_240 : decode code 240 = .ok (.aload_n 0, 1) := by decide +kernel
theorem d_Law_law_241 : decode code 241 = .ok (.iload_n 3, 1) := by decide +kernel
theorem d_Law_law_242 : decode code 242 = .ok (.iconst 1, 1) := by decide +kernel
theorem d_Law_law_243 : decode code 243 = .ok (.iadd, 1) := by decide +kernel
theorem d_Law_law_244 : decode code 244 = .ok (.iaload, 1) := by decide +kernel
theorem d_Law_law_245 : decode code 245 = .ok (.aload_n 0, 1) := by decide +kernel

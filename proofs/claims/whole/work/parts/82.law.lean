/-! The law: its cases, its loop, its start. -/
def R_law : String := "TeamRoomsLaw"
def lw_P (b : Addr) (xs : List Int32) (args : Array Value) (s : State) : Prop := args = #[.ref b] ∧ s.IntsAt b xs ∧ xs.length ≤ 2560 ∧ (Jvm.Cond.and given_1 narrow_1).before args s = true
def lw_Q (_ : Array Value) (s : State) (o : Outcome) (t : State) : Prop := o = .returned (some (.int 1)) ∧ Framed s o t [] 600000 7302250
def lw_Z (below : List Frame) (a : Array Value) (s : State) : State → Prop := fun t => ∃ o, t.status = .running ∧ Ended t below o ∧ lw_Q a s o t
/-- the law's own end, with 1 on the stack, nothing written that was there before, its room as the claim has it -/
theorem lw_ret {p : Program} {l : Launch} {e : Env} {s : State} {m : MethodId} {below : List Frame} {meth : Method} {c : Code} {b : Nat} (hx : p.tables.exec = Jvm.exec) (hb : c.code = code) (hr : meth.sig.returnType = ret) (hlocks : meth.locks = false) {pc : Nat} {H : Heap} {ls : Array Slot} (hdg : decode code pc = .ok (.ireturn, 1)) : W p l e room_1 s m #[Value.ref b] below meth c H [] 600000 7302250 (lw_Z below #[Value.ref b] s) (F0 m pc ls [.int 1]) := by
  intro T hT X
  obtain ⟨fs, hret, hrun, hended, hW, hframe⟩ := X.leave (v := some (.int 1)) (hlocks := hlocks) (fun h => by rw [hr] at h; cases h)
  have hmeth' : T.vm.method? m = some meth := X.method'
  refine ⟨T.setFrames fs, ?_, .returned (some (.int 1)), hrun, hended, rfl, ⟨_, rfl⟩, hW, hframe⟩
  jvm_step X.here [X.here.top, hx, hb, hdg, hmeth', hr, ret, narrow_b1]
  (try refine ⟨rfl, ?_⟩); (try refine ⟨rfl, ?_⟩)
  first | (intro acts; rw [hret _ acts rfl rfl rfl]) | rw [hret _ _ rfl rfl rfl]
  exact Steps.refl _
/-- what holds at the law's entry: the machine, the code, the tables' words (any of lw_tbl by 'hts w (by decide +kernel)'), the script of L ints xs at the cell b, what the Statement gives of the start (any of its parts by flat_of_before) -/
def lw_At (p : Program) (s : State) (m : MethodId) (meth : Method) (c : Code) (b L : Nat) (xs : Nat → Int32) : Prop :=
  p.tables.exec = Jvm.exec ∧ c.code = code ∧ meth.sig.returnType = ret ∧ c.maxLocals = 4 ∧ s.vm.findClass R_law = some m.cls ∧ (∀ w ∈ lw_tbl, w.before #[Value.ref b] s = true) ∧ va_X b L xs s s.heap ∧ b < s.heap.size ∧ meth.locks = false ∧ (Jvm.Cond.and given_1 narrow_1).before #[Value.ref b] s = true
theorem sg_L {a a' b : va_W} : Sg (a ++ b) a a' (a' ++ b) := ⟨[a, b], [a], [a'], [a', b], [0], [1], by simp, by simp, by simp, by simp, by decide, rfl, rfl, rfl, rfl⟩
theorem sg_R {a b b' : va_W} : Sg (a ++ b) b b' (a ++ b') := ⟨[a, b], [b], [b'], [a, b'], [1], [0], by simp, by simp, by simp, by simp, by decide, rfl, rfl, rfl, rfl⟩
theorem sw_26 (x : Int32) : (x.toInt < 0 ∨ 25 < x.toInt) ∨ ∃ k : Nat, k < 26 ∧ x = iI k := by
  by_cases h : x.toInt < 0 ∨ 25 < x.toInt
  · exact Or.inl h
  · refine Or.inr ⟨x.toInt.toNat, by omega, ?_⟩
    rw [show ((x.toInt.toNat : Nat) : Int) = x.toInt by omega]
    exact (Int32.ofInt_toInt x).symm
section LAW
variable {p : Program} {l : Launch} {e : Env} {s : State} {m : MethodId} {below : List Frame} {meth : Method} {c : Code} {D : va_G} {cI cS : ClassId} {g : Nat → Nat} {b N : Nat} {xs : Nat → Int32} {xx xd xo hh ha : Nat} {z : Nat → Nat → Nat} {zn q bm : Nat → Nat} {M : Xm} {mm : Md} {x3 : Int32} {H : Heap} {locs : List Loc} {ls : Array Slot} {Q : State → Prop} {cells slots : Nat} {A : Nat → Prop} {K : Int}
set_option maxHeartbeats 4000000 in
set_option maxRecDepth 100000 in
/-- case 0 -/
theorem lw_c0 (hx : p.tables.exec = Jvm.exec) (hb : c.code = cL_law) (hml : c.maxLocals = 4) (hown : s.vm.findClass RL = some m.cls) (htb : ∀ w ∈ BIG, w.before #[Value.ref b] s = true) (hX : va_X b N xs s s.heap) (hbl : b < s.heap.size) (hbA : ¬ A b) (hA : ∀ q : Nat, s.heap.size ≤ q → A q) (hK : va_K D vwCl (tI cI cS) s) (hG : GG g A s s.heap) (hDa : ∀ M mm, va_D A (wXX cI cS xx xd xo hh ha z zn q M ++ wMd cI bm mm)) (hf : cells ≤ room_1.cells ∧ slots ≤ room_1.slots) (h1 : vp_in (x3 + 1) N) (h2 : vp_in (x3 + 2) N) (h3 : vp_in (x3 + 3) N) (h4 : vp_in (x3 + 4) N) (hKb : K + 145 ≤ 80000) (hI : Inv K M mm) (hP : va_P D vwCl (wXX cI cS xx xd xo hh ha z zn q M ++ wMd cI bm mm) H) (hS : va_S A s.heap H locs) (hl : lv_has ls 4 [(0, .ref b), (1, .ref xx), (2, .ref (bm 0)), (3, .int x3)]) (kk : ∀ (M' : Xm) (mm' : Md) (H : Heap) (locs : List Loc), Inv (K + 145) M' mm' → va_P D vwCl (wXX cI cS xx xd xo hh ha z zn q M' ++ wMd cI bm mm') H → va_S A s.heap H locs → W p l e room_1 s m #[Value.ref b] below meth c H locs cells slots Q (F0 m 920 ls [])) : W p l e room_1 s m #[Value.ref b] below meth c H locs cells slots Q (F0 m 152 ls []) := by
  obtain ⟨r, M', mm', e1, e2, hI'⟩ := simAddRoom hI (by omega) (xs (x3 + 1).toNatClampNeg) (xs (x3 + 2).toNatClampNeg) (xs (x3 + 3).toNatClampNeg) (xs (x3 + 4).toNatClampNeg)
  refine lv_aload_n hx hb dL_law_152 rfl (lv_at hl 1 rfl) ?_
  refine lv_aload_n hx hb dL_law_153 rfl (lv_at hl 0 rfl) ?_
  refine lv_iload_n hx hb dL_law_154 rfl (lv_at hl 3 rfl) ?_
  refine lv_iconst (v := 1) hx hb dL_law_155 (by decide) ?_
  refine lv_iadd hx hb dL_law_156 ?_
  refine va_sld hx hb hX hbl hbA hS h1 dL_law_157 ?_
  refine lv_aload_n hx hb dL_law_158 rfl (lv_at hl 0 rfl) ?_
  refine lv_iload_n hx hb dL_law_159 rfl (lv_at hl 3 rfl) ?_
  refine lv_iconst (v := 2) hx hb dL_law_160 (by decide) ?_
  refine lv_iadd hx hb dL_law_161 ?_
  refine va_sld hx hb hX hbl hbA hS h2 dL_law_162 ?_
  refine lv_aload_n hx hb dL_law_163 rfl (lv_at hl 0 rfl) ?_
  refine lv_iload_n hx hb dL_law_164 rfl (lv_at hl 3 rfl) ?_
  refine lv_iconst (v := 3) hx hb dL_law_165 (by decide) ?_
  refine lv_iadd hx hb dL_law_166 ?_
  refine va_sld hx hb hX hbl hbA hS h3 dL_law_167 ?_
  refine lv_aload_n hx hb dL_law_168 rfl (lv_at hl 0 rfl) ?_
  refine lv_iload_n hx hb dL_law_169 rfl (lv_at hl 3 rfl) ?_
  refine lv_iconst (v := 4) hx hb dL_law_170 (by decide) ?_
  refine lv_iadd hx hb dL_law_171 ?_
  refine va_sld hx hb hX hbl hbA hS h4 dL_law_172 ?_
  refine clx_VI ⟨hx, hb, hml, hown, htb⟩ (kX8_addRoom l D cS g cI xx xd xo hh ha z zn q M _ _ _ _ _ _ e1) (cwV 4 htb (gX8_addRoom bw1_234) rfl rfl rfl hdX8_addRoom ⟨Nat.le_of_ble_eq_true rfl, Nat.le_of_ble_eq_true rfl⟩) hK (hDa _ _) hG hA hP hS sg_L hl.1 rfl 0 (pXX_0 cI cS xx xd xo hh ha z zn q M) rfl rfl (Nat.le_of_ble_eq_true rfl) hf dL_law_173 (fun H locs hP hS => ?_)
  refine lv_aload_n hx hb dL_law_176 rfl (lv_at hl 2 rfl) ?_
  refine lv_aload_n hx hb dL_law_177 rfl (lv_at hl 0 rfl) ?_
  refine lv_iload_n hx hb dL_law_178 rfl (lv_at hl 3 rfl) ?_
  refine lv_iconst (v := 1) hx hb dL_law_179 (by decide) ?_
  refine lv_iadd hx hb dL_law_180 ?_
  refine va_sld hx hb hX hbl hbA hS h1 dL_law_181 ?_
  refine lv_aload_n hx hb dL_law_182 rfl (lv_at hl 0 rfl) ?_
  refine lv_iload_n hx hb dL_law_183 rfl (lv_at hl 3 rfl) ?_
  refine lv_iconst (v := 2) hx hb dL_law_184 (by decide) ?_
  refine lv_iadd hx hb dL_law_185 ?_
  refine va_sld hx hb hX hbl hbA hS h2 dL_law_186 ?_
  refine lv_aload_n hx hb dL_law_187 rfl (lv_at hl 0 rfl) ?_
  refine lv_iload_n hx hb dL_law_188 rfl (lv_at hl 3 rfl) ?_
  refine lv_iconst (v := 3) hx hb dL_law_189 (by decide) ?_
  refine lv_iadd hx hb dL_law_190 ?_
  refine va_sld hx hb hX hbl hbA hS h3 dL_law_191 ?_
  refine lv_aload_n hx hb dL_law_192 rfl (lv_at hl 0 rfl) ?_
  refine lv_iload_n hx hb dL_law_193 rfl (lv_at hl 3 rfl) ?_
  refine lv_iconst (v := 4) hx hb dL_law_194 (by decide) ?_
  refine lv_iadd hx hb dL_law_195 ?_
  refine va_sld hx hb hX hbl hbA hS h4 dL_law_196 ?_
  refine clx_VI ⟨hx, hb, hml, hown, htb⟩ (kX9_addRoom l D cS g cI bm mm _ _ _ _ _ _ e2) (cwV 4 htb (gX9_addRoom bw4_56) rfl rfl rfl hdX9_addRoom ⟨Nat.le_of_ble_eq_true rfl, Nat.le_of_ble_eq_true rfl⟩) hK (hDa _ _) hG hA hP hS sg_R hl.1 rfl 0 (pMd_0 cI bm mm) rfl rfl (Nat.le_of_ble_eq_true rfl) hf dL_law_197 (fun H locs hP hS => ?_)
  refine lv_icmp_eq (tgt := 920) hx hb dL_law_200 (by decide) (fun _ => ?_) (fun c1 => absurd rfl c1)
  exact kk M' mm' H locs (hI'.mono (by omega) (by omega)) hP hS
set_option maxHeartbeats 4000000 in
set_option maxRecDepth 100000 in
/-- case 1 -/
theorem lw_c1 (hx : p.tables.exec = Jvm.exec) (hb : c.code = cL_law) (hml : c.maxLocals = 4) (hown : s.vm.findClass RL = some m.cls) (htb : ∀ w ∈ BIG, w.before #[Value.ref b] s = true) (hX : va_X b N xs s s.heap) (hbl : b < s.heap.size) (hbA : ¬ A b) (hA : ∀ q : Nat, s.heap.size ≤ q → A q) (hK : va_K D vwCl (tI cI cS) s) (hG : GG g A s s.heap) (hDa : ∀ M mm, va_D A (wXX cI cS xx xd xo hh ha z zn q M ++ wMd cI bm mm)) (hf : cells ≤ room_1.cells ∧ slots ≤ room_1.slots) (h1 : vp_in (x3 + 1) N) (h2 : vp_in (x3 + 2) N) (hKb : K + 145 ≤ 80000) (hI : Inv K M mm) (hP : va_P D vwCl (wXX cI cS xx xd xo hh ha z zn q M ++ wMd cI bm mm) H) (hS : va_S A s.heap H locs) (hl : lv_has ls 4 [(0, .ref b), (1, .ref xx), (2, .ref (bm 0)), (3, .int x3)]) (kk : ∀ (M' : Xm) (mm' : Md) (H : Heap) (locs : List Loc), Inv (K + 145) M' mm' → va_P D vwCl (wXX cI cS xx xd xo hh ha z zn q M' ++ wMd cI bm mm') H → va_S A s.heap H locs → W p l e room_1 s m #[Value.ref b] below meth c H locs cells slots Q (F0 m 920 ls [])) : W p l e room_1 s m #[Value.ref b] below meth c H locs cells slots Q (F0 m 205 ls []) := by
  obtain ⟨r, M', mm', e1, e2, hI'⟩ := simPrice hI (by omega) (xs (x3 + 1).toNatClampNeg) (xs (x3 + 2).toNatClampNeg)
  refine lv_aload_n hx hb dL_law_205 rfl (lv_at hl 1 rfl) ?_
  refine lv_aload_n hx hb dL_law_206 rfl (lv_at hl 0 rfl) ?_
  refine lv_iload_n hx hb dL_law_207 rfl (lv_at hl 3 rfl) ?_
  refine lv_iconst (v := 1) hx hb dL_law_208 (by decide) ?_
  refine lv_iadd hx hb dL_law_209 ?_
  refine va_sld hx hb hX hbl hbA hS h1 dL_law_210 ?_
  refine lv_aload_n hx hb dL_law_211 rfl (lv_at hl 0 rfl) ?_
  refine lv_iload_n hx hb dL_law_212 rfl (lv_at hl 3 rfl) ?_
  refine lv_iconst (v := 2) hx hb dL_law_213 (by decide) ?_
  refine lv_iadd hx hb dL_law_214 ?_
  refine va_sld hx hb hX hbl hbA hS h2 dL_law_215 ?_
  refine clx_VI ⟨hx, hb, hml, hown, htb⟩ (kX8_setPrice l D cS g cI xx xd xo hh ha z zn q M _ _ _ _ e1) (cwV 2 htb (gX8_setPrice bw2_47) rfl rfl rfl hdX8_setPrice ⟨Nat.le_of_ble_eq_true rfl, Nat.le_of_ble_eq_true rfl⟩) hK (hDa _ _) hG hA hP hS sg_L hl.1 rfl 0 (pXX_0 cI cS xx xd xo hh ha z zn q M) rfl rfl (Nat.le_of_ble_eq_true rfl) hf dL_law_216 (fun H locs hP hS => ?_)
  refine lv_aload_n hx hb dL_law_219 rfl (lv_at hl 2 rfl) ?_
  refine lv_aload_n hx hb dL_law_220 rfl (lv_at hl 0 rfl) ?_
  refine lv_iload_n hx hb dL_law_221 rfl (lv_at hl 3 rfl) ?_
  refine lv_iconst (v := 1) hx hb dL_law_222 (by decide) ?_
  refine lv_iadd hx hb dL_law_223 ?_
  refine va_sld hx hb hX hbl hbA hS h1 dL_law_224 ?_
  refine lv_aload_n hx hb dL_law_225 rfl (lv_at hl 0 rfl) ?_
  refine lv_iload_n hx hb dL_law_226 rfl (lv_at hl 3 rfl) ?_
  refine lv_iconst (v := 2) hx hb dL_law_227 (by decide) ?_
  refine lv_iadd hx hb dL_law_228 ?_
  refine va_sld hx hb hX hbl hbA hS h2 dL_law_229 ?_
  refine clx_VI ⟨hx, hb, hml, hown, htb⟩ (kX9_setPrice l D cS g cI bm mm _ _ _ _ e2) (cwV 2 htb (gX9_setPrice bw4_75) rfl rfl rfl hdX9_setPrice ⟨Nat.le_of_ble_eq_true rfl, Nat.le_of_ble_eq_true rfl⟩) hK (hDa _ _) hG hA hP hS sg_R hl.1 rfl 0 (pMd_0 cI bm mm) rfl rfl (Nat.le_of_ble_eq_true rfl) hf dL_law_230 (fun H locs hP hS => ?_)
  refine lv_icmp_eq (tgt := 920) hx hb dL_law_233 (by decide) (fun _ => ?_) (fun c1 => absurd rfl c1)
  exact kk M' mm' H locs (hI'.mono (by omega) (by omega)) hP hS
set_option maxHeartbeats 4000000 in
set_option maxRecDepth 100000 in
/-- case 2 -/
theorem lw_c2 (hx : p.tables.exec = Jvm.exec) (hb : c.code = cL_law) (hml : c.maxLocals = 4) (hown : s.vm.findClass RL = some m.cls) (htb : ∀ w ∈ BIG, w.before #[Value.ref b] s = true) (hX : va_X b N xs s s.heap) (hbl : b < s.heap.size) (hbA : ¬ A b) (hA : ∀ q : Nat, s.heap.size ≤ q → A q) (hK : va_K D vwCl (tI cI cS) s) (hG : GG g A s s.heap) (hDa : ∀ M mm, va_D A (wXX cI cS xx xd xo hh ha z zn q M ++ wMd cI bm mm)) (hf : cells ≤ room_1.cells ∧ slots ≤ room_1.slots) (h1 : vp_in (x3 + 1) N) (h2 : vp_in (x3 + 2) N) (hKb : K + 145 ≤ 80000) (hI : Inv K M mm) (hP : va_P D vwCl (wXX cI cS xx xd xo hh ha z zn q M ++ wMd cI bm mm) H) (hS : va_S A s.heap H locs) (hl : lv_has ls 4 [(0, .ref b), (1, .ref xx), (2, .ref (bm 0)), (3, .int x3)]) (kk : ∀ (M' : Xm) (mm' : Md) (H : Heap) (locs : List Loc), Inv (K + 145) M' mm' → va_P D vwCl (wXX cI cS xx xd xo hh ha z zn q M' ++ wMd cI bm mm') H → va_S A s.heap H locs → W p l e room_1 s m #[Value.ref b] below meth c H locs cells slots Q (F0 m 920 ls [])) : W p l e room_1 s m #[Value.ref b] below meth c H locs cells slots Q (F0 m 238 ls []) := by
  obtain ⟨r, M', mm', e1, e2, hI'⟩ := simSet hI (by omega) (xs (x3 + 1).toNatClampNeg) (xs (x3 + 2).toNatClampNeg)
  refine lv_aload_n hx hb dL_law_238 rfl (lv_at hl 1 rfl) ?_
  refine lv_aload_n hx hb dL_law_239 rfl (lv_at hl 0 rfl) ?_
  refine lv_iload_n hx hb dL_law_240 rfl (lv_at hl 3 rfl) ?_
  refine lv_iconst (v := 1) hx hb dL_law_241 (by decide) ?_
  refine lv_iadd hx hb dL_law_242 ?_
  refine va_sld hx hb hX hbl hbA hS h1 dL_law_243 ?_
  refine lv_aload_n hx hb dL_law_244 rfl (lv_at hl 0 rfl) ?_
  refine lv_iload_n hx hb dL_law_245 rfl (lv_at hl 3 rfl) ?_
  refine lv_iconst (v := 2) hx hb dL_law_246 (by decide) ?_
  refine lv_iadd hx hb dL_law_247 ?_
  refine va_sld hx hb hX hbl hbA hS h2 dL_law_248 ?_
  refine clx_VI ⟨hx, hb, hml, hown, htb⟩ (kX8_set l D cS g cI xx xd xo hh ha z zn q M _ _ _ _ e1) (cwV 2 htb (gX8_set bw2_63) rfl rfl rfl hdX8_set ⟨Nat.le_of_ble_eq_true rfl, Nat.le_of_ble_eq_true rfl⟩) hK (hDa _ _) hG hA hP hS sg_L hl.1 rfl 0 (pXX_0 cI cS xx xd xo hh ha z zn q M) rfl rfl (Nat.le_of_ble_eq_true rfl) hf dL_law_249 (fun H locs hP hS => ?_)
  refine lv_aload_n hx hb dL_law_252 rfl (lv_at hl 2 rfl) ?_
  refine lv_aload_n hx hb dL_law_253 rfl (lv_at hl 0 rfl) ?_
  refine lv_iload_n hx hb dL_law_254 rfl (lv_at hl 3 rfl) ?_
  refine lv_iconst (v := 1) hx hb dL_law_255 (by decide) ?_
  refine lv_iadd hx hb dL_law_256 ?_
  refine va_sld hx hb hX hbl hbA hS h1 dL_law_257 ?_
  refine lv_aload_n hx hb dL_law_258 rfl (lv_at hl 0 rfl) ?_
  refine lv_iload_n hx hb dL_law_259 rfl (lv_at hl 3 rfl) ?_
  refine lv_iconst (v := 2) hx hb dL_law_260 (by decide) ?_
  refine lv_iadd hx hb dL_law_261 ?_
  refine va_sld hx hb hX hbl hbA hS h2 dL_law_262 ?_
  refine clx_VI ⟨hx, hb, hml, hown, htb⟩ (kX9_set l D cS g cI bm mm _ _ _ _ e2) (cwV 2 htb (gX9_set bw4_87) rfl rfl rfl hdX9_set ⟨Nat.le_of_ble_eq_true rfl, Nat.le_of_ble_eq_true rfl⟩) hK (hDa _ _) hG hA hP hS sg_R hl.1 rfl 0 (pMd_0 cI bm mm) rfl rfl (Nat.le_of_ble_eq_true rfl) hf dL_law_263 (fun H locs hP hS => ?_)
  refine lv_icmp_eq (tgt := 920) hx hb dL_law_266 (by decide) (fun _ => ?_) (fun c1 => absurd rfl c1)
  exact kk M' mm' H locs (hI'.mono (by omega) (by omega)) hP hS
set_option maxHeartbeats 4000000 in
set_option maxRecDepth 100000 in
/-- case 3 -/
theorem lw_c3 (hx : p.tables.exec = Jvm.exec) (hb : c.code = cL_law) (hml : c.maxLocals = 4) (hown : s.vm.findClass RL = some m.cls) (htb : ∀ w ∈ BIG, w.before #[Value.ref b] s = true) (hX : va_X b N xs s s.heap) (hbl : b < s.heap.size) (hbA : ¬ A b) (hA : ∀ q : Nat, s.heap.size ≤ q → A q) (hK : va_K D vwCl (tI cI cS) s) (hG : GG g A s s.heap) (hDa : ∀ M mm, va_D A (wXX cI cS xx xd xo hh ha z zn q M ++ wMd cI bm mm)) (hf : cells ≤ room_1.cells ∧ slots ≤ room_1.slots) (h1 : vp_in (x3 + 1) N) (hKb : K + 145 ≤ 80000) (hI : Inv K M mm) (hP : va_P D vwCl (wXX cI cS xx xd xo hh ha z zn q M ++ wMd cI bm mm) H) (hS : va_S A s.heap H locs) (hl : lv_has ls 4 [(0, .ref b), (1, .ref xx), (2, .ref (bm 0)), (3, .int x3)]) (kk : ∀ (M' : Xm) (mm' : Md) (H : Heap) (locs : List Loc), Inv (K + 145) M' mm' → va_P D vwCl (wXX cI cS xx xd xo hh ha z zn q M' ++ wMd cI bm mm') H → va_S A s.heap H locs → W p l e room_1 s m #[Value.ref b] below meth c H locs cells slots Q (F0 m 920 ls [])) : W p l e room_1 s m #[Value.ref b] below meth c H locs cells slots Q (F0 m 271 ls []) := by
  obtain ⟨r, M', mm', e1, e2, hI'⟩ := simGift hI (by omega) (xs (x3 + 1).toNatClampNeg)
  refine lv_aload_n hx hb dL_law_271 rfl (lv_at hl 1 rfl) ?_
  refine lv_aload_n hx hb dL_law_272 rfl (lv_at hl 0 rfl) ?_
  refine lv_iload_n hx hb dL_law_273 rfl (lv_at hl 3 rfl) ?_
  refine lv_iconst (v := 1) hx hb dL_law_274 (by decide) ?_
  refine lv_iadd hx hb dL_law_275 ?_
  refine va_sld hx hb hX hbl hbA hS h1 dL_law_276 ?_
  refine clx_VI ⟨hx, hb, hml, hown, htb⟩ (kX8_sellVoucher l D cS g cI xx xd xo hh ha z zn q M _ _ _ e1) (cwV 1 htb (gX8_sellVoucher bw2_78) rfl rfl rfl hdX8_sellVoucher ⟨Nat.le_of_ble_eq_true rfl, Nat.le_of_ble_eq_true rfl⟩) hK (hDa _ _) hG hA hP hS sg_L hl.1 rfl 0 (pXX_0 cI cS xx xd xo hh ha z zn q M) rfl rfl (Nat.le_of_ble_eq_true rfl) hf dL_law_277 (fun H locs hP hS => ?_)
  refine lv_aload_n hx hb dL_law_280 rfl (lv_at hl 2 rfl) ?_
  refine lv_aload_n hx hb dL_law_281 rfl (lv_at hl 0 rfl) ?_
  refine lv_iload_n hx hb dL_law_282 rfl (lv_at hl 3 rfl) ?_
  refine lv_iconst (v := 1) hx hb dL_law_283 (by decide) ?_
  refine lv_iadd hx hb dL_law_284 ?_
  refine va_sld hx hb hX hbl hbA hS h1 dL_law_285 ?_
  refine clx_VI ⟨hx, hb, hml, hown, htb⟩ (kX9_sellVoucher l D cS g cI bm mm _ _ _ e2) (cwV 1 htb (gX9_sellVoucher bw4_94) rfl rfl rfl hdX9_sellVoucher ⟨Nat.le_of_ble_eq_true rfl, Nat.le_of_ble_eq_true rfl⟩) hK (hDa _ _) hG hA hP hS sg_R hl.1 rfl 0 (pMd_0 cI bm mm) rfl rfl (Nat.le_of_ble_eq_true rfl) hf dL_law_286 (fun H locs hP hS => ?_)
  refine lv_icmp_eq (tgt := 920) hx hb dL_law_289 (by decide) (fun _ => ?_) (fun c1 => absurd rfl c1)
  exact kk M' mm' H locs (hI'.mono (by omega) (by omega)) hP hS
set_option maxHeartbeats 4000000 in
set_option maxRecDepth 100000 in
/-- case 4 -/
theorem lw_c4 (hx : p.tables.exec = Jvm.exec) (hb : c.code = cL_law) (hml : c.maxLocals = 4) (hown : s.vm.findClass RL = some m.cls) (htb : ∀ w ∈ BIG, w.before #[Value.ref b] s = true) (hX : va_X b N xs s s.heap) (hbl : b < s.heap.size) (hbA : ¬ A b) (hA : ∀ q : Nat, s.heap.size ≤ q → A q) (hK : va_K D vwCl (tI cI cS) s) (hG : GG g A s s.heap) (hDa : ∀ M mm, va_D A (wXX cI cS xx xd xo hh ha z zn q M ++ wMd cI bm mm)) (hf : cells ≤ room_1.cells ∧ slots ≤ room_1.slots) (h1 : vp_in (x3 + 1) N) (h2 : vp_in (x3 + 2) N) (h3 : vp_in (x3 + 3) N) (h4 : vp_in (x3 + 4) N) (hKb : K + 145 ≤ 80000) (hI : Inv K M mm) (hP : va_P D vwCl (wXX cI cS xx xd xo hh ha z zn q M ++ wMd cI bm mm) H) (hS : va_S A s.heap H locs) (hl : lv_has ls 4 [(0, .ref b), (1, .ref xx), (2, .ref (bm 0)), (3, .int x3)]) (kk : ∀ (M' : Xm) (mm' : Md) (H : Heap) (locs : List Loc), Inv (K + 145) M' mm' → va_P D vwCl (wXX cI cS xx xd xo hh ha z zn q M' ++ wMd cI bm mm') H → va_S A s.heap H locs → W p l e room_1 s m #[Value.ref b] below meth c H locs cells slots Q (F0 m 920 ls [])) : W p l e room_1 s m #[Value.ref b] below meth c H locs cells slots Q (F0 m 294 ls []) := by
  obtain ⟨r, M', mm', e1, e2, hI'⟩ := simBook hI (by omega) (xs (x3 + 1).toNatClampNeg) (xs (x3 + 2).toNatClampNeg) (xs (x3 + 3).toNatClampNeg) (xs (x3 + 4).toNatClampNeg)
  refine lv_aload_n hx hb dL_law_294 rfl (lv_at hl 1 rfl) ?_
  refine lv_aload_n hx hb dL_law_295 rfl (lv_at hl 0 rfl) ?_
  refine lv_iload_n hx hb dL_law_296 rfl (lv_at hl 3 rfl) ?_
  refine lv_iconst (v := 1) hx hb dL_law_297 (by decide) ?_
  refine lv_iadd hx hb dL_law_298 ?_
  refine va_sld hx hb hX hbl hbA hS h1 dL_law_299 ?_
  refine lv_aload_n hx hb dL_law_300 rfl (lv_at hl 0 rfl) ?_
  refine lv_iload_n hx hb dL_law_301 rfl (lv_at hl 3 rfl) ?_
  refine lv_iconst (v := 2) hx hb dL_law_302 (by decide) ?_
  refine lv_iadd hx hb dL_law_303 ?_
  refine va_sld hx hb hX hbl hbA hS h2 dL_law_304 ?_
  refine lv_aload_n hx hb dL_law_305 rfl (lv_at hl 0 rfl) ?_
  refine lv_iload_n hx hb dL_law_306 rfl (lv_at hl 3 rfl) ?_
  refine lv_iconst (v := 3) hx hb dL_law_307 (by decide) ?_
  refine lv_iadd hx hb dL_law_308 ?_
  refine va_sld hx hb hX hbl hbA hS h3 dL_law_309 ?_
  refine lv_aload_n hx hb dL_law_310 rfl (lv_at hl 0 rfl) ?_
  refine lv_iload_n hx hb dL_law_311 rfl (lv_at hl 3 rfl) ?_
  refine lv_iconst (v := 4) hx hb dL_law_312 (by decide) ?_
  refine lv_iadd hx hb dL_law_313 ?_
  refine va_sld hx hb hX hbl hbA hS h4 dL_law_314 ?_
  refine clx_VI ⟨hx, hb, hml, hown, htb⟩ (kX8_book l D cS g cI xx xd xo hh ha z zn q M _ _ _ _ _ _ e1) (cwV 4 htb (gX8_book bw2_86) rfl rfl rfl hdX8_book ⟨Nat.le_of_ble_eq_true rfl, Nat.le_of_ble_eq_true rfl⟩) hK (hDa _ _) hG hA hP hS sg_L hl.1 rfl 0 (pXX_0 cI cS xx xd xo hh ha z zn q M) rfl rfl (Nat.le_of_ble_eq_true rfl) hf dL_law_315 (fun H locs hP hS => ?_)
  refine lv_aload_n hx hb dL_law_318 rfl (lv_at hl 2 rfl) ?_
  refine lv_aload_n hx hb dL_law_319 rfl (lv_at hl 0 rfl) ?_
  refine lv_iload_n hx hb dL_law_320 rfl (lv_at hl 3 rfl) ?_
  refine lv_iconst (v := 1) hx hb dL_law_321 (by decide) ?_
  refine lv_iadd hx hb dL_law_322 ?_
  refine va_sld hx hb hX hbl hbA hS h1 dL_law_323 ?_
  refine lv_aload_n hx hb dL_law_324 rfl (lv_at hl 0 rfl) ?_
  refine lv_iload_n hx hb dL_law_325 rfl (lv_at hl 3 rfl) ?_
  refine lv_iconst (v := 2) hx hb dL_law_326 (by decide) ?_
  refine lv_iadd hx hb dL_law_327 ?_
  refine va_sld hx hb hX hbl hbA hS h2 dL_law_328 ?_
  refine lv_aload_n hx hb dL_law_329 rfl (lv_at hl 0 rfl) ?_
  refine lv_iload_n hx hb dL_law_330 rfl (lv_at hl 3 rfl) ?_
  refine lv_iconst (v := 3) hx hb dL_law_331 (by decide) ?_
  refine lv_iadd hx hb dL_law_332 ?_
  refine va_sld hx hb hX hbl hbA hS h3 dL_law_333 ?_
  refine lv_aload_n hx hb dL_law_334 rfl (lv_at hl 0 rfl) ?_
  refine lv_iload_n hx hb dL_law_335 rfl (lv_at hl 3 rfl) ?_
  refine lv_iconst (v := 4) hx hb dL_law_336 (by decide) ?_
  refine lv_iadd hx hb dL_law_337 ?_
  refine va_sld hx hb hX hbl hbA hS h4 dL_law_338 ?_
  refine clx_VI ⟨hx, hb, hml, hown, htb⟩ (kX9_book l D cS g cI bm mm _ _ _ _ _ _ e2) (cwV 4 htb (gX9_book bw4_102) rfl rfl rfl hdX9_book ⟨Nat.le_of_ble_eq_true rfl, Nat.le_of_ble_eq_true rfl⟩) hK (hDa _ _) hG hA hP hS sg_R hl.1 rfl 0 (pMd_0 cI bm mm) rfl rfl (Nat.le_of_ble_eq_true rfl) hf dL_law_339 (fun H locs hP hS => ?_)
  refine lv_icmp_eq (tgt := 920) hx hb dL_law_342 (by decide) (fun _ => ?_) (fun c1 => absurd rfl c1)
  exact kk M' mm' H locs (hI'.mono (by omega) (by omega)) hP hS
set_option maxHeartbeats 4000000 in
set_option maxRecDepth 100000 in
/-- case 5 -/
theorem lw_c5 (hx : p.tables.exec = Jvm.exec) (hb : c.code = cL_law) (hml : c.maxLocals = 4) (hown : s.vm.findClass RL = some m.cls) (htb : ∀ w ∈ BIG, w.before #[Value.ref b] s = true) (hX : va_X b N xs s s.heap) (hbl : b < s.heap.size) (hbA : ¬ A b) (hA : ∀ q : Nat, s.heap.size ≤ q → A q) (hK : va_K D vwCl (tI cI cS) s) (hG : GG g A s s.heap) (hDa : ∀ M mm, va_D A (wXX cI cS xx xd xo hh ha z zn q M ++ wMd cI bm mm)) (hf : cells ≤ room_1.cells ∧ slots ≤ room_1.slots) (h1 : vp_in (x3 + 1) N) (h2 : vp_in (x3 + 2) N) (hKb : K + 145 ≤ 80000) (hI : Inv K M mm) (hP : va_P D vwCl (wXX cI cS xx xd xo hh ha z zn q M ++ wMd cI bm mm) H) (hS : va_S A s.heap H locs) (hl : lv_has ls 4 [(0, .ref b), (1, .ref xx), (2, .ref (bm 0)), (3, .int x3)]) (kk : ∀ (M' : Xm) (mm' : Md) (H : Heap) (locs : List Loc), Inv (K + 145) M' mm' → va_P D vwCl (wXX cI cS xx xd xo hh ha z zn q M' ++ wMd cI bm mm') H → va_S A s.heap H locs → W p l e room_1 s m #[Value.ref b] below meth c H locs cells slots Q (F0 m 920 ls [])) : W p l e room_1 s m #[Value.ref b] below meth c H locs cells slots Q (F0 m 347 ls []) := by
  obtain ⟨r, M', mm', e1, e2, hI'⟩ := simMove hI (by omega) (xs (x3 + 1).toNatClampNeg) (xs (x3 + 2).toNatClampNeg)
  refine lv_aload_n hx hb dL_law_347 rfl (lv_at hl 1 rfl) ?_
  refine lv_aload_n hx hb dL_law_348 rfl (lv_at hl 0 rfl) ?_
  refine lv_iload_n hx hb dL_law_349 rfl (lv_at hl 3 rfl) ?_
  refine lv_iconst (v := 1) hx hb dL_law_350 (by decide) ?_
  refine lv_iadd hx hb dL_law_351 ?_
  refine va_sld hx hb hX hbl hbA hS h1 dL_law_352 ?_
  refine lv_aload_n hx hb dL_law_353 rfl (lv_at hl 0 rfl) ?_
  refine lv_iload_n hx hb dL_law_354 rfl (lv_at hl 3 rfl) ?_
  refine lv_iconst (v := 2) hx hb dL_law_355 (by decide) ?_
  refine lv_iadd hx hb dL_law_356 ?_
  refine va_sld hx hb hX hbl hbA hS h2 dL_law_357 ?_
  refine clx_VI ⟨hx, hb, hml, hown, htb⟩ (kX8_move l D cS g cI xx xd xo hh ha z zn q M _ _ _ _ e1) (cwV 2 htb (gX8_move bw2_128) rfl rfl rfl hdX8_move ⟨Nat.le_of_ble_eq_true rfl, Nat.le_of_ble_eq_true rfl⟩) hK (hDa _ _) hG hA hP hS sg_L hl.1 rfl 0 (pXX_0 cI cS xx xd xo hh ha z zn q M) rfl rfl (Nat.le_of_ble_eq_true rfl) hf dL_law_358 (fun H locs hP hS => ?_)
  refine lv_aload_n hx hb dL_law_361 rfl (lv_at hl 2 rfl) ?_
  refine lv_aload_n hx hb dL_law_362 rfl (lv_at hl 0 rfl) ?_
  refine lv_iload_n hx hb dL_law_363 rfl (lv_at hl 3 rfl) ?_
  refine lv_iconst (v := 1) hx hb dL_law_364 (by decide) ?_
  refine lv_iadd hx hb dL_law_365 ?_
  refine va_sld hx hb hX hbl hbA hS h1 dL_law_366 ?_
  refine lv_aload_n hx hb dL_law_367 rfl (lv_at hl 0 rfl) ?_
  refine lv_iload_n hx hb dL_law_368 rfl (lv_at hl 3 rfl) ?_
  refine lv_iconst (v := 2) hx hb dL_law_369 (by decide) ?_
  refine lv_iadd hx hb dL_law_370 ?_
  refine va_sld hx hb hX hbl hbA hS h2 dL_law_371 ?_
  refine clx_VI ⟨hx, hb, hml, hown, htb⟩ (kX9_move l D cS g cI bm mm _ _ _ _ e2) (cwV 2 htb (gX9_move bw4_129) rfl rfl rfl hdX9_move ⟨Nat.le_of_ble_eq_true rfl, Nat.le_of_ble_eq_true rfl⟩) hK (hDa _ _) hG hA hP hS sg_R hl.1 rfl 0 (pMd_0 cI bm mm) rfl rfl (Nat.le_of_ble_eq_true rfl) hf dL_law_372 (fun H locs hP hS => ?_)
  refine lv_icmp_eq (tgt := 920) hx hb dL_law_375 (by decide) (fun _ => ?_) (fun c1 => absurd rfl c1)
  exact kk M' mm' H locs (hI'.mono (by omega) (by omega)) hP hS
set_option maxHeartbeats 4000000 in
set_option maxRecDepth 100000 in
/-- case 6 -/
theorem lw_c6 (hx : p.tables.exec = Jvm.exec) (hb : c.code = cL_law) (hml : c.maxLocals = 4) (hown : s.vm.findClass RL = some m.cls) (htb : ∀ w ∈ BIG, w.before #[Value.ref b] s = true) (hX : va_X b N xs s s.heap) (hbl : b < s.heap.size) (hbA : ¬ A b) (hA : ∀ q : Nat, s.heap.size ≤ q → A q) (hK : va_K D vwCl (tI cI cS) s) (hG : GG g A s s.heap) (hDa : ∀ M mm, va_D A (wXX cI cS xx xd xo hh ha z zn q M ++ wMd cI bm mm)) (hf : cells ≤ room_1.cells ∧ slots ≤ room_1.slots) (h1 : vp_in (x3 + 1) N) (hKb : K + 145 ≤ 80000) (hI : Inv K M mm) (hP : va_P D vwCl (wXX cI cS xx xd xo hh ha z zn q M ++ wMd cI bm mm) H) (hS : va_S A s.heap H locs) (hl : lv_has ls 4 [(0, .ref b), (1, .ref xx), (2, .ref (bm 0)), (3, .int x3)]) (kk : ∀ (M' : Xm) (mm' : Md) (H : Heap) (locs : List Loc), Inv (K + 145) M' mm' → va_P D vwCl (wXX cI cS xx xd xo hh ha z zn q M' ++ wMd cI bm mm') H → va_S A s.heap H locs → W p l e room_1 s m #[Value.ref b] below meth c H locs cells slots Q (F0 m 920 ls [])) : W p l e room_1 s m #[Value.ref b] below meth c H locs cells slots Q (F0 m 380 ls []) := by
  obtain ⟨r, M', mm', e1, e2, hI'⟩ := simCancel hI (by omega) (xs (x3 + 1).toNatClampNeg)
  refine lv_aload_n hx hb dL_law_380 rfl (lv_at hl 1 rfl) ?_
  refine lv_aload_n hx hb dL_law_381 rfl (lv_at hl 0 rfl) ?_
  refine lv_iload_n hx hb dL_law_382 rfl (lv_at hl 3 rfl) ?_
  refine lv_iconst (v := 1) hx hb dL_law_383 (by decide) ?_
  refine lv_iadd hx hb dL_law_384 ?_
  refine va_sld hx hb hX hbl hbA hS h1 dL_law_385 ?_
  refine clx_VI ⟨hx, hb, hml, hown, htb⟩ (kX8_cancel l D cS g cI xx xd xo hh ha z zn q M _ _ _ e1) (cwV 1 htb (gX8_cancel bw2_141) rfl rfl rfl hdX8_cancel ⟨Nat.le_of_ble_eq_true rfl, Nat.le_of_ble_eq_true rfl⟩) hK (hDa _ _) hG hA hP hS sg_L hl.1 rfl 0 (pXX_0 cI cS xx xd xo hh ha z zn q M) rfl rfl (Nat.le_of_ble_eq_true rfl) hf dL_law_386 (fun H locs hP hS => ?_)
  refine lv_aload_n hx hb dL_law_389 rfl (lv_at hl 2 rfl) ?_
  refine lv_aload_n hx hb dL_law_390 rfl (lv_at hl 0 rfl) ?_
  refine lv_iload_n hx hb dL_law_391 rfl (lv_at hl 3 rfl) ?_
  refine lv_iconst (v := 1) hx hb dL_law_392 (by decide) ?_
  refine lv_iadd hx hb dL_law_393 ?_
  refine va_sld hx hb hX hbl hbA hS h1 dL_law_394 ?_
  refine clx_VI ⟨hx, hb, hml, hown, htb⟩ (kX9_cancel l D cS g cI bm mm _ _ _ e2) (cwV 1 htb (gX9_cancel bw4_137) rfl rfl rfl hdX9_cancel ⟨Nat.le_of_ble_eq_true rfl, Nat.le_of_ble_eq_true rfl⟩) hK (hDa _ _) hG hA hP hS sg_R hl.1 rfl 0 (pMd_0 cI bm mm) rfl rfl (Nat.le_of_ble_eq_true rfl) hf dL_law_395 (fun H locs hP hS => ?_)
  refine lv_icmp_eq (tgt := 920) hx hb dL_law_398 (by decide) (fun _ => ?_) (fun c1 => absurd rfl c1)
  exact kk M' mm' H locs (hI'.mono (by omega) (by omega)) hP hS
set_option maxHeartbeats 4000000 in
set_option maxRecDepth 100000 in
/-- case 7 -/
theorem lw_c7 (hx : p.tables.exec = Jvm.exec) (hb : c.code = cL_law) (hml : c.maxLocals = 4) (hown : s.vm.findClass RL = some m.cls) (htb : ∀ w ∈ BIG, w.before #[Value.ref b] s = true) (hX : va_X b N xs s s.heap) (hbl : b < s.heap.size) (hbA : ¬ A b) (hA : ∀ q : Nat, s.heap.size ≤ q → A q) (hK : va_K D vwCl (tI cI cS) s) (hG : GG g A s s.heap) (hDa : ∀ M mm, va_D A (wXX cI cS xx xd xo hh ha z zn q M ++ wMd cI bm mm)) (hf : cells ≤ room_1.cells ∧ slots ≤ room_1.slots) (h1 : vp_in (x3 + 1) N) (h2 : vp_in (x3 + 2) N) (hKb : K + 145 ≤ 80000) (hI : Inv K M mm) (hP : va_P D vwCl (wXX cI cS xx xd xo hh ha z zn q M ++ wMd cI bm mm) H) (hS : va_S A s.heap H locs) (hl : lv_has ls 4 [(0, .ref b), (1, .ref xx), (2, .ref (bm 0)), (3, .int x3)]) (kk : ∀ (M' : Xm) (mm' : Md) (H : Heap) (locs : List Loc), Inv (K + 145) M' mm' → va_P D vwCl (wXX cI cS xx xd xo hh ha z zn q M' ++ wMd cI bm mm') H → va_S A s.heap H locs → W p l e room_1 s m #[Value.ref b] below meth c H locs cells slots Q (F0 m 920 ls [])) : W p l e room_1 s m #[Value.ref b] below meth c H locs cells slots Q (F0 m 403 ls []) := by
  obtain ⟨r, M', mm', e1, e2, hI'⟩ := simMerge hI (by omega) (xs (x3 + 1).toNatClampNeg) (xs (x3 + 2).toNatClampNeg)
  refine lv_aload_n hx hb dL_law_403 rfl (lv_at hl 1 rfl) ?_
  refine lv_aload_n hx hb dL_law_404 rfl (lv_at hl 0 rfl) ?_
  refine lv_iload_n hx hb dL_law_405 rfl (lv_at hl 3 rfl) ?_
  refine lv_iconst (v := 1) hx hb dL_law_406 (by decide) ?_
  refine lv_iadd hx hb dL_law_407 ?_
  refine va_sld hx hb hX hbl hbA hS h1 dL_law_408 ?_
  refine lv_aload_n hx hb dL_law_409 rfl (lv_at hl 0 rfl) ?_
  refine lv_iload_n hx hb dL_law_410 rfl (lv_at hl 3 rfl) ?_
  refine lv_iconst (v := 2) hx hb dL_law_411 (by decide) ?_
  refine lv_iadd hx hb dL_law_412 ?_
  refine va_sld hx hb hX hbl hbA hS h2 dL_law_413 ?_
  refine clx_VI ⟨hx, hb, hml, hown, htb⟩ (kX8_merge l D cS g cI xx xd xo hh ha z zn q M _ _ _ _ e1) (cwV 2 htb (gX8_merge bw2_173) rfl rfl rfl hdX8_merge ⟨Nat.le_of_ble_eq_true rfl, Nat.le_of_ble_eq_true rfl⟩) hK (hDa _ _) hG hA hP hS sg_L hl.1 rfl 0 (pXX_0 cI cS xx xd xo hh ha z zn q M) rfl rfl (Nat.le_of_ble_eq_true rfl) hf dL_law_414 (fun H locs hP hS => ?_)
  refine lv_aload_n hx hb dL_law_417 rfl (lv_at hl 2 rfl) ?_
  refine lv_aload_n hx hb dL_law_418 rfl (lv_at hl 0 rfl) ?_
  refine lv_iload_n hx hb dL_law_419 rfl (lv_at hl 3 rfl) ?_
  refine lv_iconst (v := 1) hx hb dL_law_420 (by decide) ?_
  refine lv_iadd hx hb dL_law_421 ?_
  refine va_sld hx hb hX hbl hbA hS h1 dL_law_422 ?_
  refine lv_aload_n hx hb dL_law_423 rfl (lv_at hl 0 rfl) ?_
  refine lv_iload_n hx hb dL_law_424 rfl (lv_at hl 3 rfl) ?_
  refine lv_iconst (v := 2) hx hb dL_law_425 (by decide) ?_
  refine lv_iadd hx hb dL_law_426 ?_
  refine va_sld hx hb hX hbl hbA hS h2 dL_law_427 ?_
  refine clx_VI ⟨hx, hb, hml, hown, htb⟩ (kX9_merge l D cS g cI bm mm _ _ _ _ e2) (cwV 2 htb (gX9_merge bw4_168) rfl rfl rfl hdX9_merge ⟨Nat.le_of_ble_eq_true rfl, Nat.le_of_ble_eq_true rfl⟩) hK (hDa _ _) hG hA hP hS sg_R hl.1 rfl 0 (pMd_0 cI bm mm) rfl rfl (Nat.le_of_ble_eq_true rfl) hf dL_law_428 (fun H locs hP hS => ?_)
  refine lv_icmp_eq (tgt := 920) hx hb dL_law_431 (by decide) (fun _ => ?_) (fun c1 => absurd rfl c1)
  exact kk M' mm' H locs (hI'.mono (by omega) (by omega)) hP hS
set_option maxHeartbeats 4000000 in
set_option maxRecDepth 100000 in
/-- case 8 -/
theorem lw_c8 (hx : p.tables.exec = Jvm.exec) (hb : c.code = cL_law) (hml : c.maxLocals = 4) (hown : s.vm.findClass RL = some m.cls) (htb : ∀ w ∈ BIG, w.before #[Value.ref b] s = true) (hX : va_X b N xs s s.heap) (hbl : b < s.heap.size) (hbA : ¬ A b) (hA : ∀ q : Nat, s.heap.size ≤ q → A q) (hK : va_K D vwCl (tI cI cS) s) (hG : GG g A s s.heap) (hDa : ∀ M mm, va_D A (wXX cI cS xx xd xo hh ha z zn q M ++ wMd cI bm mm)) (hf : cells ≤ room_1.cells ∧ slots ≤ room_1.slots) (h1 : vp_in (x3 + 1) N) (h2 : vp_in (x3 + 2) N) (h3 : vp_in (x3 + 3) N) (h4 : vp_in (x3 + 4) N) (hKb : K + 145 ≤ 80000) (hI : Inv K M mm) (hP : va_P D vwCl (wXX cI cS xx xd xo hh ha z zn q M ++ wMd cI bm mm) H) (hS : va_S A s.heap H locs) (hl : lv_has ls 4 [(0, .ref b), (1, .ref xx), (2, .ref (bm 0)), (3, .int x3)]) (kk : ∀ (M' : Xm) (mm' : Md) (H : Heap) (locs : List Loc), Inv (K + 145) M' mm' → va_P D vwCl (wXX cI cS xx xd xo hh ha z zn q M' ++ wMd cI bm mm') H → va_S A s.heap H locs → W p l e room_1 s m #[Value.ref b] below meth c H locs cells slots Q (F0 m 920 ls [])) : W p l e room_1 s m #[Value.ref b] below meth c H locs cells slots Q (F0 m 436 ls []) := by
  obtain ⟨r, M', mm', e1, e2, hI'⟩ := simPlay hI (by omega) (xs (x3 + 1).toNatClampNeg) (xs (x3 + 2).toNatClampNeg) (xs (x3 + 3).toNatClampNeg) (xs (x3 + 4).toNatClampNeg)
  refine lv_aload_n hx hb dL_law_436 rfl (lv_at hl 1 rfl) ?_
  refine lv_aload_n hx hb dL_law_437 rfl (lv_at hl 0 rfl) ?_
  refine lv_iload_n hx hb dL_law_438 rfl (lv_at hl 3 rfl) ?_
  refine lv_iconst (v := 1) hx hb dL_law_439 (by decide) ?_
  refine lv_iadd hx hb dL_law_440 ?_
  refine va_sld hx hb hX hbl hbA hS h1 dL_law_441 ?_
  refine lv_aload_n hx hb dL_law_442 rfl (lv_at hl 0 rfl) ?_
  refine lv_iload_n hx hb dL_law_443 rfl (lv_at hl 3 rfl) ?_
  refine lv_iconst (v := 2) hx hb dL_law_444 (by decide) ?_
  refine lv_iadd hx hb dL_law_445 ?_
  refine va_sld hx hb hX hbl hbA hS h2 dL_law_446 ?_
  refine lv_aload_n hx hb dL_law_447 rfl (lv_at hl 0 rfl) ?_
  refine lv_iload_n hx hb dL_law_448 rfl (lv_at hl 3 rfl) ?_
  refine lv_iconst (v := 3) hx hb dL_law_449 (by decide) ?_
  refine lv_iadd hx hb dL_law_450 ?_
  refine va_sld hx hb hX hbl hbA hS h3 dL_law_451 ?_
  refine lv_aload_n hx hb dL_law_452 rfl (lv_at hl 0 rfl) ?_
  refine lv_iload_n hx hb dL_law_453 rfl (lv_at hl 3 rfl) ?_
  refine lv_iconst (v := 4) hx hb dL_law_454 (by decide) ?_
  refine lv_iadd hx hb dL_law_455 ?_
  refine va_sld hx hb hX hbl hbA hS h4 dL_law_456 ?_
  refine clx_VI ⟨hx, hb, hml, hown, htb⟩ (kX8_play l D cS g cI xx xd xo hh ha z zn q M _ _ _ _ _ _ e1) (cwV 4 htb (gX8_play bw2_194) rfl rfl rfl hdX8_play ⟨Nat.le_of_ble_eq_true rfl, Nat.le_of_ble_eq_true rfl⟩) hK (hDa _ _) hG hA hP hS sg_L hl.1 rfl 0 (pXX_0 cI cS xx xd xo hh ha z zn q M) rfl rfl (Nat.le_of_ble_eq_true rfl) hf dL_law_457 (fun H locs hP hS => ?_)
  refine lv_aload_n hx hb dL_law_460 rfl (lv_at hl 2 rfl) ?_
  refine lv_aload_n hx hb dL_law_461 rfl (lv_at hl 0 rfl) ?_
  refine lv_iload_n hx hb dL_law_462 rfl (lv_at hl 3 rfl) ?_
  refine lv_iconst (v := 1) hx hb dL_law_463 (by decide) ?_
  refine lv_iadd hx hb dL_law_464 ?_
  refine va_sld hx hb hX hbl hbA hS h1 dL_law_465 ?_
  refine lv_aload_n hx hb dL_law_466 rfl (lv_at hl 0 rfl) ?_
  refine lv_iload_n hx hb dL_law_467 rfl (lv_at hl 3 rfl) ?_
  refine lv_iconst (v := 2) hx hb dL_law_468 (by decide) ?_
  refine lv_iadd hx hb dL_law_469 ?_
  refine va_sld hx hb hX hbl hbA hS h2 dL_law_470 ?_
  refine lv_aload_n hx hb dL_law_471 rfl (lv_at hl 0 rfl) ?_
  refine lv_iload_n hx hb dL_law_472 rfl (lv_at hl 3 rfl) ?_
  refine lv_iconst (v := 3) hx hb dL_law_473 (by decide) ?_
  refine lv_iadd hx hb dL_law_474 ?_
  refine va_sld hx hb hX hbl hbA hS h3 dL_law_475 ?_
  refine lv_aload_n hx hb dL_law_476 rfl (lv_at hl 0 rfl) ?_
  refine lv_iload_n hx hb dL_law_477 rfl (lv_at hl 3 rfl) ?_
  refine lv_iconst (v := 4) hx hb dL_law_478 (by decide) ?_
  refine lv_iadd hx hb dL_law_479 ?_
  refine va_sld hx hb hX hbl hbA hS h4 dL_law_480 ?_
  refine clx_VI ⟨hx, hb, hml, hown, htb⟩ (kX9_play l D cS g cI bm mm _ _ _ _ _ _ e2) (cwV 4 htb (gX9_play bw4_176) rfl rfl rfl hdX9_play ⟨Nat.le_of_ble_eq_true rfl, Nat.le_of_ble_eq_true rfl⟩) hK (hDa _ _) hG hA hP hS sg_R hl.1 rfl 0 (pMd_0 cI bm mm) rfl rfl (Nat.le_of_ble_eq_true rfl) hf dL_law_481 (fun H locs hP hS => ?_)
  refine lv_icmp_eq (tgt := 920) hx hb dL_law_484 (by decide) (fun _ => ?_) (fun c1 => absurd rfl c1)
  exact kk M' mm' H locs (hI'.mono (by omega) (by omega)) hP hS
set_option maxHeartbeats 4000000 in
set_option maxRecDepth 100000 in
/-- case 9 -/
theorem lw_c9 (hx : p.tables.exec = Jvm.exec) (hb : c.code = cL_law) (hml : c.maxLocals = 4) (hown : s.vm.findClass RL = some m.cls) (htb : ∀ w ∈ BIG, w.before #[Value.ref b] s = true) (hX : va_X b N xs s s.heap) (hbl : b < s.heap.size) (hbA : ¬ A b) (hA : ∀ q : Nat, s.heap.size ≤ q → A q) (hK : va_K D vwCl (tI cI cS) s) (hG : GG g A s s.heap) (hDa : ∀ M mm, va_D A (wXX cI cS xx xd xo hh ha z zn q M ++ wMd cI bm mm)) (hf : cells ≤ room_1.cells ∧ slots ≤ room_1.slots) (h1 : vp_in (x3 + 1) N) (hKb : K + 145 ≤ 80000) (hI : Inv K M mm) (hP : va_P D vwCl (wXX cI cS xx xd xo hh ha z zn q M ++ wMd cI bm mm) H) (hS : va_S A s.heap H locs) (hl : lv_has ls 4 [(0, .ref b), (1, .ref xx), (2, .ref (bm 0)), (3, .int x3)]) (kk : ∀ (M' : Xm) (mm' : Md) (H : Heap) (locs : List Loc), Inv (K + 145) M' mm' → va_P D vwCl (wXX cI cS xx xd xo hh ha z zn q M' ++ wMd cI bm mm') H → va_S A s.heap H locs → W p l e room_1 s m #[Value.ref b] below meth c H locs cells slots Q (F0 m 920 ls [])) : W p l e room_1 s m #[Value.ref b] below meth c H locs cells slots Q (F0 m 489 ls []) := by
  obtain ⟨r, M', mm', e1, e2, hI'⟩ := simTake hI (xs (x3 + 1).toNatClampNeg)
  refine lv_aload_n hx hb dL_law_489 rfl (lv_at hl 1 rfl) ?_
  refine lv_aload_n hx hb dL_law_490 rfl (lv_at hl 0 rfl) ?_
  refine lv_iload_n hx hb dL_law_491 rfl (lv_at hl 3 rfl) ?_
  refine lv_iconst (v := 1) hx hb dL_law_492 (by decide) ?_
  refine lv_iadd hx hb dL_law_493 ?_
  refine va_sld hx hb hX hbl hbA hS h1 dL_law_494 ?_
  refine clx_VI ⟨hx, hb, hml, hown, htb⟩ (kX8_take l D cS g cI xx xd xo hh ha z zn q M _ _ _ e1) (cwV 1 htb (gX8_take bw2_214) rfl rfl rfl hdX8_take ⟨Nat.le_of_ble_eq_true rfl, Nat.le_of_ble_eq_true rfl⟩) hK (hDa _ _) hG hA hP hS sg_L hl.1 rfl 0 (pXX_0 cI cS xx xd xo hh ha z zn q M) rfl rfl (Nat.le_of_ble_eq_true rfl) hf dL_law_495 (fun H locs hP hS => ?_)
  refine lv_aload_n hx hb dL_law_498 rfl (lv_at hl 2 rfl) ?_
  refine lv_aload_n hx hb dL_law_499 rfl (lv_at hl 0 rfl) ?_
  refine lv_iload_n hx hb dL_law_500 rfl (lv_at hl 3 rfl) ?_
  refine lv_iconst (v := 1) hx hb dL_law_501 (by decide) ?_
  refine lv_iadd hx hb dL_law_502 ?_
  refine va_sld hx hb hX hbl hbA hS h1 dL_law_503 ?_
  refine clx_VI ⟨hx, hb, hml, hown, htb⟩ (kX9_take l D cS g cI bm mm _ _ _ e2) (cwV 1 htb (gX9_take bw4_192) rfl rfl rfl hdX9_take ⟨Nat.le_of_ble_eq_true rfl, Nat.le_of_ble_eq_true rfl⟩) hK (hDa _ _) hG hA hP hS sg_R hl.1 rfl 0 (pMd_0 cI bm mm) rfl rfl (Nat.le_of_ble_eq_true rfl) hf dL_law_504 (fun H locs hP hS => ?_)
  refine lv_icmp_eq (tgt := 920) hx hb dL_law_507 (by decide) (fun _ => ?_) (fun c1 => absurd rfl c1)
  exact kk M' mm' H locs (hI'.mono (by omega) (by omega)) hP hS
set_option maxHeartbeats 4000000 in
set_option maxRecDepth 100000 in
/-- case 10 -/
theorem lw_c10 (hx : p.tables.exec = Jvm.exec) (hb : c.code = cL_law) (hml : c.maxLocals = 4) (hown : s.vm.findClass RL = some m.cls) (htb : ∀ w ∈ BIG, w.before #[Value.ref b] s = true) (hX : va_X b N xs s s.heap) (hbl : b < s.heap.size) (hbA : ¬ A b) (hA : ∀ q : Nat, s.heap.size ≤ q → A q) (hK : va_K D vwCl (tI cI cS) s) (hG : GG g A s s.heap) (hDa : ∀ M mm, va_D A (wXX cI cS xx xd xo hh ha z zn q M ++ wMd cI bm mm)) (hf : cells ≤ room_1.cells ∧ slots ≤ room_1.slots) (h1 : vp_in (x3 + 1) N) (hKb : K + 145 ≤ 80000) (hI : Inv K M mm) (hP : va_P D vwCl (wXX cI cS xx xd xo hh ha z zn q M ++ wMd cI bm mm) H) (hS : va_S A s.heap H locs) (hl : lv_has ls 4 [(0, .ref b), (1, .ref xx), (2, .ref (bm 0)), (3, .int x3)]) (kk : ∀ (M' : Xm) (mm' : Md) (H : Heap) (locs : List Loc), Inv (K + 145) M' mm' → va_P D vwCl (wXX cI cS xx xd xo hh ha z zn q M' ++ wMd cI bm mm') H → va_S A s.heap H locs → W p l e room_1 s m #[Value.ref b] below meth c H locs cells slots Q (F0 m 920 ls [])) : W p l e room_1 s m #[Value.ref b] below meth c H locs cells slots Q (F0 m 512 ls []) := by
  obtain ⟨r, M', mm', e1, e2, hI'⟩ := simRestore hI (xs (x3 + 1).toNatClampNeg)
  refine lv_aload_n hx hb dL_law_512 rfl (lv_at hl 1 rfl) ?_
  refine lv_aload_n hx hb dL_law_513 rfl (lv_at hl 0 rfl) ?_
  refine lv_iload_n hx hb dL_law_514 rfl (lv_at hl 3 rfl) ?_
  refine lv_iconst (v := 1) hx hb dL_law_515 (by decide) ?_
  refine lv_iadd hx hb dL_law_516 ?_
  refine va_sld hx hb hX hbl hbA hS h1 dL_law_517 ?_
  refine clx_VI ⟨hx, hb, hml, hown, htb⟩ (kX8_restore l D cS g cI xx xd xo hh ha z zn q M _ _ _ e1) (cwV 1 htb (gX8_restore bw2_227) rfl rfl rfl hdX8_restore ⟨Nat.le_of_ble_eq_true rfl, Nat.le_of_ble_eq_true rfl⟩) hK (hDa _ _) hG hA hP hS sg_L hl.1 rfl 0 (pXX_0 cI cS xx xd xo hh ha z zn q M) rfl rfl (Nat.le_of_ble_eq_true rfl) hf dL_law_518 (fun H locs hP hS => ?_)
  refine lv_aload_n hx hb dL_law_521 rfl (lv_at hl 2 rfl) ?_
  refine lv_aload_n hx hb dL_law_522 rfl (lv_at hl 0 rfl) ?_
  refine lv_iload_n hx hb dL_law_523 rfl (lv_at hl 3 rfl) ?_
  refine lv_iconst (v := 1) hx hb dL_law_524 (by decide) ?_
  refine lv_iadd hx hb dL_law_525 ?_
  refine va_sld hx hb hX hbl hbA hS h1 dL_law_526 ?_
  refine clx_VI ⟨hx, hb, hml, hown, htb⟩ (kX9_restore l D cS g cI bm mm _ _ _ e2) (cwV 1 htb (gX9_restore bw4_196) rfl rfl rfl hdX9_restore ⟨Nat.le_of_ble_eq_true rfl, Nat.le_of_ble_eq_true rfl⟩) hK (hDa _ _) hG hA hP hS sg_R hl.1 rfl 0 (pMd_0 cI bm mm) rfl rfl (Nat.le_of_ble_eq_true rfl) hf dL_law_527 (fun H locs hP hS => ?_)
  refine lv_icmp_eq (tgt := 920) hx hb dL_law_530 (by decide) (fun _ => ?_) (fun c1 => absurd rfl c1)
  exact kk M' mm' H locs (hI'.mono (by omega) (by omega)) hP hS
set_option maxHeartbeats 4000000 in
set_option maxRecDepth 100000 in
/-- case 11 -/
theorem lw_c11 (hx : p.tables.exec = Jvm.exec) (hb : c.code = cL_law) (hml : c.maxLocals = 4) (hown : s.vm.findClass RL = some m.cls) (htb : ∀ w ∈ BIG, w.before #[Value.ref b] s = true) (hX : va_X b N xs s s.heap) (hbl : b < s.heap.size) (hbA : ¬ A b) (hA : ∀ q : Nat, s.heap.size ≤ q → A q) (hK : va_K D vwCl (tI cI cS) s) (hG : GG g A s s.heap) (hDa : ∀ M mm, va_D A (wXX cI cS xx xd xo hh ha z zn q M ++ wMd cI bm mm)) (hf : cells ≤ room_1.cells ∧ slots ≤ room_1.slots)  (hKb : K + 145 ≤ 80000) (hI : Inv K M mm) (hP : va_P D vwCl (wXX cI cS xx xd xo hh ha z zn q M ++ wMd cI bm mm) H) (hS : va_S A s.heap H locs) (hl : lv_has ls 4 [(0, .ref b), (1, .ref xx), (2, .ref (bm 0)), (3, .int x3)]) (kk : ∀ (M' : Xm) (mm' : Md) (H : Heap) (locs : List Loc), Inv (K + 145) M' mm' → va_P D vwCl (wXX cI cS xx xd xo hh ha z zn q M' ++ wMd cI bm mm') H → va_S A s.heap H locs → W p l e room_1 s m #[Value.ref b] below meth c H locs cells slots Q (F0 m 920 ls [])) : W p l e room_1 s m #[Value.ref b] below meth c H locs cells slots Q (F0 m 535 ls []) := by
  obtain ⟨r, M', mm', e1, e2, hI'⟩ := simUndo hI 
  refine lv_aload_n hx hb dL_law_535 rfl (lv_at hl 1 rfl) ?_
  refine clx_VI ⟨hx, hb, hml, hown, htb⟩ (kX8_undo l D cS g cI xx xd xo hh ha z zn q M _ _ e1) (cwV 0 htb (gX8_undo bw2_232) rfl rfl rfl hdX8_undo ⟨Nat.le_of_ble_eq_true rfl, Nat.le_of_ble_eq_true rfl⟩) hK (hDa _ _) hG hA hP hS sg_L hl.1 rfl 0 (pXX_0 cI cS xx xd xo hh ha z zn q M) rfl rfl (Nat.le_of_ble_eq_true rfl) hf dL_law_536 (fun H locs hP hS => ?_)
  refine lv_aload_n hx hb dL_law_539 rfl (lv_at hl 2 rfl) ?_
  refine clx_VI ⟨hx, hb, hml, hown, htb⟩ (kX9_undo l D cS g cI bm mm _ _ e2) (cwV 0 htb (gX9_undo bw4_200) rfl rfl rfl hdX9_undo ⟨Nat.le_of_ble_eq_true rfl, Nat.le_of_ble_eq_true rfl⟩) hK (hDa _ _) hG hA hP hS sg_R hl.1 rfl 0 (pMd_0 cI bm mm) rfl rfl (Nat.le_of_ble_eq_true rfl) hf dL_law_540 (fun H locs hP hS => ?_)
  refine lv_icmp_eq (tgt := 920) hx hb dL_law_543 (by decide) (fun _ => ?_) (fun c1 => absurd rfl c1)
  exact kk M' mm' H locs (hI'.mono (by omega) (by omega)) hP hS
set_option maxHeartbeats 4000000 in
set_option maxRecDepth 100000 in
/-- case 12 -/
theorem lw_c12 (hx : p.tables.exec = Jvm.exec) (hb : c.code = cL_law) (hml : c.maxLocals = 4) (hown : s.vm.findClass RL = some m.cls) (htb : ∀ w ∈ BIG, w.before #[Value.ref b] s = true) (hX : va_X b N xs s s.heap) (hbl : b < s.heap.size) (hbA : ¬ A b) (hA : ∀ q : Nat, s.heap.size ≤ q → A q) (hK : va_K D vwCl (tI cI cS) s) (hG : GG g A s s.heap) (hDa : ∀ M mm, va_D A (wXX cI cS xx xd xo hh ha z zn q M ++ wMd cI bm mm)) (hf : cells ≤ room_1.cells ∧ slots ≤ room_1.slots) (h1 : vp_in (x3 + 1) N) (hKb : K + 145 ≤ 80000) (hI : Inv K M mm) (hP : va_P D vwCl (wXX cI cS xx xd xo hh ha z zn q M ++ wMd cI bm mm) H) (hS : va_S A s.heap H locs) (hl : lv_has ls 4 [(0, .ref b), (1, .ref xx), (2, .ref (bm 0)), (3, .int x3)]) (kk : ∀ (M' : Xm) (mm' : Md) (H : Heap) (locs : List Loc), Inv (K + 145) M' mm' → va_P D vwCl (wXX cI cS xx xd xo hh ha z zn q M' ++ wMd cI bm mm') H → va_S A s.heap H locs → W p l e room_1 s m #[Value.ref b] below meth c H locs cells slots Q (F0 m 920 ls [])) : W p l e room_1 s m #[Value.ref b] below meth c H locs cells slots Q (F0 m 548 ls []) := by
  obtain ⟨r, M', mm', e1, e2, hI'⟩ := simAppend hI (xs (x3 + 1).toNatClampNeg)
  refine lv_aload_n hx hb dL_law_548 rfl (lv_at hl 1 rfl) ?_
  refine lv_aload_n hx hb dL_law_549 rfl (lv_at hl 0 rfl) ?_
  refine lv_iload_n hx hb dL_law_550 rfl (lv_at hl 3 rfl) ?_
  refine lv_iconst (v := 1) hx hb dL_law_551 (by decide) ?_
  refine lv_iadd hx hb dL_law_552 ?_
  refine va_sld hx hb hX hbl hbA hS h1 dL_law_553 ?_
  refine clx_VI ⟨hx, hb, hml, hown, htb⟩ (kX8_append l D cS g cI xx xd xo hh ha z zn q M _ _ _ e1) (cwV 1 htb (gX8_append bw3_4) rfl rfl rfl hdX8_append ⟨Nat.le_of_ble_eq_true rfl, Nat.le_of_ble_eq_true rfl⟩) hK (hDa _ _) hG hA hP hS sg_L hl.1 rfl 0 (pXX_0 cI cS xx xd xo hh ha z zn q M) rfl rfl (Nat.le_of_ble_eq_true rfl) hf dL_law_554 (fun H locs hP hS => ?_)
  refine lv_aload_n hx hb dL_law_557 rfl (lv_at hl 2 rfl) ?_
  refine lv_aload_n hx hb dL_law_558 rfl (lv_at hl 0 rfl) ?_
  refine lv_iload_n hx hb dL_law_559 rfl (lv_at hl 3 rfl) ?_
  refine lv_iconst (v := 1) hx hb dL_law_560 (by decide) ?_
  refine lv_iadd hx hb dL_law_561 ?_
  refine va_sld hx hb hX hbl hbA hS h1 dL_law_562 ?_
  refine clx_VI ⟨hx, hb, hml, hown, htb⟩ (kX9_append l D cS g cI bm mm _ _ _ e2) (cwV 1 htb (gX9_append bw4_204) rfl rfl rfl hdX9_append ⟨Nat.le_of_ble_eq_true rfl, Nat.le_of_ble_eq_true rfl⟩) hK (hDa _ _) hG hA hP hS sg_R hl.1 rfl 0 (pMd_0 cI bm mm) rfl rfl (Nat.le_of_ble_eq_true rfl) hf dL_law_563 (fun H locs hP hS => ?_)
  refine lv_icmp_eq (tgt := 920) hx hb dL_law_566 (by decide) (fun _ => ?_) (fun c1 => absurd rfl c1)
  exact kk M' mm' H locs (hI'.mono (by omega) (by omega)) hP hS
set_option maxHeartbeats 4000000 in
set_option maxRecDepth 100000 in
/-- case 13 -/
theorem lw_c13 (hx : p.tables.exec = Jvm.exec) (hb : c.code = cL_law) (hml : c.maxLocals = 4) (hown : s.vm.findClass RL = some m.cls) (htb : ∀ w ∈ BIG, w.before #[Value.ref b] s = true) (hX : va_X b N xs s s.heap) (hbl : b < s.heap.size) (hbA : ¬ A b) (hA : ∀ q : Nat, s.heap.size ≤ q → A q) (hK : va_K D vwCl (tI cI cS) s) (hG : GG g A s s.heap) (hDa : ∀ M mm, va_D A (wXX cI cS xx xd xo hh ha z zn q M ++ wMd cI bm mm)) (hf : cells ≤ room_1.cells ∧ slots ≤ room_1.slots)  (hKb : K + 145 ≤ 80000) (hI : Inv K M mm) (hP : va_P D vwCl (wXX cI cS xx xd xo hh ha z zn q M ++ wMd cI bm mm) H) (hS : va_S A s.heap H locs) (hl : lv_has ls 4 [(0, .ref b), (1, .ref xx), (2, .ref (bm 0)), (3, .int x3)]) (kk : ∀ (M' : Xm) (mm' : Md) (H : Heap) (locs : List Loc), Inv (K + 145) M' mm' → va_P D vwCl (wXX cI cS xx xd xo hh ha z zn q M' ++ wMd cI bm mm') H → va_S A s.heap H locs → W p l e room_1 s m #[Value.ref b] below meth c H locs cells slots Q (F0 m 920 ls [])) : W p l e room_1 s m #[Value.ref b] below meth c H locs cells slots Q (F0 m 571 ls []) := by
  obtain ⟨r, M', mm', e1, e2, hI'⟩ := simClear hI 
  refine lv_aload_n hx hb dL_law_571 rfl (lv_at hl 1 rfl) ?_
  refine clx_VI ⟨hx, hb, hml, hown, htb⟩ (kX8_clearText l D cS g cI xx xd xo hh ha z zn q M _ _ e1) (cwV 0 htb (gX8_clearText bw3_13) rfl rfl rfl hdX8_clearText ⟨Nat.le_of_ble_eq_true rfl, Nat.le_of_ble_eq_true rfl⟩) hK (hDa _ _) hG hA hP hS sg_L hl.1 rfl 0 (pXX_0 cI cS xx xd xo hh ha z zn q M) rfl rfl (Nat.le_of_ble_eq_true rfl) hf dL_law_572 (fun H locs hP hS => ?_)
  refine lv_aload_n hx hb dL_law_575 rfl (lv_at hl 2 rfl) ?_
  refine clx_VI ⟨hx, hb, hml, hown, htb⟩ (kX9_clearText l D cS g cI bm mm _ _ e2) (cwV 0 htb (gX9_clearText bw4_208) rfl rfl rfl hdX9_clearText ⟨Nat.le_of_ble_eq_true rfl, Nat.le_of_ble_eq_true rfl⟩) hK (hDa _ _) hG hA hP hS sg_R hl.1 rfl 0 (pMd_0 cI bm mm) rfl rfl (Nat.le_of_ble_eq_true rfl) hf dL_law_576 (fun H locs hP hS => ?_)
  refine lv_icmp_eq (tgt := 920) hx hb dL_law_579 (by decide) (fun _ => ?_) (fun c1 => absurd rfl c1)
  exact kk M' mm' H locs (hI'.mono (by omega) (by omega)) hP hS
set_option maxHeartbeats 4000000 in
set_option maxRecDepth 100000 in
/-- case 14 -/
theorem lw_c14 (hx : p.tables.exec = Jvm.exec) (hb : c.code = cL_law) (hml : c.maxLocals = 4) (hown : s.vm.findClass RL = some m.cls) (htb : ∀ w ∈ BIG, w.before #[Value.ref b] s = true) (hX : va_X b N xs s s.heap) (hbl : b < s.heap.size) (hbA : ¬ A b) (hA : ∀ q : Nat, s.heap.size ≤ q → A q) (hK : va_K D vwCl (tI cI cS) s) (hG : GG g A s s.heap) (hDa : ∀ M mm, va_D A (wXX cI cS xx xd xo hh ha z zn q M ++ wMd cI bm mm)) (hf : cells ≤ room_1.cells ∧ slots ≤ room_1.slots)  (hKb : K + 145 ≤ 80000) (hI : Inv K M mm) (hP : va_P D vwCl (wXX cI cS xx xd xo hh ha z zn q M ++ wMd cI bm mm) H) (hS : va_S A s.heap H locs) (hl : lv_has ls 4 [(0, .ref b), (1, .ref xx), (2, .ref (bm 0)), (3, .int x3)]) (kk : ∀ (M' : Xm) (mm' : Md) (H : Heap) (locs : List Loc), Inv (K + 145) M' mm' → va_P D vwCl (wXX cI cS xx xd xo hh ha z zn q M' ++ wMd cI bm mm') H → va_S A s.heap H locs → W p l e room_1 s m #[Value.ref b] below meth c H locs cells slots Q (F0 m 920 ls [])) : W p l e room_1 s m #[Value.ref b] below meth c H locs cells slots Q (F0 m 584 ls []) := by
  obtain ⟨r, M', mm', e1, e2, hI'⟩ := simRun hI (by omega) 
  refine lv_aload_n hx hb dL_law_584 rfl (lv_at hl 1 rfl) ?_
  refine clx_VI ⟨hx, hb, hml, hown, htb⟩ (kX8_run l D cS g cI xx xd xo hh ha z zn q M _ _ e1) (cwV 0 htb (gX8_run bw3_21) rfl rfl rfl hdX8_run ⟨Nat.le_of_ble_eq_true rfl, Nat.le_of_ble_eq_true rfl⟩) hK (hDa _ _) hG hA hP hS sg_L hl.1 rfl 0 (pXX_0 cI cS xx xd xo hh ha z zn q M) rfl rfl (Nat.le_of_ble_eq_true rfl) hf dL_law_585 (fun H locs hP hS => ?_)
  refine lv_aload_n hx hb dL_law_588 rfl (lv_at hl 2 rfl) ?_
  refine clx_VI ⟨hx, hb, hml, hown, htb⟩ (kX9_run l D cS g cI bm mm _ _ e2) (cwV 0 htb (gX9_run bw4_212) rfl rfl rfl hdX9_run ⟨Nat.le_of_ble_eq_true rfl, Nat.le_of_ble_eq_true rfl⟩) hK (hDa _ _) hG hA hP hS sg_R hl.1 rfl 0 (pMd_0 cI bm mm) rfl rfl (Nat.le_of_ble_eq_true rfl) hf dL_law_589 (fun H locs hP hS => ?_)
  refine lv_icmp_eq (tgt := 920) hx hb dL_law_592 (by decide) (fun _ => ?_) (fun c1 => absurd rfl c1)
  exact kk M' mm' H locs (hI'.mono (by omega) (by omega)) hP hS
set_option maxHeartbeats 4000000 in
set_option maxRecDepth 100000 in
/-- case 15 -/
theorem lw_c15 (hx : p.tables.exec = Jvm.exec) (hb : c.code = cL_law) (hml : c.maxLocals = 4) (hown : s.vm.findClass RL = some m.cls) (htb : ∀ w ∈ BIG, w.before #[Value.ref b] s = true) (hX : va_X b N xs s s.heap) (hbl : b < s.heap.size) (hbA : ¬ A b) (hA : ∀ q : Nat, s.heap.size ≤ q → A q) (hK : va_K D vwCl (tI cI cS) s) (hG : GG g A s s.heap) (hDa : ∀ M mm, va_D A (wXX cI cS xx xd xo hh ha z zn q M ++ wMd cI bm mm)) (hf : cells ≤ room_1.cells ∧ slots ≤ room_1.slots) (h1 : vp_in (x3 + 1) N) (hKb : K + 145 ≤ 80000) (hI : Inv K M mm) (hP : va_P D vwCl (wXX cI cS xx xd xo hh ha z zn q M ++ wMd cI bm mm) H) (hS : va_S A s.heap H locs) (hl : lv_has ls 4 [(0, .ref b), (1, .ref xx), (2, .ref (bm 0)), (3, .int x3)]) (kk : ∀ (M' : Xm) (mm' : Md) (H : Heap) (locs : List Loc), Inv (K + 145) M' mm' → va_P D vwCl (wXX cI cS xx xd xo hh ha z zn q M' ++ wMd cI bm mm') H → va_S A s.heap H locs → W p l e room_1 s m #[Value.ref b] below meth c H locs cells slots Q (F0 m 920 ls [])) : W p l e room_1 s m #[Value.ref b] below meth c H locs cells slots Q (F0 m 597 ls []) := by
  obtain ⟨r, e1, e2⟩ := simCount hI (xs (x3 + 1).toNatClampNeg)
  refine lv_aload_n hx hb dL_law_597 rfl (lv_at hl 1 rfl) ?_
  refine lv_aload_n hx hb dL_law_598 rfl (lv_at hl 0 rfl) ?_
  refine lv_iload_n hx hb dL_law_599 rfl (lv_at hl 3 rfl) ?_
  refine lv_iconst (v := 1) hx hb dL_law_600 (by decide) ?_
  refine lv_iadd hx hb dL_law_601 ?_
  refine va_sld hx hb hX hbl hbA hS h1 dL_law_602 ?_
  refine clx_VI ⟨hx, hb, hml, hown, htb⟩ (kX8_count l D cS g cI xx xd xo hh ha z zn q M _ _ _ e1) (cwV 1 htb (gX8_count bw3_134) rfl rfl rfl hdX8_count ⟨Nat.le_of_ble_eq_true rfl, Nat.le_of_ble_eq_true rfl⟩) hK (hDa _ _) hG hA hP hS sg_L hl.1 rfl 0 (pXX_0 cI cS xx xd xo hh ha z zn q M) rfl rfl (Nat.le_of_ble_eq_true rfl) hf dL_law_603 (fun H locs hP hS => ?_)
  refine lv_aload_n hx hb dL_law_606 rfl (lv_at hl 2 rfl) ?_
  refine lv_aload_n hx hb dL_law_607 rfl (lv_at hl 0 rfl) ?_
  refine lv_iload_n hx hb dL_law_608 rfl (lv_at hl 3 rfl) ?_
  refine lv_iconst (v := 1) hx hb dL_law_609 (by decide) ?_
  refine lv_iadd hx hb dL_law_610 ?_
  refine va_sld hx hb hX hbl hbA hS h1 dL_law_611 ?_
  refine clx_VI ⟨hx, hb, hml, hown, htb⟩ (kX9_count l D cS g cI bm mm _ _ e2) (cwV 1 htb (gX9_count bw5_18) rfl rfl rfl hdX9_count ⟨Nat.le_of_ble_eq_true rfl, Nat.le_of_ble_eq_true rfl⟩) hK (hDa _ _) hG hA hP hS sg_R hl.1 rfl 0 (pMd_0 cI bm mm) rfl rfl (Nat.le_of_ble_eq_true rfl) hf dL_law_612 (fun H locs hP hS => ?_)
  refine lv_icmp_eq (tgt := 920) hx hb dL_law_615 (by decide) (fun _ => ?_) (fun c1 => absurd rfl c1)
  exact kk M mm H locs (hI.mono (by omega) (by omega)) hP hS
set_option maxHeartbeats 4000000 in
set_option maxRecDepth 100000 in
/-- case 16 -/
theorem lw_c16 (hx : p.tables.exec = Jvm.exec) (hb : c.code = cL_law) (hml : c.maxLocals = 4) (hown : s.vm.findClass RL = some m.cls) (htb : ∀ w ∈ BIG, w.before #[Value.ref b] s = true) (hX : va_X b N xs s s.heap) (hbl : b < s.heap.size) (hbA : ¬ A b) (hA : ∀ q : Nat, s.heap.size ≤ q → A q) (hK : va_K D vwCl (tI cI cS) s) (hG : GG g A s s.heap) (hDa : ∀ M mm, va_D A (wXX cI cS xx xd xo hh ha z zn q M ++ wMd cI bm mm)) (hf : cells ≤ room_1.cells ∧ slots ≤ room_1.slots) (h1 : vp_in (x3 + 1) N) (h2 : vp_in (x3 + 2) N) (hKb : K + 145 ≤ 80000) (hI : Inv K M mm) (hP : va_P D vwCl (wXX cI cS xx xd xo hh ha z zn q M ++ wMd cI bm mm) H) (hS : va_S A s.heap H locs) (hl : lv_has ls 4 [(0, .ref b), (1, .ref xx), (2, .ref (bm 0)), (3, .int x3)]) (kk : ∀ (M' : Xm) (mm' : Md) (H : Heap) (locs : List Loc), Inv (K + 145) M' mm' → va_P D vwCl (wXX cI cS xx xd xo hh ha z zn q M' ++ wMd cI bm mm') H → va_S A s.heap H locs → W p l e room_1 s m #[Value.ref b] below meth c H locs cells slots Q (F0 m 920 ls [])) : W p l e room_1 s m #[Value.ref b] below meth c H locs cells slots Q (F0 m 620 ls []) := by
  obtain ⟨r, e1, e2⟩ := simRoom hI (xs (x3 + 1).toNatClampNeg) (xs (x3 + 2).toNatClampNeg)
  refine lv_aload_n hx hb dL_law_620 rfl (lv_at hl 1 rfl) ?_
  refine lv_aload_n hx hb dL_law_621 rfl (lv_at hl 0 rfl) ?_
  refine lv_iload_n hx hb dL_law_622 rfl (lv_at hl 3 rfl) ?_
  refine lv_iconst (v := 1) hx hb dL_law_623 (by decide) ?_
  refine lv_iadd hx hb dL_law_624 ?_
  refine va_sld hx hb hX hbl hbA hS h1 dL_law_625 ?_
  refine lv_aload_n hx hb dL_law_626 rfl (lv_at hl 0 rfl) ?_
  refine lv_iload_n hx hb dL_law_627 rfl (lv_at hl 3 rfl) ?_
  refine lv_iconst (v := 2) hx hb dL_law_628 (by decide) ?_
  refine lv_iadd hx hb dL_law_629 ?_
  refine va_sld hx hb hX hbl hbA hS h2 dL_law_630 ?_
  refine clx_VI ⟨hx, hb, hml, hown, htb⟩ (kX8_room l D cS g cI xx xd xo hh ha z zn q M _ _ _ _ e1) (cwV 2 htb (gX8_room bw3_156) rfl rfl rfl hdX8_room ⟨Nat.le_of_ble_eq_true rfl, Nat.le_of_ble_eq_true rfl⟩) hK (hDa _ _) hG hA hP hS sg_L hl.1 rfl 0 (pXX_0 cI cS xx xd xo hh ha z zn q M) rfl rfl (Nat.le_of_ble_eq_true rfl) hf dL_law_631 (fun H locs hP hS => ?_)
  refine lv_aload_n hx hb dL_law_634 rfl (lv_at hl 2 rfl) ?_
  refine lv_aload_n hx hb dL_law_635 rfl (lv_at hl 0 rfl) ?_
  refine lv_iload_n hx hb dL_law_636 rfl (lv_at hl 3 rfl) ?_
  refine lv_iconst (v := 1) hx hb dL_law_637 (by decide) ?_
  refine lv_iadd hx hb dL_law_638 ?_
  refine va_sld hx hb hX hbl hbA hS h1 dL_law_639 ?_
  refine lv_aload_n hx hb dL_law_640 rfl (lv_at hl 0 rfl) ?_
  refine lv_iload_n hx hb dL_law_641 rfl (lv_at hl 3 rfl) ?_
  refine lv_iconst (v := 2) hx hb dL_law_642 (by decide) ?_
  refine lv_iadd hx hb dL_law_643 ?_
  refine va_sld hx hb hX hbl hbA hS h2 dL_law_644 ?_
  refine clx_VI ⟨hx, hb, hml, hown, htb⟩ (kX9_room l D cS g cI bm mm _ _ _ e2) (cwV 2 htb (gX9_room bw5_26) rfl rfl rfl hdX9_room ⟨Nat.le_of_ble_eq_true rfl, Nat.le_of_ble_eq_true rfl⟩) hK (hDa _ _) hG hA hP hS sg_R hl.1 rfl 0 (pMd_0 cI bm mm) rfl rfl (Nat.le_of_ble_eq_true rfl) hf dL_law_645 (fun H locs hP hS => ?_)
  refine lv_icmp_eq (tgt := 920) hx hb dL_law_648 (by decide) (fun _ => ?_) (fun c1 => absurd rfl c1)
  exact kk M mm H locs (hI.mono (by omega) (by omega)) hP hS
set_option maxHeartbeats 4000000 in
set_option maxRecDepth 100000 in
/-- case 17 -/
theorem lw_c17 (hx : p.tables.exec = Jvm.exec) (hb : c.code = cL_law) (hml : c.maxLocals = 4) (hown : s.vm.findClass RL = some m.cls) (htb : ∀ w ∈ BIG, w.before #[Value.ref b] s = true) (hX : va_X b N xs s s.heap) (hbl : b < s.heap.size) (hbA : ¬ A b) (hA : ∀ q : Nat, s.heap.size ≤ q → A q) (hK : va_K D vwCl (tI cI cS) s) (hG : GG g A s s.heap) (hDa : ∀ M mm, va_D A (wXX cI cS xx xd xo hh ha z zn q M ++ wMd cI bm mm)) (hf : cells ≤ room_1.cells ∧ slots ≤ room_1.slots) (h1 : vp_in (x3 + 1) N) (h2 : vp_in (x3 + 2) N) (hKb : K + 145 ≤ 80000) (hI : Inv K M mm) (hP : va_P D vwCl (wXX cI cS xx xd xo hh ha z zn q M ++ wMd cI bm mm) H) (hS : va_S A s.heap H locs) (hl : lv_has ls 4 [(0, .ref b), (1, .ref xx), (2, .ref (bm 0)), (3, .int x3)]) (kk : ∀ (M' : Xm) (mm' : Md) (H : Heap) (locs : List Loc), Inv (K + 145) M' mm' → va_P D vwCl (wXX cI cS xx xd xo hh ha z zn q M' ++ wMd cI bm mm') H → va_S A s.heap H locs → W p l e room_1 s m #[Value.ref b] below meth c H locs cells slots Q (F0 m 920 ls [])) : W p l e room_1 s m #[Value.ref b] below meth c H locs cells slots Q (F0 m 653 ls []) := by
  obtain ⟨r, e1, e2⟩ := simBooking hI (xs (x3 + 1).toNatClampNeg) (xs (x3 + 2).toNatClampNeg)
  refine lv_aload_n hx hb dL_law_653 rfl (lv_at hl 1 rfl) ?_
  refine lv_aload_n hx hb dL_law_654 rfl (lv_at hl 0 rfl) ?_
  refine lv_iload_n hx hb dL_law_655 rfl (lv_at hl 3 rfl) ?_
  refine lv_iconst (v := 1) hx hb dL_law_656 (by decide) ?_
  refine lv_iadd hx hb dL_law_657 ?_
  refine va_sld hx hb hX hbl hbA hS h1 dL_law_658 ?_
  refine lv_aload_n hx hb dL_law_659 rfl (lv_at hl 0 rfl) ?_
  refine lv_iload_n hx hb dL_law_660 rfl (lv_at hl 3 rfl) ?_
  refine lv_iconst (v := 2) hx hb dL_law_661 (by decide) ?_
  refine lv_iadd hx hb dL_law_662 ?_
  refine va_sld hx hb hX hbl hbA hS h2 dL_law_663 ?_
  refine clx_VI ⟨hx, hb, hml, hown, htb⟩ (kX8_booking l D cS g cI xx xd xo hh ha z zn q M _ _ _ _ e1) (cwV 2 htb (gX8_booking bw3_163) rfl rfl rfl hdX8_booking ⟨Nat.le_of_ble_eq_true rfl, Nat.le_of_ble_eq_true rfl⟩) hK (hDa _ _) hG hA hP hS sg_L hl.1 rfl 0 (pXX_0 cI cS xx xd xo hh ha z zn q M) rfl rfl (Nat.le_of_ble_eq_true rfl) hf dL_law_664 (fun H locs hP hS => ?_)
  refine lv_aload_n hx hb dL_law_667 rfl (lv_at hl 2 rfl) ?_
  refine lv_aload_n hx hb dL_law_668 rfl (lv_at hl 0 rfl) ?_
  refine lv_iload_n hx hb dL_law_669 rfl (lv_at hl 3 rfl) ?_
  refine lv_iconst (v := 1) hx hb dL_law_670 (by decide) ?_
  refine lv_iadd hx hb dL_law_671 ?_
  refine va_sld hx hb hX hbl hbA hS h1 dL_law_672 ?_
  refine lv_aload_n hx hb dL_law_673 rfl (lv_at hl 0 rfl) ?_
  refine lv_iload_n hx hb dL_law_674 rfl (lv_at hl 3 rfl) ?_
  refine lv_iconst (v := 2) hx hb dL_law_675 (by decide) ?_
  refine lv_iadd hx hb dL_law_676 ?_
  refine va_sld hx hb hX hbl hbA hS h2 dL_law_677 ?_
  refine clx_VI ⟨hx, hb, hml, hown, htb⟩ (kX9_booking l D cS g cI bm mm _ _ _ e2) (cwV 2 htb (gX9_booking bw5_30) rfl rfl rfl hdX9_booking ⟨Nat.le_of_ble_eq_true rfl, Nat.le_of_ble_eq_true rfl⟩) hK (hDa _ _) hG hA hP hS sg_R hl.1 rfl 0 (pMd_0 cI bm mm) rfl rfl (Nat.le_of_ble_eq_true rfl) hf dL_law_678 (fun H locs hP hS => ?_)
  refine lv_icmp_eq (tgt := 920) hx hb dL_law_681 (by decide) (fun _ => ?_) (fun c1 => absurd rfl c1)
  exact kk M mm H locs (hI.mono (by omega) (by omega)) hP hS
set_option maxHeartbeats 4000000 in
set_option maxRecDepth 100000 in
/-- case 18 -/
theorem lw_c18 (hx : p.tables.exec = Jvm.exec) (hb : c.code = cL_law) (hml : c.maxLocals = 4) (hown : s.vm.findClass RL = some m.cls) (htb : ∀ w ∈ BIG, w.before #[Value.ref b] s = true) (hX : va_X b N xs s s.heap) (hbl : b < s.heap.size) (hbA : ¬ A b) (hA : ∀ q : Nat, s.heap.size ≤ q → A q) (hK : va_K D vwCl (tI cI cS) s) (hG : GG g A s s.heap) (hDa : ∀ M mm, va_D A (wXX cI cS xx xd xo hh ha z zn q M ++ wMd cI bm mm)) (hf : cells ≤ room_1.cells ∧ slots ≤ room_1.slots) (h1 : vp_in (x3 + 1) N) (h2 : vp_in (x3 + 2) N) (hKb : K + 145 ≤ 80000) (hI : Inv K M mm) (hP : va_P D vwCl (wXX cI cS xx xd xo hh ha z zn q M ++ wMd cI bm mm) H) (hS : va_S A s.heap H locs) (hl : lv_has ls 4 [(0, .ref b), (1, .ref xx), (2, .ref (bm 0)), (3, .int x3)]) (kk : ∀ (M' : Xm) (mm' : Md) (H : Heap) (locs : List Loc), Inv (K + 145) M' mm' → va_P D vwCl (wXX cI cS xx xd xo hh ha z zn q M' ++ wMd cI bm mm') H → va_S A s.heap H locs → W p l e room_1 s m #[Value.ref b] below meth c H locs cells slots Q (F0 m 920 ls [])) : W p l e room_1 s m #[Value.ref b] below meth c H locs cells slots Q (F0 m 686 ls []) := by
  obtain ⟨r, e1, e2⟩ := simVoucher hI (xs (x3 + 1).toNatClampNeg) (xs (x3 + 2).toNatClampNeg)
  refine lv_aload_n hx hb dL_law_686 rfl (lv_at hl 1 rfl) ?_
  refine lv_aload_n hx hb dL_law_687 rfl (lv_at hl 0 rfl) ?_
  refine lv_iload_n hx hb dL_law_688 rfl (lv_at hl 3 rfl) ?_
  refine lv_iconst (v := 1) hx hb dL_law_689 (by decide) ?_
  refine lv_iadd hx hb dL_law_690 ?_
  refine va_sld hx hb hX hbl hbA hS h1 dL_law_691 ?_
  refine lv_aload_n hx hb dL_law_692 rfl (lv_at hl 0 rfl) ?_
  refine lv_iload_n hx hb dL_law_693 rfl (lv_at hl 3 rfl) ?_
  refine lv_iconst (v := 2) hx hb dL_law_694 (by decide) ?_
  refine lv_iadd hx hb dL_law_695 ?_
  refine va_sld hx hb hX hbl hbA hS h2 dL_law_696 ?_
  refine clx_VI ⟨hx, hb, hml, hown, htb⟩ (kX8_voucher l D cS g cI xx xd xo hh ha z zn q M _ _ _ _ e1) (cwV 2 htb (gX8_voucher bw3_169) rfl rfl rfl hdX8_voucher ⟨Nat.le_of_ble_eq_true rfl, Nat.le_of_ble_eq_true rfl⟩) hK (hDa _ _) hG hA hP hS sg_L hl.1 rfl 0 (pXX_0 cI cS xx xd xo hh ha z zn q M) rfl rfl (Nat.le_of_ble_eq_true rfl) hf dL_law_697 (fun H locs hP hS => ?_)
  refine lv_aload_n hx hb dL_law_700 rfl (lv_at hl 2 rfl) ?_
  refine lv_aload_n hx hb dL_law_701 rfl (lv_at hl 0 rfl) ?_
  refine lv_iload_n hx hb dL_law_702 rfl (lv_at hl 3 rfl) ?_
  refine lv_iconst (v := 1) hx hb dL_law_703 (by decide) ?_
  refine lv_iadd hx hb dL_law_704 ?_
  refine va_sld hx hb hX hbl hbA hS h1 dL_law_705 ?_
  refine lv_aload_n hx hb dL_law_706 rfl (lv_at hl 0 rfl) ?_
  refine lv_iload_n hx hb dL_law_707 rfl (lv_at hl 3 rfl) ?_
  refine lv_iconst (v := 2) hx hb dL_law_708 (by decide) ?_
  refine lv_iadd hx hb dL_law_709 ?_
  refine va_sld hx hb hX hbl hbA hS h2 dL_law_710 ?_
  refine clx_VI ⟨hx, hb, hml, hown, htb⟩ (kX9_voucher l D cS g cI bm mm _ _ _ e2) (cwV 2 htb (gX9_voucher bw5_38) rfl rfl rfl hdX9_voucher ⟨Nat.le_of_ble_eq_true rfl, Nat.le_of_ble_eq_true rfl⟩) hK (hDa _ _) hG hA hP hS sg_R hl.1 rfl 0 (pMd_0 cI bm mm) rfl rfl (Nat.le_of_ble_eq_true rfl) hf dL_law_711 (fun H locs hP hS => ?_)
  refine lv_icmp_eq (tgt := 920) hx hb dL_law_714 (by decide) (fun _ => ?_) (fun c1 => absurd rfl c1)
  exact kk M mm H locs (hI.mono (by omega) (by omega)) hP hS
set_option maxHeartbeats 4000000 in
set_option maxRecDepth 100000 in
/-- case 19 -/
theorem lw_c19 (hx : p.tables.exec = Jvm.exec) (hb : c.code = cL_law) (hml : c.maxLocals = 4) (hown : s.vm.findClass RL = some m.cls) (htb : ∀ w ∈ BIG, w.before #[Value.ref b] s = true) (hX : va_X b N xs s s.heap) (hbl : b < s.heap.size) (hbA : ¬ A b) (hA : ∀ q : Nat, s.heap.size ≤ q → A q) (hK : va_K D vwCl (tI cI cS) s) (hG : GG g A s s.heap) (hDa : ∀ M mm, va_D A (wXX cI cS xx xd xo hh ha z zn q M ++ wMd cI bm mm)) (hf : cells ≤ room_1.cells ∧ slots ≤ room_1.slots) (h1 : vp_in (x3 + 1) N) (hKb : K + 145 ≤ 80000) (hI : Inv K M mm) (hP : va_P D vwCl (wXX cI cS xx xd xo hh ha z zn q M ++ wMd cI bm mm) H) (hS : va_S A s.heap H locs) (hl : lv_has ls 4 [(0, .ref b), (1, .ref xx), (2, .ref (bm 0)), (3, .int x3)]) (kk : ∀ (M' : Xm) (mm' : Md) (H : Heap) (locs : List Loc), Inv (K + 145) M' mm' → va_P D vwCl (wXX cI cS xx xd xo hh ha z zn q M' ++ wMd cI bm mm') H → va_S A s.heap H locs → W p l e room_1 s m #[Value.ref b] below meth c H locs cells slots Q (F0 m 920 ls [])) : W p l e room_1 s m #[Value.ref b] below meth c H locs cells slots Q (F0 m 719 ls []) := by
  obtain ⟨r, e1, e2⟩ := simMoney hI (xs (x3 + 1).toNatClampNeg)
  refine lv_aload_n hx hb dL_law_719 rfl (lv_at hl 1 rfl) ?_
  refine lv_aload_n hx hb dL_law_720 rfl (lv_at hl 0 rfl) ?_
  refine lv_iload_n hx hb dL_law_721 rfl (lv_at hl 3 rfl) ?_
  refine lv_iconst (v := 1) hx hb dL_law_722 (by decide) ?_
  refine lv_iadd hx hb dL_law_723 ?_
  refine va_sld hx hb hX hbl hbA hS h1 dL_law_724 ?_
  refine clx_VI ⟨hx, hb, hml, hown, htb⟩ (kX8_money l D cS g cI xx xd xo hh ha z zn q M _ _ _ e1) (cwV 1 htb (gX8_money bw3_181) rfl rfl rfl hdX8_money ⟨Nat.le_of_ble_eq_true rfl, Nat.le_of_ble_eq_true rfl⟩) hK (hDa _ _) hG hA hP hS sg_L hl.1 rfl 0 (pXX_0 cI cS xx xd xo hh ha z zn q M) rfl rfl (Nat.le_of_ble_eq_true rfl) hf dL_law_725 (fun H locs hP hS => ?_)
  refine lv_aload_n hx hb dL_law_728 rfl (lv_at hl 2 rfl) ?_
  refine lv_aload_n hx hb dL_law_729 rfl (lv_at hl 0 rfl) ?_
  refine lv_iload_n hx hb dL_law_730 rfl (lv_at hl 3 rfl) ?_
  refine lv_iconst (v := 1) hx hb dL_law_731 (by decide) ?_
  refine lv_iadd hx hb dL_law_732 ?_
  refine va_sld hx hb hX hbl hbA hS h1 dL_law_733 ?_
  refine clx_VI ⟨hx, hb, hml, hown, htb⟩ (kX9_money l D cS g cI bm mm _ _ e2) (cwV 1 htb (gX9_money bw5_46) rfl rfl rfl hdX9_money ⟨Nat.le_of_ble_eq_true rfl, Nat.le_of_ble_eq_true rfl⟩) hK (hDa _ _) hG hA hP hS sg_R hl.1 rfl 0 (pMd_0 cI bm mm) rfl rfl (Nat.le_of_ble_eq_true rfl) hf dL_law_734 (fun H locs hP hS => ?_)
  refine lv_icmp_eq (tgt := 920) hx hb dL_law_737 (by decide) (fun _ => ?_) (fun c1 => absurd rfl c1)
  exact kk M mm H locs (hI.mono (by omega) (by omega)) hP hS
set_option maxHeartbeats 4000000 in
set_option maxRecDepth 100000 in
/-- case 20 -/
theorem lw_c20 (hx : p.tables.exec = Jvm.exec) (hb : c.code = cL_law) (hml : c.maxLocals = 4) (hown : s.vm.findClass RL = some m.cls) (htb : ∀ w ∈ BIG, w.before #[Value.ref b] s = true) (hX : va_X b N xs s s.heap) (hbl : b < s.heap.size) (hbA : ¬ A b) (hA : ∀ q : Nat, s.heap.size ≤ q → A q) (hK : va_K D vwCl (tI cI cS) s) (hG : GG g A s s.heap) (hDa : ∀ M mm, va_D A (wXX cI cS xx xd xo hh ha z zn q M ++ wMd cI bm mm)) (hf : cells ≤ room_1.cells ∧ slots ≤ room_1.slots) (h1 : vp_in (x3 + 1) N) (h2 : vp_in (x3 + 2) N) (hKb : K + 145 ≤ 80000) (hI : Inv K M mm) (hP : va_P D vwCl (wXX cI cS xx xd xo hh ha z zn q M ++ wMd cI bm mm) H) (hS : va_S A s.heap H locs) (hl : lv_has ls 4 [(0, .ref b), (1, .ref xx), (2, .ref (bm 0)), (3, .int x3)]) (kk : ∀ (M' : Xm) (mm' : Md) (H : Heap) (locs : List Loc), Inv (K + 145) M' mm' → va_P D vwCl (wXX cI cS xx xd xo hh ha z zn q M' ++ wMd cI bm mm') H → va_S A s.heap H locs → W p l e room_1 s m #[Value.ref b] below meth c H locs cells slots Q (F0 m 920 ls [])) : W p l e room_1 s m #[Value.ref b] below meth c H locs cells slots Q (F0 m 742 ls []) := by
  obtain ⟨r, e1, e2⟩ := simForecast hI (xs (x3 + 1).toNatClampNeg) (xs (x3 + 2).toNatClampNeg)
  refine lv_aload_n hx hb dL_law_742 rfl (lv_at hl 1 rfl) ?_
  refine lv_aload_n hx hb dL_law_743 rfl (lv_at hl 0 rfl) ?_
  refine lv_iload_n hx hb dL_law_744 rfl (lv_at hl 3 rfl) ?_
  refine lv_iconst (v := 1) hx hb dL_law_745 (by decide) ?_
  refine lv_iadd hx hb dL_law_746 ?_
  refine va_sld hx hb hX hbl hbA hS h1 dL_law_747 ?_
  refine lv_aload_n hx hb dL_law_748 rfl (lv_at hl 0 rfl) ?_
  refine lv_iload_n hx hb dL_law_749 rfl (lv_at hl 3 rfl) ?_
  refine lv_iconst (v := 2) hx hb dL_law_750 (by decide) ?_
  refine lv_iadd hx hb dL_law_751 ?_
  refine va_sld hx hb hX hbl hbA hS h2 dL_law_752 ?_
  refine clx_VI ⟨hx, hb, hml, hown, htb⟩ (kX8_forecast l D cS g cI xx xd xo hh ha z zn q M _ _ _ _ e1) (cwV 2 htb (gX8_forecast bw3_189) rfl rfl rfl hdX8_forecast ⟨Nat.le_of_ble_eq_true rfl, Nat.le_of_ble_eq_true rfl⟩) hK (hDa _ _) hG hA hP hS sg_L hl.1 rfl 0 (pXX_0 cI cS xx xd xo hh ha z zn q M) rfl rfl (Nat.le_of_ble_eq_true rfl) hf dL_law_753 (fun H locs hP hS => ?_)
  refine lv_aload_n hx hb dL_law_756 rfl (lv_at hl 2 rfl) ?_
  refine lv_aload_n hx hb dL_law_757 rfl (lv_at hl 0 rfl) ?_
  refine lv_iload_n hx hb dL_law_758 rfl (lv_at hl 3 rfl) ?_
  refine lv_iconst (v := 1) hx hb dL_law_759 (by decide) ?_
  refine lv_iadd hx hb dL_law_760 ?_
  refine va_sld hx hb hX hbl hbA hS h1 dL_law_761 ?_
  refine lv_aload_n hx hb dL_law_762 rfl (lv_at hl 0 rfl) ?_
  refine lv_iload_n hx hb dL_law_763 rfl (lv_at hl 3 rfl) ?_
  refine lv_iconst (v := 2) hx hb dL_law_764 (by decide) ?_
  refine lv_iadd hx hb dL_law_765 ?_
  refine va_sld hx hb hX hbl hbA hS h2 dL_law_766 ?_
  refine clx_VI ⟨hx, hb, hml, hown, htb⟩ (kX9_forecast l D cS g cI bm mm _ _ _ e2) (cwV 2 htb (gX9_forecast bw5_54) rfl rfl rfl hdX9_forecast ⟨Nat.le_of_ble_eq_true rfl, Nat.le_of_ble_eq_true rfl⟩) hK (hDa _ _) hG hA hP hS sg_R hl.1 rfl 0 (pMd_0 cI bm mm) rfl rfl (Nat.le_of_ble_eq_true rfl) hf dL_law_767 (fun H locs hP hS => ?_)
  refine lv_icmp_eq (tgt := 920) hx hb dL_law_770 (by decide) (fun _ => ?_) (fun c1 => absurd rfl c1)
  exact kk M mm H locs (hI.mono (by omega) (by omega)) hP hS
set_option maxHeartbeats 4000000 in
set_option maxRecDepth 100000 in
/-- case 21 -/
theorem lw_c21 (hx : p.tables.exec = Jvm.exec) (hb : c.code = cL_law) (hml : c.maxLocals = 4) (hown : s.vm.findClass RL = some m.cls) (htb : ∀ w ∈ BIG, w.before #[Value.ref b] s = true) (hX : va_X b N xs s s.heap) (hbl : b < s.heap.size) (hbA : ¬ A b) (hA : ∀ q : Nat, s.heap.size ≤ q → A q) (hK : va_K D vwCl (tI cI cS) s) (hG : GG g A s s.heap) (hDa : ∀ M mm, va_D A (wXX cI cS xx xd xo hh ha z zn q M ++ wMd cI bm mm)) (hf : cells ≤ room_1.cells ∧ slots ≤ room_1.slots) (h1 : vp_in (x3 + 1) N) (h2 : vp_in (x3 + 2) N) (hKb : K + 145 ≤ 80000) (hI : Inv K M mm) (hP : va_P D vwCl (wXX cI cS xx xd xo hh ha z zn q M ++ wMd cI bm mm) H) (hS : va_S A s.heap H locs) (hl : lv_has ls 4 [(0, .ref b), (1, .ref xx), (2, .ref (bm 0)), (3, .int x3)]) (kk : ∀ (M' : Xm) (mm' : Md) (H : Heap) (locs : List Loc), Inv (K + 145) M' mm' → va_P D vwCl (wXX cI cS xx xd xo hh ha z zn q M' ++ wMd cI bm mm') H → va_S A s.heap H locs → W p l e room_1 s m #[Value.ref b] below meth c H locs cells slots Q (F0 m 920 ls [])) : W p l e room_1 s m #[Value.ref b] below meth c H locs cells slots Q (F0 m 775 ls []) := by
  obtain ⟨r, e1, e2⟩ := simFree hI (xs (x3 + 1).toNatClampNeg) (xs (x3 + 2).toNatClampNeg)
  refine lv_aload_n hx hb dL_law_775 rfl (lv_at hl 1 rfl) ?_
  refine lv_aload_n hx hb dL_law_776 rfl (lv_at hl 0 rfl) ?_
  refine lv_iload_n hx hb dL_law_777 rfl (lv_at hl 3 rfl) ?_
  refine lv_iconst (v := 1) hx hb dL_law_778 (by decide) ?_
  refine lv_iadd hx hb dL_law_779 ?_
  refine va_sld hx hb hX hbl hbA hS h1 dL_law_780 ?_
  refine lv_aload_n hx hb dL_law_781 rfl (lv_at hl 0 rfl) ?_
  refine lv_iload_n hx hb dL_law_782 rfl (lv_at hl 3 rfl) ?_
  refine lv_iconst (v := 2) hx hb dL_law_783 (by decide) ?_
  refine lv_iadd hx hb dL_law_784 ?_
  refine va_sld hx hb hX hbl hbA hS h2 dL_law_785 ?_
  refine clx_VI ⟨hx, hb, hml, hown, htb⟩ (kX8_freeTime l D cS g cI xx xd xo hh ha z zn q M _ _ _ _ e1) (cwV 2 htb (gX8_freeTime bw3_203) rfl rfl rfl hdX8_freeTime ⟨Nat.le_of_ble_eq_true rfl, Nat.le_of_ble_eq_true rfl⟩) hK (hDa _ _) hG hA hP hS sg_L hl.1 rfl 0 (pXX_0 cI cS xx xd xo hh ha z zn q M) rfl rfl (Nat.le_of_ble_eq_true rfl) hf dL_law_786 (fun H locs hP hS => ?_)
  refine lv_aload_n hx hb dL_law_789 rfl (lv_at hl 2 rfl) ?_
  refine lv_aload_n hx hb dL_law_790 rfl (lv_at hl 0 rfl) ?_
  refine lv_iload_n hx hb dL_law_791 rfl (lv_at hl 3 rfl) ?_
  refine lv_iconst (v := 1) hx hb dL_law_792 (by decide) ?_
  refine lv_iadd hx hb dL_law_793 ?_
  refine va_sld hx hb hX hbl hbA hS h1 dL_law_794 ?_
  refine lv_aload_n hx hb dL_law_795 rfl (lv_at hl 0 rfl) ?_
  refine lv_iload_n hx hb dL_law_796 rfl (lv_at hl 3 rfl) ?_
  refine lv_iconst (v := 2) hx hb dL_law_797 (by decide) ?_
  refine lv_iadd hx hb dL_law_798 ?_
  refine va_sld hx hb hX hbl hbA hS h2 dL_law_799 ?_
  refine clx_VI ⟨hx, hb, hml, hown, htb⟩ (kX9_freeTime l D cS g cI bm mm _ _ _ e2) (cwV 2 htb (gX9_freeTime bw5_58) rfl rfl rfl hdX9_freeTime ⟨Nat.le_of_ble_eq_true rfl, Nat.le_of_ble_eq_true rfl⟩) hK (hDa _ _) hG hA hP hS sg_R hl.1 rfl 0 (pMd_0 cI bm mm) rfl rfl (Nat.le_of_ble_eq_true rfl) hf dL_law_800 (fun H locs hP hS => ?_)
  refine lv_icmp_eq (tgt := 920) hx hb dL_law_803 (by decide) (fun _ => ?_) (fun c1 => absurd rfl c1)
  exact kk M mm H locs (hI.mono (by omega) (by omega)) hP hS
set_option maxHeartbeats 4000000 in
set_option maxRecDepth 100000 in
/-- case 22 -/
theorem lw_c22 (hx : p.tables.exec = Jvm.exec) (hb : c.code = cL_law) (hml : c.maxLocals = 4) (hown : s.vm.findClass RL = some m.cls) (htb : ∀ w ∈ BIG, w.before #[Value.ref b] s = true) (hX : va_X b N xs s s.heap) (hbl : b < s.heap.size) (hbA : ¬ A b) (hA : ∀ q : Nat, s.heap.size ≤ q → A q) (hK : va_K D vwCl (tI cI cS) s) (hG : GG g A s s.heap) (hDa : ∀ M mm, va_D A (wXX cI cS xx xd xo hh ha z zn q M ++ wMd cI bm mm)) (hf : cells ≤ room_1.cells ∧ slots ≤ room_1.slots) (h1 : vp_in (x3 + 1) N) (h2 : vp_in (x3 + 2) N) (hKb : K + 145 ≤ 80000) (hI : Inv K M mm) (hP : va_P D vwCl (wXX cI cS xx xd xo hh ha z zn q M ++ wMd cI bm mm) H) (hS : va_S A s.heap H locs) (hl : lv_has ls 4 [(0, .ref b), (1, .ref xx), (2, .ref (bm 0)), (3, .int x3)]) (kk : ∀ (M' : Xm) (mm' : Md) (H : Heap) (locs : List Loc), Inv (K + 145) M' mm' → va_P D vwCl (wXX cI cS xx xd xo hh ha z zn q M' ++ wMd cI bm mm') H → va_S A s.heap H locs → W p l e room_1 s m #[Value.ref b] below meth c H locs cells slots Q (F0 m 920 ls [])) : W p l e room_1 s m #[Value.ref b] below meth c H locs cells slots Q (F0 m 808 ls []) := by
  obtain ⟨r, e1, e2⟩ := simMergeable hI (xs (x3 + 1).toNatClampNeg) (xs (x3 + 2).toNatClampNeg)
  refine lv_aload_n hx hb dL_law_808 rfl (lv_at hl 1 rfl) ?_
  refine lv_aload_n hx hb dL_law_809 rfl (lv_at hl 0 rfl) ?_
  refine lv_iload_n hx hb dL_law_810 rfl (lv_at hl 3 rfl) ?_
  refine lv_iconst (v := 1) hx hb dL_law_811 (by decide) ?_
  refine lv_iadd hx hb dL_law_812 ?_
  refine va_sld hx hb hX hbl hbA hS h1 dL_law_813 ?_
  refine lv_aload_n hx hb dL_law_814 rfl (lv_at hl 0 rfl) ?_
  refine lv_iload_n hx hb dL_law_815 rfl (lv_at hl 3 rfl) ?_
  refine lv_iconst (v := 2) hx hb dL_law_816 (by decide) ?_
  refine lv_iadd hx hb dL_law_817 ?_
  refine va_sld hx hb hX hbl hbA hS h2 dL_law_818 ?_
  refine clx_VI ⟨hx, hb, hml, hown, htb⟩ (kX8_mergeable l D cS g cI xx xd xo hh ha z zn q M _ _ _ _ e1) (cwV 2 htb (gX8_mergeable bw3_215) rfl rfl rfl hdX8_mergeable ⟨Nat.le_of_ble_eq_true rfl, Nat.le_of_ble_eq_true rfl⟩) hK (hDa _ _) hG hA hP hS sg_L hl.1 rfl 0 (pXX_0 cI cS xx xd xo hh ha z zn q M) rfl rfl (Nat.le_of_ble_eq_true rfl) hf dL_law_819 (fun H locs hP hS => ?_)
  refine lv_aload_n hx hb dL_law_822 rfl (lv_at hl 2 rfl) ?_
  refine lv_aload_n hx hb dL_law_823 rfl (lv_at hl 0 rfl) ?_
  refine lv_iload_n hx hb dL_law_824 rfl (lv_at hl 3 rfl) ?_
  refine lv_iconst (v := 1) hx hb dL_law_825 (by decide) ?_
  refine lv_iadd hx hb dL_law_826 ?_
  refine va_sld hx hb hX hbl hbA hS h1 dL_law_827 ?_
  refine lv_aload_n hx hb dL_law_828 rfl (lv_at hl 0 rfl) ?_
  refine lv_iload_n hx hb dL_law_829 rfl (lv_at hl 3 rfl) ?_
  refine lv_iconst (v := 2) hx hb dL_law_830 (by decide) ?_
  refine lv_iadd hx hb dL_law_831 ?_
  refine va_sld hx hb hX hbl hbA hS h2 dL_law_832 ?_
  refine clx_VI ⟨hx, hb, hml, hown, htb⟩ (kX9_mergeable l D cS g cI bm mm _ _ _ e2) (cwV 2 htb (gX9_mergeable bw5_62) rfl rfl rfl hdX9_mergeable ⟨Nat.le_of_ble_eq_true rfl, Nat.le_of_ble_eq_true rfl⟩) hK (hDa _ _) hG hA hP hS sg_R hl.1 rfl 0 (pMd_0 cI bm mm) rfl rfl (Nat.le_of_ble_eq_true rfl) hf dL_law_833 (fun H locs hP hS => ?_)
  refine lv_icmp_eq (tgt := 920) hx hb dL_law_836 (by decide) (fun _ => ?_) (fun c1 => absurd rfl c1)
  exact kk M mm H locs (hI.mono (by omega) (by omega)) hP hS
set_option maxHeartbeats 4000000 in
set_option maxRecDepth 100000 in
/-- case 23 -/
theorem lw_c23 (hx : p.tables.exec = Jvm.exec) (hb : c.code = cL_law) (hml : c.maxLocals = 4) (hown : s.vm.findClass RL = some m.cls) (htb : ∀ w ∈ BIG, w.before #[Value.ref b] s = true) (hX : va_X b N xs s s.heap) (hbl : b < s.heap.size) (hbA : ¬ A b) (hA : ∀ q : Nat, s.heap.size ≤ q → A q) (hK : va_K D vwCl (tI cI cS) s) (hG : GG g A s s.heap) (hDa : ∀ M mm, va_D A (wXX cI cS xx xd xo hh ha z zn q M ++ wMd cI bm mm)) (hf : cells ≤ room_1.cells ∧ slots ≤ room_1.slots) (h1 : vp_in (x3 + 1) N) (hKb : K + 145 ≤ 80000) (hI : Inv K M mm) (hP : va_P D vwCl (wXX cI cS xx xd xo hh ha z zn q M ++ wMd cI bm mm) H) (hS : va_S A s.heap H locs) (hl : lv_has ls 4 [(0, .ref b), (1, .ref xx), (2, .ref (bm 0)), (3, .int x3)]) (kk : ∀ (M' : Xm) (mm' : Md) (H : Heap) (locs : List Loc), Inv (K + 145) M' mm' → va_P D vwCl (wXX cI cS xx xd xo hh ha z zn q M' ++ wMd cI bm mm') H → va_S A s.heap H locs → W p l e room_1 s m #[Value.ref b] below meth c H locs cells slots Q (F0 m 920 ls [])) : W p l e room_1 s m #[Value.ref b] below meth c H locs cells slots Q (F0 m 841 ls []) := by
  obtain ⟨r, e1, e2⟩ := simSlack hI (xs (x3 + 1).toNatClampNeg)
  refine lv_aload_n hx hb dL_law_841 rfl (lv_at hl 1 rfl) ?_
  refine lv_aload_n hx hb dL_law_842 rfl (lv_at hl 0 rfl) ?_
  refine lv_iload_n hx hb dL_law_843 rfl (lv_at hl 3 rfl) ?_
  refine lv_iconst (v := 1) hx hb dL_law_844 (by decide) ?_
  refine lv_iadd hx hb dL_law_845 ?_
  refine va_sld hx hb hX hbl hbA hS h1 dL_law_846 ?_
  refine clx_VI ⟨hx, hb, hml, hown, htb⟩ (kX8_slack l D cS g cI xx xd xo hh ha z zn q M _ _ _ e1) (cwV 1 htb (gX8_slack bw3_228) rfl rfl rfl hdX8_slack ⟨Nat.le_of_ble_eq_true rfl, Nat.le_of_ble_eq_true rfl⟩) hK (hDa _ _) hG hA hP hS sg_L hl.1 rfl 0 (pXX_0 cI cS xx xd xo hh ha z zn q M) rfl rfl (Nat.le_of_ble_eq_true rfl) hf dL_law_847 (fun H locs hP hS => ?_)
  refine lv_aload_n hx hb dL_law_850 rfl (lv_at hl 2 rfl) ?_
  refine lv_aload_n hx hb dL_law_851 rfl (lv_at hl 0 rfl) ?_
  refine lv_iload_n hx hb dL_law_852 rfl (lv_at hl 3 rfl) ?_
  refine lv_iconst (v := 1) hx hb dL_law_853 (by decide) ?_
  refine lv_iadd hx hb dL_law_854 ?_
  refine va_sld hx hb hX hbl hbA hS h1 dL_law_855 ?_
  refine clx_VI ⟨hx, hb, hml, hown, htb⟩ (kX9_slack l D cS g cI bm mm _ _ e2) (cwV 1 htb (gX9_slack bw5_70) rfl rfl rfl hdX9_slack ⟨Nat.le_of_ble_eq_true rfl, Nat.le_of_ble_eq_true rfl⟩) hK (hDa _ _) hG hA hP hS sg_R hl.1 rfl 0 (pMd_0 cI bm mm) rfl rfl (Nat.le_of_ble_eq_true rfl) hf dL_law_856 (fun H locs hP hS => ?_)
  refine lv_icmp_eq (tgt := 920) hx hb dL_law_859 (by decide) (fun _ => ?_) (fun c1 => absurd rfl c1)
  exact kk M mm H locs (hI.mono (by omega) (by omega)) hP hS
set_option maxHeartbeats 4000000 in
set_option maxRecDepth 100000 in
/-- case 24 -/
theorem lw_c24 (hx : p.tables.exec = Jvm.exec) (hb : c.code = cL_law) (hml : c.maxLocals = 4) (hown : s.vm.findClass RL = some m.cls) (htb : ∀ w ∈ BIG, w.before #[Value.ref b] s = true) (hX : va_X b N xs s s.heap) (hbl : b < s.heap.size) (hbA : ¬ A b) (hA : ∀ q : Nat, s.heap.size ≤ q → A q) (hK : va_K D vwCl (tI cI cS) s) (hG : GG g A s s.heap) (hDa : ∀ M mm, va_D A (wXX cI cS xx xd xo hh ha z zn q M ++ wMd cI bm mm)) (hf : cells ≤ room_1.cells ∧ slots ≤ room_1.slots) (h1 : vp_in (x3 + 1) N) (h2 : vp_in (x3 + 2) N) (hKb : K + 145 ≤ 80000) (hI : Inv K M mm) (hP : va_P D vwCl (wXX cI cS xx xd xo hh ha z zn q M ++ wMd cI bm mm) H) (hS : va_S A s.heap H locs) (hl : lv_has ls 4 [(0, .ref b), (1, .ref xx), (2, .ref (bm 0)), (3, .int x3)]) (kk : ∀ (M' : Xm) (mm' : Md) (H : Heap) (locs : List Loc), Inv (K + 145) M' mm' → va_P D vwCl (wXX cI cS xx xd xo hh ha z zn q M' ++ wMd cI bm mm') H → va_S A s.heap H locs → W p l e room_1 s m #[Value.ref b] below meth c H locs cells slots Q (F0 m 920 ls [])) : W p l e room_1 s m #[Value.ref b] below meth c H locs cells slots Q (F0 m 864 ls []) := by
  obtain ⟨r, e1, e2⟩ := simHints hI (xs (x3 + 1).toNatClampNeg) (xs (x3 + 2).toNatClampNeg)
  refine lv_aload_n hx hb dL_law_864 rfl (lv_at hl 1 rfl) ?_
  refine lv_aload_n hx hb dL_law_865 rfl (lv_at hl 0 rfl) ?_
  refine lv_iload_n hx hb dL_law_866 rfl (lv_at hl 3 rfl) ?_
  refine lv_iconst (v := 1) hx hb dL_law_867 (by decide) ?_
  refine lv_iadd hx hb dL_law_868 ?_
  refine va_sld hx hb hX hbl hbA hS h1 dL_law_869 ?_
  refine lv_aload_n hx hb dL_law_870 rfl (lv_at hl 0 rfl) ?_
  refine lv_iload_n hx hb dL_law_871 rfl (lv_at hl 3 rfl) ?_
  refine lv_iconst (v := 2) hx hb dL_law_872 (by decide) ?_
  refine lv_iadd hx hb dL_law_873 ?_
  refine va_sld hx hb hX hbl hbA hS h2 dL_law_874 ?_
  refine clx_VI ⟨hx, hb, hml, hown, htb⟩ (kX8_hintsFor l D cS g cI xx xd xo hh ha z zn q M _ _ _ _ e1) (cwV 2 htb (gX8_hintsFor bw3_239) rfl rfl rfl hdX8_hintsFor ⟨Nat.le_of_ble_eq_true rfl, Nat.le_of_ble_eq_true rfl⟩) hK (hDa _ _) hG hA hP hS sg_L hl.1 rfl 0 (pXX_0 cI cS xx xd xo hh ha z zn q M) rfl rfl (Nat.le_of_ble_eq_true rfl) hf dL_law_875 (fun H locs hP hS => ?_)
  refine lv_aload_n hx hb dL_law_878 rfl (lv_at hl 2 rfl) ?_
  refine lv_aload_n hx hb dL_law_879 rfl (lv_at hl 0 rfl) ?_
  refine lv_iload_n hx hb dL_law_880 rfl (lv_at hl 3 rfl) ?_
  refine lv_iconst (v := 1) hx hb dL_law_881 (by decide) ?_
  refine lv_iadd hx hb dL_law_882 ?_
  refine va_sld hx hb hX hbl hbA hS h1 dL_law_883 ?_
  refine lv_aload_n hx hb dL_law_884 rfl (lv_at hl 0 rfl) ?_
  refine lv_iload_n hx hb dL_law_885 rfl (lv_at hl 3 rfl) ?_
  refine lv_iconst (v := 2) hx hb dL_law_886 (by decide) ?_
  refine lv_iadd hx hb dL_law_887 ?_
  refine va_sld hx hb hX hbl hbA hS h2 dL_law_888 ?_
  refine clx_VI ⟨hx, hb, hml, hown, htb⟩ (kX9_hintsFor l D cS g cI bm mm _ _ _ e2) (cwV 2 htb (gX9_hintsFor bw5_78) rfl rfl rfl hdX9_hintsFor ⟨Nat.le_of_ble_eq_true rfl, Nat.le_of_ble_eq_true rfl⟩) hK (hDa _ _) hG hA hP hS sg_R hl.1 rfl 0 (pMd_0 cI bm mm) rfl rfl (Nat.le_of_ble_eq_true rfl) hf dL_law_889 (fun H locs hP hS => ?_)
  refine lv_icmp_eq (tgt := 920) hx hb dL_law_892 (by decide) (fun _ => ?_) (fun c1 => absurd rfl c1)
  exact kk M mm H locs (hI.mono (by omega) (by omega)) hP hS
set_option maxHeartbeats 4000000 in
set_option maxRecDepth 100000 in
/-- case 25 -/
theorem lw_c25 (hx : p.tables.exec = Jvm.exec) (hb : c.code = cL_law) (hml : c.maxLocals = 4) (hown : s.vm.findClass RL = some m.cls) (htb : ∀ w ∈ BIG, w.before #[Value.ref b] s = true) (hX : va_X b N xs s s.heap) (hbl : b < s.heap.size) (hbA : ¬ A b) (hA : ∀ q : Nat, s.heap.size ≤ q → A q) (hK : va_K D vwCl (tI cI cS) s) (hG : GG g A s s.heap) (hDa : ∀ M mm, va_D A (wXX cI cS xx xd xo hh ha z zn q M ++ wMd cI bm mm)) (hf : cells ≤ room_1.cells ∧ slots ≤ room_1.slots) (h1 : vp_in (x3 + 1) N) (hKb : K + 145 ≤ 80000) (hI : Inv K M mm) (hP : va_P D vwCl (wXX cI cS xx xd xo hh ha z zn q M ++ wMd cI bm mm) H) (hS : va_S A s.heap H locs) (hl : lv_has ls 4 [(0, .ref b), (1, .ref xx), (2, .ref (bm 0)), (3, .int x3)]) (kk : ∀ (M' : Xm) (mm' : Md) (H : Heap) (locs : List Loc), Inv (K + 145) M' mm' → va_P D vwCl (wXX cI cS xx xd xo hh ha z zn q M' ++ wMd cI bm mm') H → va_S A s.heap H locs → W p l e room_1 s m #[Value.ref b] below meth c H locs cells slots Q (F0 m 920 ls [])) : W p l e room_1 s m #[Value.ref b] below meth c H locs cells slots Q (F0 m 897 ls []) := by
  obtain ⟨r, e1, e2⟩ := simBusy hI (xs (x3 + 1).toNatClampNeg)
  refine lv_aload_n hx hb dL_law_897 rfl (lv_at hl 1 rfl) ?_
  refine lv_aload_n hx hb dL_law_898 rfl (lv_at hl 0 rfl) ?_
  refine lv_iload_n hx hb dL_law_899 rfl (lv_at hl 3 rfl) ?_
  refine lv_iconst (v := 1) hx hb dL_law_900 (by decide) ?_
  refine lv_iadd hx hb dL_law_901 ?_
  refine va_sld hx hb hX hbl hbA hS h1 dL_law_902 ?_
  refine clx_VI ⟨hx, hb, hml, hown, htb⟩ (kX8_busiest l D cS g cI xx xd xo hh ha z zn q M _ _ _ e1) (cwV 1 htb (gX8_busiest bw4_7) rfl rfl rfl hdX8_busiest ⟨Nat.le_of_ble_eq_true rfl, Nat.le_of_ble_eq_true rfl⟩) hK (hDa _ _) hG hA hP hS sg_L hl.1 rfl 0 (pXX_0 cI cS xx xd xo hh ha z zn q M) rfl rfl (Nat.le_of_ble_eq_true rfl) hf dL_law_903 (fun H locs hP hS => ?_)
  refine lv_aload_n hx hb dL_law_906 rfl (lv_at hl 2 rfl) ?_
  refine lv_aload_n hx hb dL_law_907 rfl (lv_at hl 0 rfl) ?_
  refine lv_iload_n hx hb dL_law_908 rfl (lv_at hl 3 rfl) ?_
  refine lv_iconst (v := 1) hx hb dL_law_909 (by decide) ?_
  refine lv_iadd hx hb dL_law_910 ?_
  refine va_sld hx hb hX hbl hbA hS h1 dL_law_911 ?_
  refine clx_VI ⟨hx, hb, hml, hown, htb⟩ (kX9_busiest l D cS g cI bm mm _ _ e2) (cwV 1 htb (gX9_busiest bw5_82) rfl rfl rfl hdX9_busiest ⟨Nat.le_of_ble_eq_true rfl, Nat.le_of_ble_eq_true rfl⟩) hK (hDa _ _) hG hA hP hS sg_R hl.1 rfl 0 (pMd_0 cI bm mm) rfl rfl (Nat.le_of_ble_eq_true rfl) hf dL_law_912 (fun H locs hP hS => ?_)
  refine lv_icmp_eq (tgt := 920) hx hb dL_law_915 (by decide) (fun _ => ?_) (fun c1 => absurd rfl c1)
  exact kk M mm H locs (hI.mono (by omega) (by omega)) hP hS
end LAW

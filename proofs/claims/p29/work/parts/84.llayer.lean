/-! The law's layer: its six rows of ints, beside the class, and contracts that make cells. -/
abbrev La : Type := (Nat → Int32) × (Nat → Int32) × (Nat → Int32) × (Nat → Int32) × (Nat → Int32) × (Nat → Int32)
abbrev XLm : Type := Xm × La
abbrev XSm : Type := XLm × (Nat → Int32) × (Nat → Int32)
def Mo {ρ : Type} (x y : Int32) (k : Int32 → Option ρ) : Option ρ := if y = 0 then none else k (x - x / y * y)
theorem mo_use {ρ : Type} {x y : Int32} {k : Int32 → Option ρ} {o : ρ} (h : Mo x y k = some o) : ¬ y = 0 ∧ ∀ z, z = x - x / y * y → k z = some o := by
  unfold Mo at h
  by_cases c : y = 0
  · rw [if_pos c] at h; cases h
  · rw [if_neg c] at h; exact ⟨c, fun z e => by rw [e]; exact h⟩
def wLA (cI : ClassId) (la : Nat → Nat) (L : La) : va_W := [(la 0, .inl (cI, 5, .inl L.1)), (la 1, .inl (cI, 5, .inl L.2.1)), (la 2, .inl (cI, 33, .inl L.2.2.1)), (la 3, .inl (cI, 63, .inl L.2.2.2.1)), (la 4, .inl (cI, 28, .inl L.2.2.2.2.1)), (la 5, .inl (cI, 8, .inl L.2.2.2.2.2))]
section PW
variable (cI cS : ClassId) (xx xd xo hh ha : Nat) (z : Nat → Nat → Nat) (zn q la : Nat → Nat) (sa sb : Nat)
theorem pLA_0 (L : La) : (wLA cI la L)[0]? = some (la 0, .inl (cI, 5, .inl L.1)) := rfl
theorem pLA_1 (L : La) : (wLA cI la L)[1]? = some (la 1, .inl (cI, 5, .inl L.2.1)) := rfl
theorem pLA_2 (L : La) : (wLA cI la L)[2]? = some (la 2, .inl (cI, 33, .inl L.2.2.1)) := rfl
theorem pLA_3 (L : La) : (wLA cI la L)[3]? = some (la 3, .inl (cI, 63, .inl L.2.2.2.1)) := rfl
theorem pLA_4 (L : La) : (wLA cI la L)[4]? = some (la 4, .inl (cI, 28, .inl L.2.2.2.2.1)) := rfl
theorem pLA_5 (L : La) : (wLA cI la L)[5]? = some (la 5, .inl (cI, 8, .inl L.2.2.2.2.2)) := rfl
def wXL (N : XLm) : va_W := wLA cI la N.2 ++ wXX cI cS xx xd xo hh ha z zn q N.1
theorem pXL_0 (N : XLm) : (wXL cI cS xx xd xo hh ha z zn q la N)[0]? = some (la 0, .inl (cI, 5, .inl N.2.1)) := rfl
theorem pXL_1 (N : XLm) : (wXL cI cS xx xd xo hh ha z zn q la N)[1]? = some (la 1, .inl (cI, 5, .inl N.2.2.1)) := rfl
theorem pXL_2 (N : XLm) : (wXL cI cS xx xd xo hh ha z zn q la N)[2]? = some (la 2, .inl (cI, 33, .inl N.2.2.2.1)) := rfl
theorem pXL_3 (N : XLm) : (wXL cI cS xx xd xo hh ha z zn q la N)[3]? = some (la 3, .inl (cI, 63, .inl N.2.2.2.2.1)) := rfl
theorem pXL_4 (N : XLm) : (wXL cI cS xx xd xo hh ha z zn q la N)[4]? = some (la 4, .inl (cI, 28, .inl N.2.2.2.2.2.1)) := rfl
theorem pXL_5 (N : XLm) : (wXL cI cS xx xd xo hh ha z zn q la N)[5]? = some (la 5, .inl (cI, 8, .inl N.2.2.2.2.2.2)) := rfl
theorem adr_XL (N N' : XLm) : (wXL cI cS xx xd xo hh ha z zn q la N).map Prod.fst = (wXL cI cS xx xd xo hh ha z zn q la N').map Prod.fst := by
  unfold wXL
  rw [List.map_append, List.map_append, adr_XX cI cS xx xd xo hh ha z zn q N.1 N'.1]
  rfl
theorem sg_XL_XX (N : XLm) (N' : Xm) : Sg (wXL cI cS xx xd xo hh ha z zn q la N) (wXX cI cS xx xd xo hh ha z zn q N.1) (wXX cI cS xx xd xo hh ha z zn q N') (wXL cI cS xx xd xo hh ha z zn q la (N', N.2)) := ⟨[wLA cI la N.2, wXX cI cS xx xd xo hh ha z zn q N.1], [wXX cI cS xx xd xo hh ha z zn q N.1], [wXX cI cS xx xd xo hh ha z zn q N'], [wLA cI la N.2, wXX cI cS xx xd xo hh ha z zn q N'], [1], [0], by simp only [wXL, List.flatten_cons, List.flatten_nil, List.append_nil], by simp, by simp, by simp only [wXL, List.flatten_cons, List.flatten_nil, List.append_nil], rfl, rfl, rfl, rfl, rfl⟩
theorem sg_XL_LA (N : XLm) (N' : La) : Sg (wXL cI cS xx xd xo hh ha z zn q la N) (wLA cI la N.2) (wLA cI la N') (wXL cI cS xx xd xo hh ha z zn q la (N.1, N')) := ⟨[wLA cI la N.2, wXX cI cS xx xd xo hh ha z zn q N.1], [wLA cI la N.2], [wLA cI la N'], [wLA cI la N', wXX cI cS xx xd xo hh ha z zn q N.1], [0], [1], by simp only [wXL, List.flatten_cons, List.flatten_nil, List.append_nil], by simp, by simp, by simp only [wXL, List.flatten_cons, List.flatten_nil, List.append_nil], rfl, rfl, rfl, rfl, rfl⟩
theorem sr_XL_LA (N : XLm) : Sg (wXL cI cS xx xd xo hh ha z zn q la N) (wLA cI la N.2) (wLA cI la N.2) (wXL cI cS xx xd xo hh ha z zn q la N) := sg_XL_LA cI cS xx xd xo hh ha z zn q la N N.2
def wXS (N : XSm) : va_W := (sa, .inl (cI, 4, .inl N.2.1)) :: (sb, .inl (cI, 7, .inl N.2.2)) :: wXL cI cS xx xd xo hh ha z zn q la N.1
theorem pXS_0 (N : XSm) : (wXS cI cS xx xd xo hh ha z zn q la sa sb N)[0]? = some (sa, .inl (cI, 4, .inl N.2.1)) := rfl
theorem pXS_1 (N : XSm) : (wXS cI cS xx xd xo hh ha z zn q la sa sb N)[1]? = some (sb, .inl (cI, 7, .inl N.2.2)) := rfl
theorem pXS_2 (N : XSm) : (wXS cI cS xx xd xo hh ha z zn q la sa sb N)[2]? = some (la 0, .inl (cI, 5, .inl N.1.2.1)) := rfl
theorem pXS_3 (N : XSm) : (wXS cI cS xx xd xo hh ha z zn q la sa sb N)[3]? = some (la 1, .inl (cI, 5, .inl N.1.2.2.1)) := rfl
theorem pXS_4 (N : XSm) : (wXS cI cS xx xd xo hh ha z zn q la sa sb N)[4]? = some (la 2, .inl (cI, 33, .inl N.1.2.2.2.1)) := rfl
theorem pXS_5 (N : XSm) : (wXS cI cS xx xd xo hh ha z zn q la sa sb N)[5]? = some (la 3, .inl (cI, 63, .inl N.1.2.2.2.2.1)) := rfl
theorem pXS_6 (N : XSm) : (wXS cI cS xx xd xo hh ha z zn q la sa sb N)[6]? = some (la 4, .inl (cI, 28, .inl N.1.2.2.2.2.2.1)) := rfl
theorem pXS_7 (N : XSm) : (wXS cI cS xx xd xo hh ha z zn q la sa sb N)[7]? = some (la 5, .inl (cI, 8, .inl N.1.2.2.2.2.2.2)) := rfl
theorem adr_XS (N N' : XSm) : (wXS cI cS xx xd xo hh ha z zn q la sa sb N).map Prod.fst = (wXS cI cS xx xd xo hh ha z zn q la sa sb N').map Prod.fst := by
  unfold wXS
  simp only [List.map_cons]
  rw [adr_XL cI cS xx xd xo hh ha z zn q la N.1 N'.1]
theorem sg_XS_XX (N : XSm) (N' : Xm) : Sg (wXS cI cS xx xd xo hh ha z zn q la sa sb N) (wXX cI cS xx xd xo hh ha z zn q N.1.1) (wXX cI cS xx xd xo hh ha z zn q N') (wXS cI cS xx xd xo hh ha z zn q la sa sb ((N', N.1.2), N.2)) := ⟨[[(sa, .inl (cI, 4, .inl N.2.1)), (sb, .inl (cI, 7, .inl N.2.2))], wLA cI la N.1.2, wXX cI cS xx xd xo hh ha z zn q N.1.1], [wXX cI cS xx xd xo hh ha z zn q N.1.1], [wXX cI cS xx xd xo hh ha z zn q N'], [[(sa, .inl (cI, 4, .inl N.2.1)), (sb, .inl (cI, 7, .inl N.2.2))], wLA cI la N.1.2, wXX cI cS xx xd xo hh ha z zn q N'], [2], [0, 1], by simp only [wXS, wXL, List.flatten_cons, List.flatten_nil, List.append_nil, List.cons_append, List.nil_append], by simp, by simp, by simp only [wXS, wXL, List.flatten_cons, List.flatten_nil, List.append_nil, List.cons_append, List.nil_append], rfl, rfl, rfl, rfl, rfl⟩
theorem sr_XS_LA (N : XSm) : Sg (wXS cI cS xx xd xo hh ha z zn q la sa sb N) (wLA cI la N.1.2) (wLA cI la N.1.2) (wXS cI cS xx xd xo hh ha z zn q la sa sb N) := ⟨[[(sa, .inl (cI, 4, .inl N.2.1)), (sb, .inl (cI, 7, .inl N.2.2))], wLA cI la N.1.2, wXX cI cS xx xd xo hh ha z zn q N.1.1], [wLA cI la N.1.2], [wLA cI la N.1.2], [[(sa, .inl (cI, 4, .inl N.2.1)), (sb, .inl (cI, 7, .inl N.2.2))], wLA cI la N.1.2, wXX cI cS xx xd xo hh ha z zn q N.1.1], [1], [0, 2], by simp only [wXS, wXL, List.flatten_cons, List.flatten_nil, List.append_nil, List.cons_append, List.nil_append], by simp, by simp, by simp only [wXS, wXL, List.flatten_cons, List.flatten_nil, List.append_nil, List.cons_append, List.nil_append], rfl, rfl, rfl, rfl, rfl⟩
end PW
theorem xs_sub {D : va_G} {cl : List vw_C} {a b : Nat × va_E} {W : va_W} {H : Heap} (h : va_P D cl (a :: b :: W) H) : va_P D cl W H := va_P.mem.mpr (fun q hq => va_P.mem.mp h q (List.mem_cons_of_mem _ (List.mem_cons_of_mem _ hq)))
/-- what the law's methods know -/
def CX (p : Program) (s : State) (m : MethodId) (args : Array Value) (meth : Method) (c : Code) (A : Nat → Prop) (D : va_G) (cI cS : ClassId) (g : Nat → Nat) (cc : ByteArray) (maxL : Nat) (ret : Option FieldType) (cls : String) : Prop := p.tables.exec = Jvm.exec ∧ c.code = cc ∧ meth.sig.returnType = ret ∧ c.maxLocals = maxL ∧ meth.locks = false ∧ s.vm.findClass cls = some m.cls ∧ (∀ w ∈ BIG, w.before args s = true) ∧ (∀ q : Nat, s.heap.size ≤ q → A q) ∧ va_K D vwCl (tI cI cS) s ∧ GG g A s s.heap
def mIc (l : Launch) (y : MethodName) (ws : List Cond) (rm : Room) (D : va_G) (cI cS : ClassId) (g : Nat → Nat) (av : List Value) (w : va_W) (r : Int32) (w' : va_W) (mc ms : Nat) : Prop := ∀ sz : Nat, Met l y ws rm (va_Pc av (bP D cI cS g w sz)) (qI D r w' (va_A w sz)) mc ms (va_A w sz)
theorem st_Ic {l : Launch} {y : MethodName} {ws ws' : List Cond} {rm : Room} {D : va_G} {cI cS : ClassId} {g : Nat → Nat} {av : List Value} {w w' : va_W} {r : Int32} {mc ms : Nat} {cc : ByteArray} {maxL : Nat} {ret : Option FieldType} (hw : ws = Cond.code y cc maxL ret :: ws') (hy : plainName y.cls = true) (hn : (lg_sl av).length ≤ maxL)
    (k : ∀ (p : Program) (e : Env) (s : State) (m : MethodId) (args : Array Value) (below : List Frame) (meth : Method) (c : Code) (A : Nat → Prop) (ls : Array Slot), p.tables.exec = Jvm.exec → c.code = cc → meth.sig.returnType = ret → c.maxLocals = maxL → meth.locks = false → s.vm.findClass y.cls = some m.cls → (∀ w ∈ ws, w.before args s = true) → (∀ q : Nat, s.heap.size ≤ q → A q) → va_K D vwCl (tI cI cS) s → va_D A w → GG g A s s.heap → va_P D vwCl w s.heap → va_S A s.heap s.heap [] → lv_has ls maxL (lv_args 0 av) → W p l e rm s m args below meth c s.heap [] 0 0 (MQ below (qI D r w' A) args s mc ms A) (F0 m 0 ls [])) : mIc l y ws rm D cI cS g av w r w' mc ms := by
  intro sz
  refine Met.ofW (cc := cc) (maxL := maxL) (ret := ret) hy hw ?_
  intro p e s m args below meth c s₁ B hml hv
  obtain ⟨rfl, hsz, hP, hK, hD0, hG⟩ := hv
  subst hsz
  rw [lg_entry_eq]
  exact k p e s m _ below meth c (va_A w s.heap.size) _ B.exec B.bytes B.returns hml B.notSynchronized (findClass_of_methodNamed B.named) (atoms_spec (ws := ws) B.pre) (fun q h => Or.inr h) hK hD0.self hG hP va_S.rf (lv_entry av hn)
section CLL
variable {p : Program} {l : Launch} {e : Env} {R : Room} {s : State} {m : MethodId} {args : Array Value} {below : List Frame} {meth : Method} {c : Code} {H : Heap} {locs : List Loc} {cc : ByteArray} {pc : Nat} {ls : Array Slot} {A : Nat → Prop} {D : va_G} {Q : State → Prop} {cells slots mc ms : Nat}
variable {y : MethodName} {ws Ts : List Cond} {rm : Room} {cI cS : ClassId} {g : Nat → Nat} {b : Nat} {As : List Value} {W0 w w' W1 : va_W} {r : Int32} {own C : String} {index maxL nL n : Nat} {bytes : ByteArray} {ret : Option FieldType} {st rest : List Value}
theorem clx_SI (S : CallFix p m c cc nL s args Ts own) (hM : mI l y ws rm D cI cS g As w r w') (cw : CallB R s args own index y bytes maxL ret ws rm 0 0 n ∧ (Cond.static y).before args s = true)
    (hK : va_K D vwCl (tI cI cS) s) (hD : va_D A W0) (hG : GG g A s s.heap) (hA : ∀ q : Nat, s.heap.size ≤ q → A q) (hP : va_P D vwCl W0 H) (hS : va_S A s.heap H locs) (hsg : Sg W0 w w' W1)
    (hsz : ls.size = nL) (hn : As.length = n) 
    (hst : st = As.reverse ++ rest) (hW : (rest.map fun v => v.category).sum ≤ 8) (hf : cells ≤ R.cells ∧ slots ≤ R.slots) (hdg : decode cc pc = .ok (.invokestatic index, 3))
    (kk : ∀ (H1 : Heap) (locs1 : List Loc), va_P D vwCl W1 H1 → va_S A s.heap H1 locs1 → W p l e R s m args below meth c H1 locs1 cells slots Q (F0 m (pc + 3) ls (.int r :: rest))) : W p l e R s m args below meth c H locs cells slots Q (F0 m pc ls st) := by
  obtain ⟨hF, hPc, hB⟩ := cl_pre (w := w) hK hD hG hA hP hS hsg
  subst hst
  refine va_calli (va_runS (As := As) (rest := rest) S (hM H.size) cw ⟨bP_blind, fun U hU hW => ⟨rfl, hB U hU hW⟩⟩ rfl hn hsz rfl (lv_room hW) hdg hf) hS (fun q _ h => hF q h) hF (fun r1 u t H1 locs1 ht hvm hw hb1 hz1 hk1 hS1 => ?_)
  subst hw
  rw [ht] at hb1
  exact kk H1 locs1 (hsg.put hP hD hk1 hb1) hS1
theorem clx_SIc (S : CallFix p m c cc nL s args Ts own) (hM : mIc l y ws rm D cI cS g As w r w' mc ms) (cw : CallB R s args own index y bytes maxL ret ws rm mc ms n ∧ (Cond.static y).before args s = true)
    (hK : va_K D vwCl (tI cI cS) s) (hD : va_D A W0) (hG : GG g A s s.heap) (hA : ∀ q : Nat, s.heap.size ≤ q → A q) (hP : va_P D vwCl W0 H) (hS : va_S A s.heap H locs) (hsg : Sg W0 w w' W1)
    (hsz : ls.size = nL) (hn : As.length = n) 
    (hst : st = As.reverse ++ rest) (hW : (rest.map fun v => v.category).sum ≤ 8) (hf : cells + mc ≤ R.cells ∧ slots + ms ≤ R.slots) (hdg : decode cc pc = .ok (.invokestatic index, 3))
    (kk : ∀ (H1 : Heap) (locs1 : List Loc), va_P D vwCl W1 H1 → va_S A s.heap H1 locs1 → W p l e R s m args below meth c H1 locs1 (cells + mc) (slots + ms) Q (F0 m (pc + 3) ls (.int r :: rest))) : W p l e R s m args below meth c H locs cells slots Q (F0 m pc ls st) := by
  obtain ⟨hF, hPc, hB⟩ := cl_pre (w := w) hK hD hG hA hP hS hsg
  subst hst
  refine va_calli (va_runS (As := As) (rest := rest) S (hM H.size) cw ⟨bP_blind, fun U hU hW => ⟨rfl, hB U hU hW⟩⟩ rfl hn hsz rfl (lv_room hW) hdg hf) hS (fun q _ h => hF q h) hF (fun r1 u t H1 locs1 ht hvm hw hb1 hz1 hk1 hS1 => ?_)
  subst hw
  rw [ht] at hb1
  exact kk H1 locs1 (hsg.put hP hD hk1 hb1) hS1
theorem cl_SVw (S : CallFix p m c cc nL s args Ts own) (hM : mV l y ws rm D cI cS g As w w') (cw : CallB R s args own index y bytes maxL ret ws rm 0 0 n ∧ (Cond.static y).before args s = true)
    (hK : va_K D vwCl (tI cI cS) s) (hD : va_D A W0) (hG : GG g A s s.heap) (hA : ∀ q : Nat, s.heap.size ≤ q → A q) (hP : va_P D vwCl W0 H) (hS : va_S A s.heap H locs) (hsg : Sg W0 w w' W1)
    (hsz : ls.size = nL) (hn : As.length = n) (hst : st = As.reverse ++ rest) (hW : (rest.map fun v => v.category).sum ≤ 8) (hdg : decode cc pc = .ok (.invokestatic index, 3))
    (kk : ∀ (H1 : Heap) (locs1 : List Loc), va_P D vwCl W1 H1 → va_S A s.heap H1 locs1 → W p l e R s m args below meth c H1 locs1 0 0 Q (F0 m (pc + 3) ls rest)) : W p l e R s m args below meth c H locs 0 0 Q (F0 m pc ls st) := by
  obtain ⟨hF, hPc, hB⟩ := cl_pre (w := w) hK hD hG hA hP hS hsg
  subst hst
  refine va_callv (va_runS (As := As) (rest := rest) S (hM H.size) cw ⟨bP_blind, fun U hU hW => ⟨rfl, hB U hU hW⟩⟩ rfl hn hsz rfl (lv_room hW) hdg ⟨Nat.zero_le _, Nat.zero_le _⟩) hS (fun q _ h => hF q h) hF (fun u t H1 locs1 ht hvm hw hb1 hz1 hk1 hS1 => ?_)
  rw [ht] at hb1
  exact kk H1 locs1 (hsg.put hP hD hk1 hb1) hS1
theorem rt_Zs {v : Int32} (hx : p.tables.exec = Jvm.exec) (hb : c.code = cc) (hr : meth.sig.returnType = some .boolean) (hlocks : meth.locks = false) (hS : va_S A s.heap H locs) (hP : va_P D vwCl w' H) (hn : narrow .boolean (.int v) = .int v) (er : v = r) (hdg : decode cc pc = .ok (.ireturn, 1)) : W p l e R s m args below meth c H locs cells slots (MQ below (qI D r w' A) args s cells slots A) (F0 m pc ls [.int v]) :=
  W.zret (v := v) hx hb hr hn (fun t ht hW => ⟨⟨v, (), rfl, er, (congrArg (va_P D vwCl w') ht).mpr hP⟩, hS.F ht⟩) hS.2.2 hdg hlocks
end CLL

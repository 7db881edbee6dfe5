/-! Constructors: contracts that make cells. -/
def qC {S : Type} (D : va_G) (post : S → Prop) (wf : S → va_W) (A : Nat → Prop) : Array Value → State → Outcome → State → Prop := va_Qv post (fun u t => va_P D vwCl (wf u) t.heap ∧ va_D A (wf u)) A
def bC (D : va_G) (cI cS : ClassId) (g : Nat → Nat) (w : va_W) (sz : Nat) (U : State) : Prop := bP D cI cS g w sz U ∧ va_AO RX5 U
theorem bC_blind {D : va_G} {cI cS : ClassId} {g : Nat → Nat} {w : va_W} {sz : Nat} {av : List Value} : FrameBlind (va_Pc av (bC D cI cS g w sz)) := by
  intro a U gg mk q
  obtain ⟨q0, ⟨q1, qP, qK, qD, qG⟩, qO⟩ := q
  exact ⟨q0, ⟨q1, qP, va_K.moved (u := U) (U := U.calling gg mk a) (Vm.Alike.refl U.vm) qK, qD, GG.same (u := U) (U := U.calling gg mk a) qG rfl⟩, va_AO.moved (u := U) (U := U.calling gg mk a) (Vm.Alike.refl U.vm) qO⟩
def mC {S : Type} (l : Launch) (y : MethodName) (ws : List Cond) (rm : Room) (D : va_G) (cI cS : ClassId) (g : Nat → Nat) (av : List Value) (w : va_W) (post : S → Prop) (wf : S → va_W) (mc ms : Nat) : Prop := ∀ sz : Nat, Met l y ws rm (va_Pc av (bC D cI cS g w sz)) (qC D post wf (va_A w sz)) mc ms (va_A w sz)
/-- the walk that a constructor's contract asks -/
def wkC (l : Launch) (y : MethodName) (ws : List Cond) (rm : Room) (D : va_G) (cI cS : ClassId) (g : Nat → Nat) (av : List Value) (w : va_W) (Qc : (Nat → Prop) → Array Value → State → Outcome → State → Prop) (mc ms : Nat) (cc : ByteArray) (maxL : Nat) : Prop :=
  ∀ (p : Program) (e : Env) (s : State) (m : MethodId) (args : Array Value) (below : List Frame) (meth : Method) (c : Code) (A : Nat → Prop) (ls : Array Slot), p.tables.exec = Jvm.exec → c.code = cc → meth.sig.returnType = none → c.maxLocals = maxL → meth.locks = false → meth.name = "<init>" → s.vm.findClass y.cls = some m.cls → (∀ w ∈ ws, w.before args s = true) → (∀ q : Nat, s.heap.size ≤ q → A q) → va_K D vwCl (tI cI cS) s → va_D A w → GG g A s s.heap → va_AO RX5 s → va_P D vwCl w s.heap → va_S A s.heap s.heap [] → lv_has ls maxL (lv_args 0 av) → W p l e rm s m args below meth c s.heap [] 0 0 (MQ below (Qc A) args s mc ms A) (F0 m 0 ls [])
theorem wkC_met {l : Launch} {y : MethodName} {ws ws' : List Cond} {rm : Room} {D : va_G} {cI cS : ClassId} {g : Nat → Nat} {av : List Value} {w : va_W} {Qc : (Nat → Prop) → Array Value → State → Outcome → State → Prop} {mc ms : Nat} {cc : ByteArray} {maxL : Nat} (hw : ws = Cond.code y cc maxL none :: ws') (hy : plainName y.cls = true) (hyn : y.name = "<init>") (hn : (lg_sl av).length ≤ maxL)
    (k : wkC l y ws rm D cI cS g av w Qc mc ms cc maxL) (sz : Nat) : Met l y ws rm (va_Pc av (bC D cI cS g w sz)) (Qc (va_A w sz)) mc ms (va_A w sz) := by
  refine Met.ofW (cc := cc) (maxL := maxL) (ret := none) hy hw ?_
  intro p e s m args below meth c s₁ B hml hv
  obtain ⟨rfl, ⟨hsz, hP, hK, hD0, hG⟩, hO⟩ := hv
  subst hsz
  rw [lg_entry_eq]
  exact k p e s m _ below meth c (va_A w s.heap.size) _ B.exec B.bytes B.returns hml B.notSynchronized ((name_of_methodNamed B.named B.method).1.trans hyn) (findClass_of_methodNamed B.named) (atoms_spec (ws := ws) B.pre) (fun q h => Or.inr h) hK hD0.self hG hO hP va_S.rf (lv_entry av hn)
theorem st_C {S : Type} {l : Launch} {y : MethodName} {ws ws' : List Cond} {rm : Room} {D : va_G} {cI cS : ClassId} {g : Nat → Nat} {av : List Value} {w : va_W} {post : S → Prop} {wf : S → va_W} {mc ms : Nat} {cc : ByteArray} {maxL : Nat} (hw : ws = Cond.code y cc maxL none :: ws') (hy : plainName y.cls = true) (hyn : y.name = "<init>") (hn : (lg_sl av).length ≤ maxL) (k : wkC l y ws rm D cI cS g av w (qC D post wf) mc ms cc maxL) : mC l y ws rm D cI cS g av w post wf mc ms := wkC_met hw hy hyn hn k
theorem va_P.perm {D : va_G} {cl : List vw_C} {W W' : va_W} {H : Heap} (p : W.Perm W') (h : va_P D cl W H) : va_P D cl W' H := va_P.mem.mpr (fun q hq => va_P.mem.mp h q (p.mem_iff.mpr hq))
theorem va_D.perm {A : Nat → Prop} {W W' : va_W} (p : W.Perm W') (h : va_D A W) : va_D A W' := by
  obtain ⟨h1, h2⟩ := va_D.pw.mp h
  exact va_D.pw.mpr ⟨(p.pairwise_iff (fun hh => fun e => hh e.symm)).mp h1, fun q hq => h2 q (p.mem_iff.mpr hq)⟩
/-- a callee's cells, put back beside the rest -/
theorem jn_P {A : Nat → Prop} {D : va_G} {cl : List vw_C} {w w' rest : va_W} {H H1 : Heap} (hP : va_P D cl (w ++ rest) H) (hD : va_D A (w ++ rest)) (hk : ∀ q : Nat, q < H.size → ¬ va_A w H.size q → H1[q]? = H[q]?) (hP1 : va_P D cl w' H1) (hD1 : va_D (va_A w H.size) w') (hF : ∀ q, va_A w H.size q → A q) : va_P D cl (w' ++ rest) H1 ∧ va_D A (w' ++ rest) := by
  obtain ⟨d1, d2⟩ := va_D.pw.mp hD
  obtain ⟨e1, e2⟩ := va_D.pw.mp hD1
  obtain ⟨p1, p2, p3⟩ := List.pairwise_append.mp d1
  have hr : ∀ q ∈ rest, q.1 < H.size ∧ ¬ va_A w H.size q.1 := fun q hq => by
    have hat := va_P.mem.mp hP q (List.mem_append_right _ hq)
    refine ⟨hat.lt, fun hv => ?_⟩
    rcases va_A.mem.mp hv with ⟨z, hz, e⟩ | hv
    · exact p3 z hz q hq e
    · have := hat.lt; omega
  refine ⟨va_P.mem.mpr (fun q hq => ?_), va_D.pw.mpr ⟨List.pairwise_append.mpr ⟨e1, p2, fun x hx y hy e => ?_⟩, fun q hq => ?_⟩⟩
  · rcases List.mem_append.mp hq with h | h
    · exact va_P.mem.mp hP1 q h
    · exact (va_P.mem.mp hP q (List.mem_append_right _ h)).kept (hk q.1 (hr q h).1 (hr q h).2)
  · have := e2 x hx
    rw [e] at this
    exact (hr y hy).2 this
  · rcases List.mem_append.mp hq with h | h
    · exact hF _ (e2 q h)
    · exact d2 q (List.mem_append_right _ h)
theorem sub_D {A : Nat → Prop} {w rest : va_W} (hD : va_D A (w ++ rest)) : va_D A w := by
  obtain ⟨d1, d2⟩ := va_D.pw.mp hD
  exact va_D.pw.mpr ⟨(List.pairwise_append.mp d1).1, fun q hq => d2 q (List.mem_append_left _ hq)⟩
theorem sub_P {D : va_G} {cl : List vw_C} {w rest : va_W} {H : Heap} (hP : va_P D cl (w ++ rest) H) : va_P D cl w H := va_P.mem.mpr (fun q hq => va_P.mem.mp hP q (List.mem_append_left _ hq))
section CLC
variable {p : Program} {l : Launch} {e : Env} {R : Room} {s : State} {m : MethodId} {args : Array Value} {below : List Frame} {meth : Method} {c : Code} {H : Heap} {locs : List Loc} {cc : ByteArray} {pc : Nat} {ls : Array Slot} {A : Nat → Prop} {D : va_G} {Q : State → Prop} {cells slots : Nat}
variable {y : MethodName} {ws Ts : List Cond} {rm : Room} {cI cS : ClassId} {g : Nat → Nat} {b : Nat} {As : List Value} {w w' rw0 : va_W} {r : Int32} {own C : String} {index maxL nL n : Nat} {bytes : ByteArray} {ret : Option FieldType} {st rest : List Value} {mc ms : Nat}
theorem hF_of (hD : va_D A (w ++ rw0)) (hS : va_S A s.heap H locs) (hA : ∀ q : Nat, s.heap.size ≤ q → A q) : ∀ q, va_A w H.size q → A q := by
  intro q hq
  rcases va_A.mem.mp hq with ⟨z, hz, rfl⟩ | hq
  · exact (va_D.pw.mp hD).2 z (List.mem_append_left _ hz)
  · exact hA q (Nat.le_trans hS.1 hq)
/-- a constructor is called upon a fresh object -/
theorem cl_C {S : Type} {post : S → Prop} {wf : S → va_W} (S0 : CallFix p m c cc nL s args Ts own) (hM : mC l y ws rm D cI cS g (.ref b :: As) w post wf mc ms) (cw : CallB R s args own index y bytes maxL none ws rm mc ms n ∧ y.name = "<init>" ∧ (Cond.instanceMethod y).before args s = true)
    (hK : va_K D vwCl (tI cI cS) s) (hD : va_D A (w ++ rw0)) (hG : GG g A s s.heap) (hO : va_AO RX5 s) (hA : ∀ q : Nat, s.heap.size ≤ q → A q) (hP : va_P D vwCl (w ++ rw0) H) (hS : va_S A s.heap H locs)
    (hsz : ls.size = nL) (hn : As.length = n) (hst : st = As.reverse ++ .ref b :: rest) (hW : (rest.map fun v => v.category).sum ≤ 8) (hf : cells + mc ≤ R.cells ∧ slots + ms ≤ R.slots) (hdg : decode cc pc = .ok (.invokespecial index, 3))
    (kk : ∀ (u : S) (H1 : Heap) (locs1 : List Loc), post u → va_P D vwCl (wf u ++ rw0) H1 → va_D A (wf u ++ rw0) → va_S A s.heap H1 locs1 → W p l e R s m args below meth c H1 locs1 (cells + mc) (slots + ms) Q (F0 m (pc + 3) ls rest)) : W p l e R s m args below meth c H locs cells slots Q (F0 m pc ls st) := by
  have hF := hF_of hD hS hA
  have hPc := sub_P hP
  subst hst
  refine va_callv (va_runI (As := As) (rest := rest) S0 (hM H.size) cw ⟨bC_blind, fun U hU hW => ⟨rfl, ⟨⟨by rw [hU], by rw [hU]; exact hPc, va_K.moved hW.alike hK, (sub_D hD).weaken (fun _ _ _ _ => trivial), by rw [hU]; exact hG.go hS hF hW⟩, va_AO.moved hW.alike hO⟩⟩⟩ rfl hn hsz rfl (lv_room hW) hdg hf) hS (fun q _ h => hF q h) hF (fun u t H1 locs1 ht hvm hw hb1 hz1 hk1 hS1 => ?_)
  obtain ⟨hb2, hb3⟩ := hb1
  rw [ht] at hb2
  obtain ⟨j1, j2⟩ := jn_P hP hD hk1 hb2 hb3 hF
  exact kk u H1 locs1 hw j1 j2 hS1
/-- a constructor that makes no cell -/
theorem cl_CV (S0 : CallFix p m c cc nL s args Ts own) (hM : mV l y ws rm D cI cS g (.ref b :: As) w w') (cw : CallB R s args own index y bytes maxL none ws rm 0 0 n ∧ y.name = "<init>" ∧ (Cond.instanceMethod y).before args s = true)
    (hK : va_K D vwCl (tI cI cS) s) (hD : va_D A (w ++ rw0)) (hG : GG g A s s.heap) (hA : ∀ q : Nat, s.heap.size ≤ q → A q) (hP : va_P D vwCl (w ++ rw0) H) (hS : va_S A s.heap H locs) (hadr : w'.map Prod.fst = w.map Prod.fst)
    (hsz : ls.size = nL) (hn : As.length = n) (hst : st = As.reverse ++ .ref b :: rest) (hW : (rest.map fun v => v.category).sum ≤ 8) (hf : cells ≤ R.cells ∧ slots ≤ R.slots) (hdg : decode cc pc = .ok (.invokespecial index, 3))
    (kk : ∀ (H1 : Heap) (locs1 : List Loc), va_P D vwCl (w' ++ rw0) H1 → va_D A (w' ++ rw0) → va_S A s.heap H1 locs1 → W p l e R s m args below meth c H1 locs1 cells slots Q (F0 m (pc + 3) ls rest)) : W p l e R s m args below meth c H locs cells slots Q (F0 m pc ls st) := by
  have hF := hF_of hD hS hA
  have hPc := sub_P hP
  subst hst
  refine va_callv (va_runI (As := As) (rest := rest) S0 (hM H.size) cw ⟨bP_blind, fun U hU hW => ⟨rfl, ⟨by rw [hU], by rw [hU]; exact hPc, va_K.moved hW.alike hK, (sub_D hD).weaken (fun _ _ _ _ => trivial), by rw [hU]; exact hG.go hS hF hW⟩⟩⟩ rfl hn hsz rfl (lv_room hW) hdg hf) hS (fun q _ h => hF q h) hF (fun u t H1 locs1 ht hvm hw hb1 hz1 hk1 hS1 => ?_)
  rw [ht] at hb1
  have hD2 : va_D (va_A w H.size) w' := ((sub_D hD).self (sz := H.size)).adr hadr
  obtain ⟨j1, j2⟩ := jn_P hP hD hk1 hb1 hD2 hF
  exact kk H1 locs1 j1 j2 hS1
theorem rt_C {S : Type} {post : S → Prop} {wf : S → va_W} (u : S) (hx : p.tables.exec = Jvm.exec) (hb : c.code = cc) (hr : meth.sig.returnType = none) (hlocks : meth.locks = false) (hS : va_S A s.heap H locs) (hP : va_P D vwCl (wf u) H) (hD : va_D A (wf u)) (hp : post u) (hdg : decode cc pc = .ok (.return_, 1)) : W p l e R s m args below meth c H locs cells slots (MQ below (qC D post wf A) args s cells slots A) (F0 m pc ls []) :=
  W.vret hx hb hr (fun t ht hW => ⟨⟨u, rfl, hp, (congrArg (va_P D vwCl (wf u)) ht).mpr hP, hD⟩, hS.F ht⟩) hS.2.2 hdg hlocks
/-- a new row of ints -/
theorem nw_I (hexec : p.tables.exec = Jvm.exec) (hb : c.code = cc) (harr : (Cond.arrayClass .int).before args s = true) (hK : va_K D vwCl (tI cI cS) s) {W0 : va_W} (hP : va_P D vwCl W0 H) (hD : va_D A W0) (hS : va_S A s.heap H locs) (hA : ∀ q, s.heap.size ≤ q → A q)
    {k : Int32} {N' : Nat} (hn : ¬ k < 0) (hN : k.toNatClampNeg = N') (hbytes : N' * 4 ≤ 536870912) (hcells : cells + 1 ≤ R.cells) (hslots : slots + N' ≤ R.slots) (hdg : decode cc pc = .ok (.newarray .int, 2))
    (kk : ∀ (q : Nat) (H1 : Heap), va_P D vwCl (W0 ++ [(q, .inl (cI, N', .inl (fun _ => 0)))]) H1 → va_D A (W0 ++ [(q, .inl (cI, N', .inl (fun _ => 0)))]) → va_S A s.heap H1 locs →
      W p l e R s m args below meth c H1 locs (cells + 1) (slots + N') Q (F0 m (pc + 2) ls (.ref q :: rest))) : W p l e R s m args below meth c H locs cells slots Q (F0 m pc ls (.int k :: rest)) := by
  refine va_newa (atype := .int) (ty := .int) (a0 := (N', .inl (fun _ => 0))) hexec hb harr rfl hK hP hD hS hA (fun cA => rfl) hn hN hbytes hcells hslots hdg (fun q cA H1 hK1 hP1 hD1 hS1 => ?_)
  have e1 : s.vm.findClass ("[" ++ FieldType.int.toString) = some cA := (hK1.2 2 (cA, .int) rfl).2
  have e2 : s.vm.findClass ("[" ++ FieldType.int.toString) = some cI := (hK.2 0 (cI, .int) rfl).2
  have e3 : cA = cI := Option.some.inj (e1.symm.trans e2)
  subst e3
  exact kk q H1 hP1 hD1 hS1
theorem ob_I {a : Nat} (hexec : p.tables.exec = Jvm.exec) (hb : c.code = cc) (hown : s.vm.findClass own = some m.cls) (hlink : (Cond.methodLink own index Lib.objectInit).before args s = true) (hinst : (Cond.instanceMethod Lib.objectInit).before args s = true) (hcode : (Cond.code Lib.objectInit ⟨#[0xb1]⟩ 1 none).before args s = true)
    (hsize : ls.size = c.maxLocals) (hd : decode cc pc = .ok (.invokespecial index, 3)) (hframes : 1 ≤ R.frames) (hlocals : (rest.map fun v => v.category).sum + 12 ≤ R.locals)
    (kk : W p l e R s m args below meth c H locs cells slots Q (F0 m (pc + 3) ls rest)) : W p l e R s m args below meth c H locs cells slots Q (F0 m pc ls (.ref a :: rest)) :=
  W.objInit hexec hb hown hlink hinst hcode rfl hsize rfl hd hframes (by show 2 * 0 + _ + 12 ≤ _; omega) kk
end CLC

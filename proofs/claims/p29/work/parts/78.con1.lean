/-! History() -/
theorem arrV_ext {cA : ClassId} {N : Nat} {f f' : Nat → Value} (h : ∀ j : Nat, j < N → f j = f' j) : arrV cA N f = arrV cA N f' := by
  unfold arrV
  have : (fun j : Fin N => f j.val) = fun j : Fin N => f' j.val := funext fun j => h j.val j.isLt
  rw [this]
theorem va_at.ref {D : va_G} {cl : List vw_C} {q : Nat} {cA : ClassId} {N : Nat} {f f' : Nat → Option Nat} {H : Heap} (h : ∀ j : Nat, j < N → f j = f' j) (hq : va_at D cl (q, .inl (cA, N, .inr (.inr (.inr (.inr f))))) H) : va_at D cl (q, .inl (cA, N, .inr (.inr (.inr (.inr f'))))) H := by
  have e : arrV cA N (fun j => va_rf (f j)) = arrV cA N (fun j => va_rf (f' j)) := arrV_ext (fun j hj => by rw [h j hj])
  show H[q]? = some (arrV cA N (fun j => va_rf (f' j)))
  rw [← e]
  exact hq
section NQ
variable {p : Program} {l : Launch} {e : Env} {R : Room} {s : State} {m : MethodId} {args : Array Value} {below : List Frame} {meth : Method} {c : Code} {H : Heap} {locs : List Loc} {cc : ByteArray} {pc : Nat} {ls : Array Slot} {A : Nat → Prop} {D : va_G} {Q : State → Prop} {cells slots : Nat}
variable {cI cS : ClassId} {own : String} {index : Nat} {rest : List Value}
theorem nw_Q (hexec : p.tables.exec = Jvm.exec) (hb : c.code = cc) (hown : s.vm.findClass own = some m.cls) (hcl : (Cond.classLink own index RX5).before args s = true) (hO : va_AO RX5 s) (hK : va_K D vwCl (tI cI cS) s) {W0 : va_W} (hP : va_P D vwCl W0 H) (hD : va_D A W0) (hS : va_S A s.heap H locs) (hA : ∀ q, s.heap.size ≤ q → A q)
    {k : Int32} {N' : Nat} (hn : ¬ k < 0) (hN : k.toNatClampNeg = N') (hbytes : N' * 4 ≤ 536870912) (hcells : cells + 1 ≤ R.cells) (hslots : slots + N' ≤ R.slots) (hdg : decode cc pc = .ok (.anewarray index, 3))
    (kk : ∀ (q : Nat) (H1 : Heap), va_P D vwCl (W0 ++ [(q, .inl (cS, N', .inr (.inr (.inr (.inr (fun _ => none))))))]) H1 → va_D A (W0 ++ [(q, .inl (cS, N', .inr (.inr (.inr (.inr (fun _ => none))))))]) → va_S A s.heap H1 locs →
      W p l e R s m args below meth c H1 locs (cells + 1) (slots + N') Q (F0 m (pc + 3) ls (.ref q :: rest))) : W p l e R s m args below meth c H locs cells slots Q (F0 m pc ls (.int k :: rest)) := by
  refine va_newq (C := RX5) hexec hb hown hcl hO hK hP hD hS hA hn hN hbytes hcells hslots hdg (fun q cA H1 hK1 hP1 hD1 hS1 => ?_)
  have e1 : va_RA s cA (.object RX5) := (hK1.2 2 (cA, .object RX5) rfl).2
  have e2 : va_RA s cS (.object RX5) := (hK.2 1 (cS, .object RX5) rfl).2
  obtain ⟨kA, comp, -, -, -, f1⟩ := e1
  obtain ⟨kA2, comp2, -, -, -, f2⟩ := e2
  have e3 : cA = cS := Option.some.inj (f1.symm.trans f2)
  subst e3
  exact kk q H1 hP1 hD1 hS1
end NQ
def six {α : Type} (a0 a1 a2 a3 a4 a5 : α) : Nat → α := fun k => if k = 0 then a0 else if k = 1 then a1 else if k = 2 then a2 else if k = 3 then a3 else if k = 4 then a4 else a5
abbrev vX1_init : List Cond := Cond.code yX1_init cX1_init 2 none :: BIG
theorem gX1_init : GoodIn BIG vX1_init := gdN bw1_171
theorem hdX1_init : yX1_init.cls ≠ "java/lang/invoke/MethodHandle" ∧ yX1_init.cls ≠ "java/lang/invoke/VarHandle" ∧ (parseMethodDescriptor yX1_init.desc).map (fun d => d.parameters.length) = some 0 := by decide +kernel
def rmX1_init : Room := { frames := 5, cells := 217, slots := 5718, locals := 150 }
set_option maxHeartbeats 8000000 in
set_option maxRecDepth 100000 in
theorem kX1_init (l : Launch) (D : va_G) (cS : ClassId) (g : Nat → Nat) (cI : ClassId) (v : Nat) : mC l yX1_init vX1_init rmX1_init D cI cS g [.ref v] [(v, .inr (1, [.null, .int 0]))] (fun u : Nat × (Nat → Nat → Nat) × Hg => HX u.2.2 0 (fun _ => (A00, none, none))) (fun u => wHi cI cS v u.1 u.2.1 u.2.2) 217 5718 := by
  refine st_C rfl (by decide) rfl (Nat.le_of_ble_eq_true rfl) ?_
  intro p e s m args below meth c A ls hx hb hr hml hlocks hin hown hts hA hK hD hG hO hP hS hl
  have hown : s.vm.findClass RX1 = some m.cls := hown
  have htb : ∀ w ∈ BIG, w.before args s = true := fun w h => hts w (List.mem_cons_of_mem _ h)
  have hl : lv_has ls 2 [(0, .ref v)] := hl
  refine lv_aload_n hx hb dX1_init_0 rfl (lv_at hl 0 rfl) ?_
  refine ob_I hx hb hown (htb _ bw1_172) (htb _ bw1_18) (htb _ bw1_19) (hl.1.trans hml.symm) dX1_init_1 (Nat.le_of_ble_eq_true rfl) (Nat.le_of_ble_eq_true rfl) ?_
  refine lv_aload_n hx hb dX1_init_4 rfl (lv_at hl 0 rfl) ?_
  refine lv_bipush (v := 6) hx hb dX1_init_5 (by decide) ?_
  refine nw_Q (k := 6) (N' := 6) hx hb hown (htb _ bw1_173) hO hK hP hD hS hA (by decide) (by decide) (by decide) (Nat.le_of_ble_eq_true rfl) (Nat.le_of_ble_eq_true rfl) dX1_init_7 (fun x H hP hD hS => ?_)
  have hP : va_P D vwCl ([(v, .inr (1, [.null, .int 0])), (x, .inl (cS, 6, .inr (.inr (.inr (.inr (fun _ => none))))))]) H := hP
  have hD : va_D A ([(v, .inr (1, [.null, .int 0])), (x, .inl (cS, 6, .inr (.inr (.inr (.inr (fun _ => none))))))]) := hD
  refine va_putF (D := D) (ci := 1) (v := .ref x) (ty := .array (.object "TeamRooms$State")) (C := RX1) (T := TX1) (N := 2) hx hb htb kin1 tyX1 tyX1_ok nmX1 hown hK hP hD hS 0 rfl rfl 0 (by decide) (htb _ bw1_176) (fun _ h9 => h9) rfl hin rfl (by decide +kernel) rfl rfl (Nat.le_of_ble_eq_true rfl) dX1_init_10 (fun H locs hP hD hS => ?_)
  have hP : va_P D vwCl ((v, .inr (1, [.ref x, .int 0])) :: (x, .inl (cS, 6, .inr (.inr (.inr (.inr (fun _ => none)))))) :: []) H := hP
  have hD : va_D A ((v, .inr (1, [.ref x, .int 0])) :: (x, .inl (cS, 6, .inr (.inr (.inr (.inr (fun _ => none)))))) :: []) := hD
  refine lv_iconst (v := 0) hx hb dX1_init_13 (by decide) ?_
  refine lv_istore_n (lv' := [(1, .int 0), (0, .ref v)]) hx hb dX1_init_14 rfl hl (by decide) rfl (fun ls hl => ?_)
  refine lv_iload_n hx hb dX1_init_15 rfl (lv_at hl 0 rfl) ?_
  refine lv_aload_n hx hb dX1_init_16 rfl (lv_at hl 1 rfl) ?_
  refine va_get (ci := 1) (v := .ref x) (C := RX1) (T := TX1) (N := 2) hx hb htb kin1 hown hK hP 0 rfl rfl 0 (by decide) (htb _ bw1_176) (fun _ h9 => h9) rfl dX1_init_17 ?_
  refine va_alen (v := 6) hx hb hK hP 1 1 rfl rfl rfl dX1_init_20 ?_
  refine lv_icmp_ge (tgt := 43) hx hb dX1_init_21 (by decide) (fun z => absurd z (by decide)) (fun _ => ?_)
  refine lv_aload_n hx hb dX1_init_24 rfl (lv_at hl 1 rfl) ?_
  refine va_get (ci := 1) (v := .ref x) (C := RX1) (T := TX1) (N := 2) hx hb htb kin1 hown hK hP 0 rfl rfl 0 (by decide) (htb _ bw1_176) (fun _ h9 => h9) rfl dX1_init_25 ?_
  refine lv_iload_n hx hb dX1_init_28 rfl (lv_at hl 0 rfl) ?_
  refine va_new (ci := 5) (fs := [.null, .null, .null]) (C := RX5) (T := TX5) (N := 3) hx hb htb kin5 tyX5 tyX5_ok hown (htb _ bw1_173) (htb _ bw1_21) (htb _ bw1_2) hK hP hD hS hA rfl (fun j hj => by rcases (show j = 0 ∨ j = 1 ∨ j = 2 by omega) with rfl | rfl | rfl <;> rfl) (Nat.le_of_ble_eq_true rfl) (Nat.le_of_ble_eq_true rfl) dX1_init_29 (fun q0 H hP hD hS => ?_)
  have hP := va_P.perm List.perm_append_comm hP
  have hD := va_D.perm List.perm_append_comm hD
  refine lv_dup hx hb dX1_init_32 rfl ?_
  refine cl_C ⟨hx, hb, hml, hown, htb⟩ (kX5_init l D cS g cI q0) (cwI 0 htb gX5_init rfl rfl rfl (htb _ bw1_2) (htb _ bw1_175) (htb _ bw1_23) rfl hdX5_init ⟨Nat.le_of_ble_eq_true rfl, Nat.le_of_ble_eq_true rfl⟩) hK hD hG hO hA hP hS hl.1 rfl rfl (Nat.le_of_ble_eq_true rfl) ⟨Nat.le_of_ble_eq_true rfl, Nat.le_of_ble_eq_true rfl⟩ dX1_init_33 (fun u0 H locs hu0 hP hD hS => ?_)
  have hP := va_P.perm ((List.perm_middle).trans (List.Perm.cons _ List.perm_middle)) hP
  have hD := va_D.perm ((List.perm_middle).trans (List.Perm.cons _ List.perm_middle)) hD
  have hP : va_P D vwCl ((v, .inr (1, [.ref x, .int 0])) :: (x, .inl (cS, 6, .inr (.inr (.inr (.inr (fun _ => none)))))) :: (wSt cI u0.1 u0.2 ++ [])) H := hP
  have hD : va_D A ((v, .inr (1, [.ref x, .int 0])) :: (x, .inl (cS, 6, .inr (.inr (.inr (.inr (fun _ => none)))))) :: (wSt cI u0.1 u0.2 ++ [])) := hD
  have e2 : ((v, .inr (1, [.ref x, .int 0])) :: (x, .inl (cS, 6, .inr (.inr (.inr (.inr (fun _ => none)))))) :: (wSt cI u0.1 u0.2 ++ []) : va_W)[2]? = some (q0, .inr (5, [.ref (u0.1 1), .ref (u0.1 12), .ref (u0.1 24)])) := by
    have e3 := hu0.1
    exact (congrArg (fun y => some ((y, .inr (5, [.ref (u0.1 1), .ref (u0.1 12), .ref (u0.1 24)])) : Nat × va_E)) e3)
  refine va_astq (r := (RX5, TX5, 3)) hx hb hK hP hD hS 1 1 2 5 rfl rfl e2 rfl (by unfold vp_in; decide) dX1_init_36 (fun H locs hP hD hS => ?_)
  have hP : va_P D vwCl ((v, .inr (1, [.ref x, .int 0])) :: (x, .inl (cS, 6, .inr (.inr (.inr (.inr (va_up (fun _ => none) (0 : Int32).toNatClampNeg (some q0))))))) :: (wSt cI u0.1 u0.2 ++ [])) H := hP
  have hD : va_D A ((v, .inr (1, [.ref x, .int 0])) :: (x, .inl (cS, 6, .inr (.inr (.inr (.inr (va_up (fun _ => none) (0 : Int32).toNatClampNeg (some q0))))))) :: (wSt cI u0.1 u0.2 ++ [])) := hD
  refine lv_iinc (v := 1) (lv' := [(1, .int 1), (0, .ref v)]) hx hb dX1_init_37 hl (k := 0) rfl (by decide) (by decide) rfl (fun ls hl => ?_)
  refine lv_goto (tgt := 15) hx hb dX1_init_40 (by decide) ?_
  refine lv_iload_n hx hb dX1_init_15 rfl (lv_at hl 0 rfl) ?_
  refine lv_aload_n hx hb dX1_init_16 rfl (lv_at hl 1 rfl) ?_
  refine va_get (ci := 1) (v := .ref x) (C := RX1) (T := TX1) (N := 2) hx hb htb kin1 hown hK hP 0 rfl rfl 0 (by decide) (htb _ bw1_176) (fun _ h9 => h9) rfl dX1_init_17 ?_
  refine va_alen (v := 6) hx hb hK hP 1 1 rfl rfl rfl dX1_init_20 ?_
  refine lv_icmp_ge (tgt := 43) hx hb dX1_init_21 (by decide) (fun z => absurd z (by decide)) (fun _ => ?_)
  refine lv_aload_n hx hb dX1_init_24 rfl (lv_at hl 1 rfl) ?_
  refine va_get (ci := 1) (v := .ref x) (C := RX1) (T := TX1) (N := 2) hx hb htb kin1 hown hK hP 0 rfl rfl 0 (by decide) (htb _ bw1_176) (fun _ h9 => h9) rfl dX1_init_25 ?_
  refine lv_iload_n hx hb dX1_init_28 rfl (lv_at hl 0 rfl) ?_
  refine va_new (ci := 5) (fs := [.null, .null, .null]) (C := RX5) (T := TX5) (N := 3) hx hb htb kin5 tyX5 tyX5_ok hown (htb _ bw1_173) (htb _ bw1_21) (htb _ bw1_2) hK hP hD hS hA rfl (fun j hj => by rcases (show j = 0 ∨ j = 1 ∨ j = 2 by omega) with rfl | rfl | rfl <;> rfl) (Nat.le_of_ble_eq_true rfl) (Nat.le_of_ble_eq_true rfl) dX1_init_29 (fun q1 H hP hD hS => ?_)
  have hP := va_P.perm List.perm_append_comm hP
  have hD := va_D.perm List.perm_append_comm hD
  refine lv_dup hx hb dX1_init_32 rfl ?_
  refine cl_C ⟨hx, hb, hml, hown, htb⟩ (kX5_init l D cS g cI q1) (cwI 0 htb gX5_init rfl rfl rfl (htb _ bw1_2) (htb _ bw1_175) (htb _ bw1_23) rfl hdX5_init ⟨Nat.le_of_ble_eq_true rfl, Nat.le_of_ble_eq_true rfl⟩) hK hD hG hO hA hP hS hl.1 rfl rfl (Nat.le_of_ble_eq_true rfl) ⟨Nat.le_of_ble_eq_true rfl, Nat.le_of_ble_eq_true rfl⟩ dX1_init_33 (fun u1 H locs hu1 hP hD hS => ?_)
  have hP := va_P.perm ((List.perm_middle).trans (List.Perm.cons _ List.perm_middle)) hP
  have hD := va_D.perm ((List.perm_middle).trans (List.Perm.cons _ List.perm_middle)) hD
  have hP : va_P D vwCl ((v, .inr (1, [.ref x, .int 0])) :: (x, .inl (cS, 6, .inr (.inr (.inr (.inr (va_up (fun _ => none) (0 : Int32).toNatClampNeg (some q0))))))) :: (wSt cI u1.1 u1.2 ++ (wSt cI u0.1 u0.2 ++ []))) H := hP
  have hD : va_D A ((v, .inr (1, [.ref x, .int 0])) :: (x, .inl (cS, 6, .inr (.inr (.inr (.inr (va_up (fun _ => none) (0 : Int32).toNatClampNeg (some q0))))))) :: (wSt cI u1.1 u1.2 ++ (wSt cI u0.1 u0.2 ++ []))) := hD
  have e2 : ((v, .inr (1, [.ref x, .int 0])) :: (x, .inl (cS, 6, .inr (.inr (.inr (.inr (va_up (fun _ => none) (0 : Int32).toNatClampNeg (some q0))))))) :: (wSt cI u1.1 u1.2 ++ (wSt cI u0.1 u0.2 ++ [])) : va_W)[2]? = some (q1, .inr (5, [.ref (u1.1 1), .ref (u1.1 12), .ref (u1.1 24)])) := by
    have e3 := hu1.1
    exact (congrArg (fun y => some ((y, .inr (5, [.ref (u1.1 1), .ref (u1.1 12), .ref (u1.1 24)])) : Nat × va_E)) e3)
  refine va_astq (r := (RX5, TX5, 3)) hx hb hK hP hD hS 1 1 2 5 rfl rfl e2 rfl (by unfold vp_in; decide) dX1_init_36 (fun H locs hP hD hS => ?_)
  have hP : va_P D vwCl ((v, .inr (1, [.ref x, .int 0])) :: (x, .inl (cS, 6, .inr (.inr (.inr (.inr (va_up (va_up (fun _ => none) (0 : Int32).toNatClampNeg (some q0)) (1 : Int32).toNatClampNeg (some q1))))))) :: (wSt cI u1.1 u1.2 ++ (wSt cI u0.1 u0.2 ++ []))) H := hP
  have hD : va_D A ((v, .inr (1, [.ref x, .int 0])) :: (x, .inl (cS, 6, .inr (.inr (.inr (.inr (va_up (va_up (fun _ => none) (0 : Int32).toNatClampNeg (some q0)) (1 : Int32).toNatClampNeg (some q1))))))) :: (wSt cI u1.1 u1.2 ++ (wSt cI u0.1 u0.2 ++ []))) := hD
  refine lv_iinc (v := 2) (lv' := [(1, .int 2), (0, .ref v)]) hx hb dX1_init_37 hl (k := 0) rfl (by decide) (by decide) rfl (fun ls hl => ?_)
  refine lv_goto (tgt := 15) hx hb dX1_init_40 (by decide) ?_
  refine lv_iload_n hx hb dX1_init_15 rfl (lv_at hl 0 rfl) ?_
  refine lv_aload_n hx hb dX1_init_16 rfl (lv_at hl 1 rfl) ?_
  refine va_get (ci := 1) (v := .ref x) (C := RX1) (T := TX1) (N := 2) hx hb htb kin1 hown hK hP 0 rfl rfl 0 (by decide) (htb _ bw1_176) (fun _ h9 => h9) rfl dX1_init_17 ?_
  refine va_alen (v := 6) hx hb hK hP 1 1 rfl rfl rfl dX1_init_20 ?_
  refine lv_icmp_ge (tgt := 43) hx hb dX1_init_21 (by decide) (fun z => absurd z (by decide)) (fun _ => ?_)
  refine lv_aload_n hx hb dX1_init_24 rfl (lv_at hl 1 rfl) ?_
  refine va_get (ci := 1) (v := .ref x) (C := RX1) (T := TX1) (N := 2) hx hb htb kin1 hown hK hP 0 rfl rfl 0 (by decide) (htb _ bw1_176) (fun _ h9 => h9) rfl dX1_init_25 ?_
  refine lv_iload_n hx hb dX1_init_28 rfl (lv_at hl 0 rfl) ?_
  refine va_new (ci := 5) (fs := [.null, .null, .null]) (C := RX5) (T := TX5) (N := 3) hx hb htb kin5 tyX5 tyX5_ok hown (htb _ bw1_173) (htb _ bw1_21) (htb _ bw1_2) hK hP hD hS hA rfl (fun j hj => by rcases (show j = 0 ∨ j = 1 ∨ j = 2 by omega) with rfl | rfl | rfl <;> rfl) (Nat.le_of_ble_eq_true rfl) (Nat.le_of_ble_eq_true rfl) dX1_init_29 (fun q2 H hP hD hS => ?_)
  have hP := va_P.perm List.perm_append_comm hP
  have hD := va_D.perm List.perm_append_comm hD
  refine lv_dup hx hb dX1_init_32 rfl ?_
  refine cl_C ⟨hx, hb, hml, hown, htb⟩ (kX5_init l D cS g cI q2) (cwI 0 htb gX5_init rfl rfl rfl (htb _ bw1_2) (htb _ bw1_175) (htb _ bw1_23) rfl hdX5_init ⟨Nat.le_of_ble_eq_true rfl, Nat.le_of_ble_eq_true rfl⟩) hK hD hG hO hA hP hS hl.1 rfl rfl (Nat.le_of_ble_eq_true rfl) ⟨Nat.le_of_ble_eq_true rfl, Nat.le_of_ble_eq_true rfl⟩ dX1_init_33 (fun u2 H locs hu2 hP hD hS => ?_)
  have hP := va_P.perm ((List.perm_middle).trans (List.Perm.cons _ List.perm_middle)) hP
  have hD := va_D.perm ((List.perm_middle).trans (List.Perm.cons _ List.perm_middle)) hD
  have hP : va_P D vwCl ((v, .inr (1, [.ref x, .int 0])) :: (x, .inl (cS, 6, .inr (.inr (.inr (.inr (va_up (va_up (fun _ => none) (0 : Int32).toNatClampNeg (some q0)) (1 : Int32).toNatClampNeg (some q1))))))) :: (wSt cI u2.1 u2.2 ++ (wSt cI u1.1 u1.2 ++ (wSt cI u0.1 u0.2 ++ [])))) H := hP
  have hD : va_D A ((v, .inr (1, [.ref x, .int 0])) :: (x, .inl (cS, 6, .inr (.inr (.inr (.inr (va_up (va_up (fun _ => none) (0 : Int32).toNatClampNeg (some q0)) (1 : Int32).toNatClampNeg (some q1))))))) :: (wSt cI u2.1 u2.2 ++ (wSt cI u1.1 u1.2 ++ (wSt cI u0.1 u0.2 ++ [])))) := hD
  have e2 : ((v, .inr (1, [.ref x, .int 0])) :: (x, .inl (cS, 6, .inr (.inr (.inr (.inr (va_up (va_up (fun _ => none) (0 : Int32).toNatClampNeg (some q0)) (1 : Int32).toNatClampNeg (some q1))))))) :: (wSt cI u2.1 u2.2 ++ (wSt cI u1.1 u1.2 ++ (wSt cI u0.1 u0.2 ++ []))) : va_W)[2]? = some (q2, .inr (5, [.ref (u2.1 1), .ref (u2.1 12), .ref (u2.1 24)])) := by
    have e3 := hu2.1
    exact (congrArg (fun y => some ((y, .inr (5, [.ref (u2.1 1), .ref (u2.1 12), .ref (u2.1 24)])) : Nat × va_E)) e3)
  refine va_astq (r := (RX5, TX5, 3)) hx hb hK hP hD hS 1 1 2 5 rfl rfl e2 rfl (by unfold vp_in; decide) dX1_init_36 (fun H locs hP hD hS => ?_)
  have hP : va_P D vwCl ((v, .inr (1, [.ref x, .int 0])) :: (x, .inl (cS, 6, .inr (.inr (.inr (.inr (va_up (va_up (va_up (fun _ => none) (0 : Int32).toNatClampNeg (some q0)) (1 : Int32).toNatClampNeg (some q1)) (2 : Int32).toNatClampNeg (some q2))))))) :: (wSt cI u2.1 u2.2 ++ (wSt cI u1.1 u1.2 ++ (wSt cI u0.1 u0.2 ++ [])))) H := hP
  have hD : va_D A ((v, .inr (1, [.ref x, .int 0])) :: (x, .inl (cS, 6, .inr (.inr (.inr (.inr (va_up (va_up (va_up (fun _ => none) (0 : Int32).toNatClampNeg (some q0)) (1 : Int32).toNatClampNeg (some q1)) (2 : Int32).toNatClampNeg (some q2))))))) :: (wSt cI u2.1 u2.2 ++ (wSt cI u1.1 u1.2 ++ (wSt cI u0.1 u0.2 ++ [])))) := hD
  refine lv_iinc (v := 3) (lv' := [(1, .int 3), (0, .ref v)]) hx hb dX1_init_37 hl (k := 0) rfl (by decide) (by decide) rfl (fun ls hl => ?_)
  refine lv_goto (tgt := 15) hx hb dX1_init_40 (by decide) ?_
  refine lv_iload_n hx hb dX1_init_15 rfl (lv_at hl 0 rfl) ?_
  refine lv_aload_n hx hb dX1_init_16 rfl (lv_at hl 1 rfl) ?_
  refine va_get (ci := 1) (v := .ref x) (C := RX1) (T := TX1) (N := 2) hx hb htb kin1 hown hK hP 0 rfl rfl 0 (by decide) (htb _ bw1_176) (fun _ h9 => h9) rfl dX1_init_17 ?_
  refine va_alen (v := 6) hx hb hK hP 1 1 rfl rfl rfl dX1_init_20 ?_
  refine lv_icmp_ge (tgt := 43) hx hb dX1_init_21 (by decide) (fun z => absurd z (by decide)) (fun _ => ?_)
  refine lv_aload_n hx hb dX1_init_24 rfl (lv_at hl 1 rfl) ?_
  refine va_get (ci := 1) (v := .ref x) (C := RX1) (T := TX1) (N := 2) hx hb htb kin1 hown hK hP 0 rfl rfl 0 (by decide) (htb _ bw1_176) (fun _ h9 => h9) rfl dX1_init_25 ?_
  refine lv_iload_n hx hb dX1_init_28 rfl (lv_at hl 0 rfl) ?_
  refine va_new (ci := 5) (fs := [.null, .null, .null]) (C := RX5) (T := TX5) (N := 3) hx hb htb kin5 tyX5 tyX5_ok hown (htb _ bw1_173) (htb _ bw1_21) (htb _ bw1_2) hK hP hD hS hA rfl (fun j hj => by rcases (show j = 0 ∨ j = 1 ∨ j = 2 by omega) with rfl | rfl | rfl <;> rfl) (Nat.le_of_ble_eq_true rfl) (Nat.le_of_ble_eq_true rfl) dX1_init_29 (fun q3 H hP hD hS => ?_)
  have hP := va_P.perm List.perm_append_comm hP
  have hD := va_D.perm List.perm_append_comm hD
  refine lv_dup hx hb dX1_init_32 rfl ?_
  refine cl_C ⟨hx, hb, hml, hown, htb⟩ (kX5_init l D cS g cI q3) (cwI 0 htb gX5_init rfl rfl rfl (htb _ bw1_2) (htb _ bw1_175) (htb _ bw1_23) rfl hdX5_init ⟨Nat.le_of_ble_eq_true rfl, Nat.le_of_ble_eq_true rfl⟩) hK hD hG hO hA hP hS hl.1 rfl rfl (Nat.le_of_ble_eq_true rfl) ⟨Nat.le_of_ble_eq_true rfl, Nat.le_of_ble_eq_true rfl⟩ dX1_init_33 (fun u3 H locs hu3 hP hD hS => ?_)
  have hP := va_P.perm ((List.perm_middle).trans (List.Perm.cons _ List.perm_middle)) hP
  have hD := va_D.perm ((List.perm_middle).trans (List.Perm.cons _ List.perm_middle)) hD
  have hP : va_P D vwCl ((v, .inr (1, [.ref x, .int 0])) :: (x, .inl (cS, 6, .inr (.inr (.inr (.inr (va_up (va_up (va_up (fun _ => none) (0 : Int32).toNatClampNeg (some q0)) (1 : Int32).toNatClampNeg (some q1)) (2 : Int32).toNatClampNeg (some q2))))))) :: (wSt cI u3.1 u3.2 ++ (wSt cI u2.1 u2.2 ++ (wSt cI u1.1 u1.2 ++ (wSt cI u0.1 u0.2 ++ []))))) H := hP
  have hD : va_D A ((v, .inr (1, [.ref x, .int 0])) :: (x, .inl (cS, 6, .inr (.inr (.inr (.inr (va_up (va_up (va_up (fun _ => none) (0 : Int32).toNatClampNeg (some q0)) (1 : Int32).toNatClampNeg (some q1)) (2 : Int32).toNatClampNeg (some q2))))))) :: (wSt cI u3.1 u3.2 ++ (wSt cI u2.1 u2.2 ++ (wSt cI u1.1 u1.2 ++ (wSt cI u0.1 u0.2 ++ []))))) := hD
  have e2 : ((v, .inr (1, [.ref x, .int 0])) :: (x, .inl (cS, 6, .inr (.inr (.inr (.inr (va_up (va_up (va_up (fun _ => none) (0 : Int32).toNatClampNeg (some q0)) (1 : Int32).toNatClampNeg (some q1)) (2 : Int32).toNatClampNeg (some q2))))))) :: (wSt cI u3.1 u3.2 ++ (wSt cI u2.1 u2.2 ++ (wSt cI u1.1 u1.2 ++ (wSt cI u0.1 u0.2 ++ [])))) : va_W)[2]? = some (q3, .inr (5, [.ref (u3.1 1), .ref (u3.1 12), .ref (u3.1 24)])) := by
    have e3 := hu3.1
    exact (congrArg (fun y => some ((y, .inr (5, [.ref (u3.1 1), .ref (u3.1 12), .ref (u3.1 24)])) : Nat × va_E)) e3)
  refine va_astq (r := (RX5, TX5, 3)) hx hb hK hP hD hS 1 1 2 5 rfl rfl e2 rfl (by unfold vp_in; decide) dX1_init_36 (fun H locs hP hD hS => ?_)
  have hP : va_P D vwCl ((v, .inr (1, [.ref x, .int 0])) :: (x, .inl (cS, 6, .inr (.inr (.inr (.inr (va_up (va_up (va_up (va_up (fun _ => none) (0 : Int32).toNatClampNeg (some q0)) (1 : Int32).toNatClampNeg (some q1)) (2 : Int32).toNatClampNeg (some q2)) (3 : Int32).toNatClampNeg (some q3))))))) :: (wSt cI u3.1 u3.2 ++ (wSt cI u2.1 u2.2 ++ (wSt cI u1.1 u1.2 ++ (wSt cI u0.1 u0.2 ++ []))))) H := hP
  have hD : va_D A ((v, .inr (1, [.ref x, .int 0])) :: (x, .inl (cS, 6, .inr (.inr (.inr (.inr (va_up (va_up (va_up (va_up (fun _ => none) (0 : Int32).toNatClampNeg (some q0)) (1 : Int32).toNatClampNeg (some q1)) (2 : Int32).toNatClampNeg (some q2)) (3 : Int32).toNatClampNeg (some q3))))))) :: (wSt cI u3.1 u3.2 ++ (wSt cI u2.1 u2.2 ++ (wSt cI u1.1 u1.2 ++ (wSt cI u0.1 u0.2 ++ []))))) := hD
  refine lv_iinc (v := 4) (lv' := [(1, .int 4), (0, .ref v)]) hx hb dX1_init_37 hl (k := 0) rfl (by decide) (by decide) rfl (fun ls hl => ?_)
  refine lv_goto (tgt := 15) hx hb dX1_init_40 (by decide) ?_
  refine lv_iload_n hx hb dX1_init_15 rfl (lv_at hl 0 rfl) ?_
  refine lv_aload_n hx hb dX1_init_16 rfl (lv_at hl 1 rfl) ?_
  refine va_get (ci := 1) (v := .ref x) (C := RX1) (T := TX1) (N := 2) hx hb htb kin1 hown hK hP 0 rfl rfl 0 (by decide) (htb _ bw1_176) (fun _ h9 => h9) rfl dX1_init_17 ?_
  refine va_alen (v := 6) hx hb hK hP 1 1 rfl rfl rfl dX1_init_20 ?_
  refine lv_icmp_ge (tgt := 43) hx hb dX1_init_21 (by decide) (fun z => absurd z (by decide)) (fun _ => ?_)
  refine lv_aload_n hx hb dX1_init_24 rfl (lv_at hl 1 rfl) ?_
  refine va_get (ci := 1) (v := .ref x) (C := RX1) (T := TX1) (N := 2) hx hb htb kin1 hown hK hP 0 rfl rfl 0 (by decide) (htb _ bw1_176) (fun _ h9 => h9) rfl dX1_init_25 ?_
  refine lv_iload_n hx hb dX1_init_28 rfl (lv_at hl 0 rfl) ?_
  refine va_new (ci := 5) (fs := [.null, .null, .null]) (C := RX5) (T := TX5) (N := 3) hx hb htb kin5 tyX5 tyX5_ok hown (htb _ bw1_173) (htb _ bw1_21) (htb _ bw1_2) hK hP hD hS hA rfl (fun j hj => by rcases (show j = 0 ∨ j = 1 ∨ j = 2 by omega) with rfl | rfl | rfl <;> rfl) (Nat.le_of_ble_eq_true rfl) (Nat.le_of_ble_eq_true rfl) dX1_init_29 (fun q4 H hP hD hS => ?_)
  have hP := va_P.perm List.perm_append_comm hP
  have hD := va_D.perm List.perm_append_comm hD
  refine lv_dup hx hb dX1_init_32 rfl ?_
  refine cl_C ⟨hx, hb, hml, hown, htb⟩ (kX5_init l D cS g cI q4) (cwI 0 htb gX5_init rfl rfl rfl (htb _ bw1_2) (htb _ bw1_175) (htb _ bw1_23) rfl hdX5_init ⟨Nat.le_of_ble_eq_true rfl, Nat.le_of_ble_eq_true rfl⟩) hK hD hG hO hA hP hS hl.1 rfl rfl (Nat.le_of_ble_eq_true rfl) ⟨Nat.le_of_ble_eq_true rfl, Nat.le_of_ble_eq_true rfl⟩ dX1_init_33 (fun u4 H locs hu4 hP hD hS => ?_)
  have hP := va_P.perm ((List.perm_middle).trans (List.Perm.cons _ List.perm_middle)) hP
  have hD := va_D.perm ((List.perm_middle).trans (List.Perm.cons _ List.perm_middle)) hD
  have hP : va_P D vwCl ((v, .inr (1, [.ref x, .int 0])) :: (x, .inl (cS, 6, .inr (.inr (.inr (.inr (va_up (va_up (va_up (va_up (fun _ => none) (0 : Int32).toNatClampNeg (some q0)) (1 : Int32).toNatClampNeg (some q1)) (2 : Int32).toNatClampNeg (some q2)) (3 : Int32).toNatClampNeg (some q3))))))) :: (wSt cI u4.1 u4.2 ++ (wSt cI u3.1 u3.2 ++ (wSt cI u2.1 u2.2 ++ (wSt cI u1.1 u1.2 ++ (wSt cI u0.1 u0.2 ++ [])))))) H := hP
  have hD : va_D A ((v, .inr (1, [.ref x, .int 0])) :: (x, .inl (cS, 6, .inr (.inr (.inr (.inr (va_up (va_up (va_up (va_up (fun _ => none) (0 : Int32).toNatClampNeg (some q0)) (1 : Int32).toNatClampNeg (some q1)) (2 : Int32).toNatClampNeg (some q2)) (3 : Int32).toNatClampNeg (some q3))))))) :: (wSt cI u4.1 u4.2 ++ (wSt cI u3.1 u3.2 ++ (wSt cI u2.1 u2.2 ++ (wSt cI u1.1 u1.2 ++ (wSt cI u0.1 u0.2 ++ [])))))) := hD
  have e2 : ((v, .inr (1, [.ref x, .int 0])) :: (x, .inl (cS, 6, .inr (.inr (.inr (.inr (va_up (va_up (va_up (va_up (fun _ => none) (0 : Int32).toNatClampNeg (some q0)) (1 : Int32).toNatClampNeg (some q1)) (2 : Int32).toNatClampNeg (some q2)) (3 : Int32).toNatClampNeg (some q3))))))) :: (wSt cI u4.1 u4.2 ++ (wSt cI u3.1 u3.2 ++ (wSt cI u2.1 u2.2 ++ (wSt cI u1.1 u1.2 ++ (wSt cI u0.1 u0.2 ++ []))))) : va_W)[2]? = some (q4, .inr (5, [.ref (u4.1 1), .ref (u4.1 12), .ref (u4.1 24)])) := by
    have e3 := hu4.1
    exact (congrArg (fun y => some ((y, .inr (5, [.ref (u4.1 1), .ref (u4.1 12), .ref (u4.1 24)])) : Nat × va_E)) e3)
  refine va_astq (r := (RX5, TX5, 3)) hx hb hK hP hD hS 1 1 2 5 rfl rfl e2 rfl (by unfold vp_in; decide) dX1_init_36 (fun H locs hP hD hS => ?_)
  have hP : va_P D vwCl ((v, .inr (1, [.ref x, .int 0])) :: (x, .inl (cS, 6, .inr (.inr (.inr (.inr (va_up (va_up (va_up (va_up (va_up (fun _ => none) (0 : Int32).toNatClampNeg (some q0)) (1 : Int32).toNatClampNeg (some q1)) (2 : Int32).toNatClampNeg (some q2)) (3 : Int32).toNatClampNeg (some q3)) (4 : Int32).toNatClampNeg (some q4))))))) :: (wSt cI u4.1 u4.2 ++ (wSt cI u3.1 u3.2 ++ (wSt cI u2.1 u2.2 ++ (wSt cI u1.1 u1.2 ++ (wSt cI u0.1 u0.2 ++ [])))))) H := hP
  have hD : va_D A ((v, .inr (1, [.ref x, .int 0])) :: (x, .inl (cS, 6, .inr (.inr (.inr (.inr (va_up (va_up (va_up (va_up (va_up (fun _ => none) (0 : Int32).toNatClampNeg (some q0)) (1 : Int32).toNatClampNeg (some q1)) (2 : Int32).toNatClampNeg (some q2)) (3 : Int32).toNatClampNeg (some q3)) (4 : Int32).toNatClampNeg (some q4))))))) :: (wSt cI u4.1 u4.2 ++ (wSt cI u3.1 u3.2 ++ (wSt cI u2.1 u2.2 ++ (wSt cI u1.1 u1.2 ++ (wSt cI u0.1 u0.2 ++ [])))))) := hD
  refine lv_iinc (v := 5) (lv' := [(1, .int 5), (0, .ref v)]) hx hb dX1_init_37 hl (k := 0) rfl (by decide) (by decide) rfl (fun ls hl => ?_)
  refine lv_goto (tgt := 15) hx hb dX1_init_40 (by decide) ?_
  refine lv_iload_n hx hb dX1_init_15 rfl (lv_at hl 0 rfl) ?_
  refine lv_aload_n hx hb dX1_init_16 rfl (lv_at hl 1 rfl) ?_
  refine va_get (ci := 1) (v := .ref x) (C := RX1) (T := TX1) (N := 2) hx hb htb kin1 hown hK hP 0 rfl rfl 0 (by decide) (htb _ bw1_176) (fun _ h9 => h9) rfl dX1_init_17 ?_
  refine va_alen (v := 6) hx hb hK hP 1 1 rfl rfl rfl dX1_init_20 ?_
  refine lv_icmp_ge (tgt := 43) hx hb dX1_init_21 (by decide) (fun z => absurd z (by decide)) (fun _ => ?_)
  refine lv_aload_n hx hb dX1_init_24 rfl (lv_at hl 1 rfl) ?_
  refine va_get (ci := 1) (v := .ref x) (C := RX1) (T := TX1) (N := 2) hx hb htb kin1 hown hK hP 0 rfl rfl 0 (by decide) (htb _ bw1_176) (fun _ h9 => h9) rfl dX1_init_25 ?_
  refine lv_iload_n hx hb dX1_init_28 rfl (lv_at hl 0 rfl) ?_
  refine va_new (ci := 5) (fs := [.null, .null, .null]) (C := RX5) (T := TX5) (N := 3) hx hb htb kin5 tyX5 tyX5_ok hown (htb _ bw1_173) (htb _ bw1_21) (htb _ bw1_2) hK hP hD hS hA rfl (fun j hj => by rcases (show j = 0 ∨ j = 1 ∨ j = 2 by omega) with rfl | rfl | rfl <;> rfl) (Nat.le_of_ble_eq_true rfl) (Nat.le_of_ble_eq_true rfl) dX1_init_29 (fun q5 H hP hD hS => ?_)
  have hP := va_P.perm List.perm_append_comm hP
  have hD := va_D.perm List.perm_append_comm hD
  refine lv_dup hx hb dX1_init_32 rfl ?_
  refine cl_C ⟨hx, hb, hml, hown, htb⟩ (kX5_init l D cS g cI q5) (cwI 0 htb gX5_init rfl rfl rfl (htb _ bw1_2) (htb _ bw1_175) (htb _ bw1_23) rfl hdX5_init ⟨Nat.le_of_ble_eq_true rfl, Nat.le_of_ble_eq_true rfl⟩) hK hD hG hO hA hP hS hl.1 rfl rfl (Nat.le_of_ble_eq_true rfl) ⟨Nat.le_of_ble_eq_true rfl, Nat.le_of_ble_eq_true rfl⟩ dX1_init_33 (fun u5 H locs hu5 hP hD hS => ?_)
  have hP := va_P.perm ((List.perm_middle).trans (List.Perm.cons _ List.perm_middle)) hP
  have hD := va_D.perm ((List.perm_middle).trans (List.Perm.cons _ List.perm_middle)) hD
  have hP : va_P D vwCl ((v, .inr (1, [.ref x, .int 0])) :: (x, .inl (cS, 6, .inr (.inr (.inr (.inr (va_up (va_up (va_up (va_up (va_up (fun _ => none) (0 : Int32).toNatClampNeg (some q0)) (1 : Int32).toNatClampNeg (some q1)) (2 : Int32).toNatClampNeg (some q2)) (3 : Int32).toNatClampNeg (some q3)) (4 : Int32).toNatClampNeg (some q4))))))) :: (wSt cI u5.1 u5.2 ++ (wSt cI u4.1 u4.2 ++ (wSt cI u3.1 u3.2 ++ (wSt cI u2.1 u2.2 ++ (wSt cI u1.1 u1.2 ++ (wSt cI u0.1 u0.2 ++ []))))))) H := hP
  have hD : va_D A ((v, .inr (1, [.ref x, .int 0])) :: (x, .inl (cS, 6, .inr (.inr (.inr (.inr (va_up (va_up (va_up (va_up (va_up (fun _ => none) (0 : Int32).toNatClampNeg (some q0)) (1 : Int32).toNatClampNeg (some q1)) (2 : Int32).toNatClampNeg (some q2)) (3 : Int32).toNatClampNeg (some q3)) (4 : Int32).toNatClampNeg (some q4))))))) :: (wSt cI u5.1 u5.2 ++ (wSt cI u4.1 u4.2 ++ (wSt cI u3.1 u3.2 ++ (wSt cI u2.1 u2.2 ++ (wSt cI u1.1 u1.2 ++ (wSt cI u0.1 u0.2 ++ []))))))) := hD
  have e2 : ((v, .inr (1, [.ref x, .int 0])) :: (x, .inl (cS, 6, .inr (.inr (.inr (.inr (va_up (va_up (va_up (va_up (va_up (fun _ => none) (0 : Int32).toNatClampNeg (some q0)) (1 : Int32).toNatClampNeg (some q1)) (2 : Int32).toNatClampNeg (some q2)) (3 : Int32).toNatClampNeg (some q3)) (4 : Int32).toNatClampNeg (some q4))))))) :: (wSt cI u5.1 u5.2 ++ (wSt cI u4.1 u4.2 ++ (wSt cI u3.1 u3.2 ++ (wSt cI u2.1 u2.2 ++ (wSt cI u1.1 u1.2 ++ (wSt cI u0.1 u0.2 ++ [])))))) : va_W)[2]? = some (q5, .inr (5, [.ref (u5.1 1), .ref (u5.1 12), .ref (u5.1 24)])) := by
    have e3 := hu5.1
    exact (congrArg (fun y => some ((y, .inr (5, [.ref (u5.1 1), .ref (u5.1 12), .ref (u5.1 24)])) : Nat × va_E)) e3)
  refine va_astq (r := (RX5, TX5, 3)) hx hb hK hP hD hS 1 1 2 5 rfl rfl e2 rfl (by unfold vp_in; decide) dX1_init_36 (fun H locs hP hD hS => ?_)
  have hP : va_P D vwCl ((v, .inr (1, [.ref x, .int 0])) :: (x, .inl (cS, 6, .inr (.inr (.inr (.inr (va_up (va_up (va_up (va_up (va_up (va_up (fun _ => none) (0 : Int32).toNatClampNeg (some q0)) (1 : Int32).toNatClampNeg (some q1)) (2 : Int32).toNatClampNeg (some q2)) (3 : Int32).toNatClampNeg (some q3)) (4 : Int32).toNatClampNeg (some q4)) (5 : Int32).toNatClampNeg (some q5))))))) :: (wSt cI u5.1 u5.2 ++ (wSt cI u4.1 u4.2 ++ (wSt cI u3.1 u3.2 ++ (wSt cI u2.1 u2.2 ++ (wSt cI u1.1 u1.2 ++ (wSt cI u0.1 u0.2 ++ []))))))) H := hP
  have hD : va_D A ((v, .inr (1, [.ref x, .int 0])) :: (x, .inl (cS, 6, .inr (.inr (.inr (.inr (va_up (va_up (va_up (va_up (va_up (va_up (fun _ => none) (0 : Int32).toNatClampNeg (some q0)) (1 : Int32).toNatClampNeg (some q1)) (2 : Int32).toNatClampNeg (some q2)) (3 : Int32).toNatClampNeg (some q3)) (4 : Int32).toNatClampNeg (some q4)) (5 : Int32).toNatClampNeg (some q5))))))) :: (wSt cI u5.1 u5.2 ++ (wSt cI u4.1 u4.2 ++ (wSt cI u3.1 u3.2 ++ (wSt cI u2.1 u2.2 ++ (wSt cI u1.1 u1.2 ++ (wSt cI u0.1 u0.2 ++ []))))))) := hD
  refine lv_iinc (v := 6) (lv' := [(1, .int 6), (0, .ref v)]) hx hb dX1_init_37 hl (k := 0) rfl (by decide) (by decide) rfl (fun ls hl => ?_)
  refine lv_goto (tgt := 15) hx hb dX1_init_40 (by decide) ?_
  refine lv_iload_n hx hb dX1_init_15 rfl (lv_at hl 0 rfl) ?_
  refine lv_aload_n hx hb dX1_init_16 rfl (lv_at hl 1 rfl) ?_
  refine va_get (ci := 1) (v := .ref x) (C := RX1) (T := TX1) (N := 2) hx hb htb kin1 hown hK hP 0 rfl rfl 0 (by decide) (htb _ bw1_176) (fun _ h9 => h9) rfl dX1_init_17 ?_
  refine va_alen (v := 6) hx hb hK hP 1 1 rfl rfl rfl dX1_init_20 ?_
  refine lv_icmp_ge (tgt := 43) hx hb dX1_init_21 (by decide) (fun _ => ?_) (fun z => absurd (by decide) z)
  have hz : ∀ j : Nat, j < 6 → (va_up (va_up (va_up (va_up (va_up (va_up (fun _ => none) (0 : Int32).toNatClampNeg (some q0)) (1 : Int32).toNatClampNeg (some q1)) (2 : Int32).toNatClampNeg (some q2)) (3 : Int32).toNatClampNeg (some q3)) (4 : Int32).toNatClampNeg (some q4)) (5 : Int32).toNatClampNeg (some q5)) j = (fun i => some ((six u0.1 u1.1 u2.1 u3.1 u4.1 u5.1) i 0)) j := by
    intro j hj
    rcases (show j = 0 ∨ j = 1 ∨ j = 2 ∨ j = 3 ∨ j = 4 ∨ j = 5 by omega) with rfl | rfl | rfl | rfl | rfl | rfl
    · exact congrArg some hu0.1.symm
    · exact congrArg some hu1.1.symm
    · exact congrArg some hu2.1.symm
    · exact congrArg some hu3.1.symm
    · exact congrArg some hu4.1.symm
    · exact congrArg some hu5.1.symm
  have hP : va_P D vwCl ((v, .inr (1, [.ref x, .int 0])) :: (x, .inl (cS, 6, .inr (.inr (.inr (.inr (fun i => some ((six u0.1 u1.1 u2.1 u3.1 u4.1 u5.1) i 0))))))) :: (wSt cI u5.1 u5.2 ++ (wSt cI u4.1 u4.2 ++ (wSt cI u3.1 u3.2 ++ (wSt cI u2.1 u2.2 ++ (wSt cI u1.1 u1.2 ++ (wSt cI u0.1 u0.2 ++ []))))))) H := va_P.mem.mpr (fun y hy => by
    rcases List.mem_cons.mp hy with rfl | hy
    · exact va_P.mem.mp hP _ List.mem_cons_self
    · rcases List.mem_cons.mp hy with rfl | hy
      · exact va_at.ref hz (va_P.mem.mp hP _ (List.mem_cons_of_mem _ List.mem_cons_self))
      · exact va_P.mem.mp hP _ (List.mem_cons_of_mem _ (List.mem_cons_of_mem _ hy)))
  have hD : va_D A ((v, .inr (1, [.ref x, .int 0])) :: (x, .inl (cS, 6, .inr (.inr (.inr (.inr (fun i => some ((six u0.1 u1.1 u2.1 u3.1 u4.1 u5.1) i 0))))))) :: (wSt cI u5.1 u5.2 ++ (wSt cI u4.1 u4.2 ++ (wSt cI u3.1 u3.2 ++ (wSt cI u2.1 u2.2 ++ (wSt cI u1.1 u1.2 ++ (wSt cI u0.1 u0.2 ++ []))))))) := hD.adr rfl
  have pm : List.Perm ((v, .inr (1, [.ref x, .int 0])) :: (x, .inl (cS, 6, .inr (.inr (.inr (.inr (fun i => some ((six u0.1 u1.1 u2.1 u3.1 u4.1 u5.1) i 0))))))) :: (wSt cI u5.1 u5.2 ++ (wSt cI u4.1 u4.2 ++ (wSt cI u3.1 u3.2 ++ (wSt cI u2.1 u2.2 ++ (wSt cI u1.1 u1.2 ++ (wSt cI u0.1 u0.2 ++ [])))))) : va_W) (wHi cI cS v x (six u0.1 u1.1 u2.1 u3.1 u4.1 u5.1) ((0, fun i => i, six u0.2 u1.2 u2.2 u3.2 u4.2 u5.2) : Hg)) := by
    show List.Perm _ ((v, .inr (1, [.ref x, .int 0])) :: (x, .inl (cS, 6, .inr (.inr (.inr (.inr (fun i => some ((six u0.1 u1.1 u2.1 u3.1 u4.1 u5.1) i 0))))))) :: (wSt cI u0.1 u0.2 ++ (wSt cI u1.1 u1.2 ++ (wSt cI u2.1 u2.2 ++ (wSt cI u3.1 u3.2 ++ (wSt cI u4.1 u4.2 ++ wSt cI u5.1 u5.2))))) : va_W)
    refine List.Perm.cons _ (List.Perm.cons _ ?_)
    exact permc (fun i x => by simp only [List.count_append, List.count_nil]; omega)
  exact rt_C (wf := fun u : Nat × (Nat → Nat → Nat) × Hg => wHi cI cS v u.1 u.2.1 u.2.2) (x, six u0.1 u1.1 u2.1 u3.1 u4.1 u5.1, ((0, fun i => i, six u0.2 u1.2 u2.2 u3.2 u4.2 u5.2) : Hg)) hx hb hr hlocks hS (va_P.perm pm hP) (va_D.perm pm hD) ⟨rfl, by omega, fun i hi => hi, fun i j _ _ h => h, fun k hk => by omega⟩ dX1_init_43

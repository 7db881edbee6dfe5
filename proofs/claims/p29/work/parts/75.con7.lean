/-! Calls where cells have been made; the empty venue; Venue() -/
theorem permc {α : Type} {l l' : List α} (h : ∀ (i : DecidableEq α) (a : α), l.count a = l'.count a) : l.Perm l' := by
  letI : DecidableEq α := fun a b => Classical.propDecidable (a = b)
  exact List.perm_iff_count.mpr (fun a => h _ a)
section CLX
variable {p : Program} {l : Launch} {e : Env} {R : Room} {s : State} {m : MethodId} {args : Array Value} {below : List Frame} {meth : Method} {c : Code} {H : Heap} {locs : List Loc} {cc : ByteArray} {pc : Nat} {ls : Array Slot} {A : Nat → Prop} {D : va_G} {Q : State → Prop} {cells slots : Nat}
variable {y : MethodName} {ws Ts : List Cond} {rm : Room} {cI cS : ClassId} {g : Nat → Nat} {b : Nat} {As : List Value} {W0 w w' W1 : va_W} {r : Int32} {own C : String} {index maxL nL n : Nat} {bytes : ByteArray} {ret : Option FieldType} {st rest : List Value}
theorem clx_VI (S : CallFix p m c cc nL s args Ts own) (hM : mI l y ws rm D cI cS g (.ref b :: As) w r w') (cw : CallW R s args own C index y bytes maxL ret ws rm 0 0 n)
    (hK : va_K D vwCl (tI cI cS) s) (hD : va_D A W0) (hG : GG g A s s.heap) (hA : ∀ q : Nat, s.heap.size ≤ q → A q) (hP : va_P D vwCl W0 H) (hS : va_S A s.heap H locs) (hsg : Sg W0 w w' W1)
    (hsz : ls.size = nL) (hn : As.length = n) (q0 : Nat) {ci : Nat} {fs : List Value} {T : u_T} {N : Nat} (hrc : w[q0]? = some (b, .inr (ci, fs))) (hcl : vwCl[ci]? = some (C, T, N))
    (hst : st = As.reverse ++ .ref b :: rest) (hW : (rest.map fun v => v.category).sum ≤ 8) (hf : cells ≤ R.cells ∧ slots ≤ R.slots) (hdg : decode cc pc = .ok (.invokevirtual index, 3))
    (kk : ∀ (H1 : Heap) (locs1 : List Loc), va_P D vwCl W1 H1 → va_S A s.heap H1 locs1 → W p l e R s m args below meth c H1 locs1 cells slots Q (F0 m (pc + 3) ls (.int r :: rest))) : W p l e R s m args below meth c H locs cells slots Q (F0 m pc ls st) := by
  obtain ⟨hF, hPc, hB⟩ := cl_pre (w := w) hK hD hG hA hP hS hsg
  subst hst
  refine va_calli (va_runV (As := As) (rest := rest) S (hM H.size) cw ⟨bP_blind, va_recv hK hPc (ci := ci) (q0 := q0) hcl hrc, fun U hU hW => ⟨rfl, hB U hU hW⟩⟩ rfl hn hsz rfl (lv_room hW) hdg hf) hS (fun q _ h => hF q h) hF (fun r1 u t H1 locs1 ht hvm hw hb1 hz1 hk1 hS1 => ?_)
  subst hw
  rw [ht] at hb1
  exact kk H1 locs1 (hsg.put hP hD hk1 hb1) hS1
theorem clx_VV (S : CallFix p m c cc nL s args Ts own) (hM : mV l y ws rm D cI cS g (.ref b :: As) w w') (cw : CallW R s args own C index y bytes maxL ret ws rm 0 0 n)
    (hK : va_K D vwCl (tI cI cS) s) (hD : va_D A W0) (hG : GG g A s s.heap) (hA : ∀ q : Nat, s.heap.size ≤ q → A q) (hP : va_P D vwCl W0 H) (hS : va_S A s.heap H locs) (hsg : Sg W0 w w' W1)
    (hsz : ls.size = nL) (hn : As.length = n) (q0 : Nat) {ci : Nat} {fs : List Value} {T : u_T} {N : Nat} (hrc : w[q0]? = some (b, .inr (ci, fs))) (hcl : vwCl[ci]? = some (C, T, N))
    (hst : st = As.reverse ++ .ref b :: rest) (hW : (rest.map fun v => v.category).sum ≤ 8) (hf : cells ≤ R.cells ∧ slots ≤ R.slots) (hdg : decode cc pc = .ok (.invokevirtual index, 3))
    (kk : ∀ (H1 : Heap) (locs1 : List Loc), va_P D vwCl W1 H1 → va_S A s.heap H1 locs1 → W p l e R s m args below meth c H1 locs1 cells slots Q (F0 m (pc + 3) ls rest)) : W p l e R s m args below meth c H locs cells slots Q (F0 m pc ls st) := by
  obtain ⟨hF, hPc, hB⟩ := cl_pre (w := w) hK hD hG hA hP hS hsg
  subst hst
  refine va_callv (va_runV (As := As) (rest := rest) S (hM H.size) cw ⟨bP_blind, va_recv hK hPc (ci := ci) (q0 := q0) hcl hrc, fun U hU hW => ⟨rfl, hB U hU hW⟩⟩ rfl hn hsz rfl (lv_room hW) hdg hf) hS (fun q _ h => hF q h) hF (fun u t H1 locs1 ht hvm hw hb1 hz1 hk1 hS1 => ?_)
  rw [ht] at hb1
  exact kk H1 locs1 (hsg.put hP hD hk1 hb1) hS1
end CLX
def z20 : Int → Int → Int := fun _ _ => 0
def fst0 (k : Int) : Int := if k = 0 then 2 else if k = 1 then 10 else if k = 2 then 5 else if k = 3 then 15 else 20
def A00 : Ab := mkA z20 z20 z20 fst0 (fun _ => []) (fun _ => 0) (fun _ => 0) 0 0 0 0
theorem W00 : WF 0 A00 := by
  refine ⟨?_, ?_, ?_, ?_, ?_, ?_, ?_, ?_⟩
  · show (0 : Int) ≤ 0 ∧ (0 : Int) ≤ 4 ∧ (0 : Int) ≤ 0 ∧ (0 : Int) ≤ 16 ∧ (0 : Int) ≤ 0 ∧ (0 : Int) ≤ 8 ∧ (0 : Int) ≤ 0 ∧ (0 : Int) ≤ 80000
    omega
  · show 0 ≤ fst0 0 ∧ fst0 0 ≤ 10 ∧ 0 ≤ fst0 1 ∧ fst0 1 ≤ 30 ∧ 0 ≤ fst0 2 ∧ fst0 2 ≤ 20 ∧ 0 ≤ fst0 3 ∧ fst0 3 ≤ 60 ∧ 0 ≤ fst0 4 ∧ fst0 4 ≤ 50
    decide
  · intro r h1 (h2 : r < 0); omega
  · intro r h1 (h2 : r < 0); omega
  · intro r h1 (h2 : r < 0); omega
  · intro r h1 (h2 : r < 0); omega
  · intro i j q h1 (h2 : i < 0); omega
  · intro i j h1 (h2 : i < 0); omega
theorem RepX00 {V : Vn} (h1 : V.1.1 = iI 0) (h2 : V.2.1.1 = iI 0) (h3 : V.2.2.1.1 = iI 0) (h4 : V.2.2.2.1.1 = iI 0) (h5 : V.2.2.2.2.1.1 = iI 5) (h6 : V.2.2.2.2.2 = iI 0) (hs : ∀ k : Int, 0 ≤ k → k < 5 → V.2.2.2.2.1.2 (k * 1 + 0).toNat = iI (fst0 k)) : RepX V A00 := by
  refine ⟨h1, h2, h3, h5, h6, ?_, ?_, ?_, hs, 0, fun _ => 0, fun _ => 0, fun _ => 0, h4, Int.le_refl 0, Int.le_refl 0, ?_, ?_, ?_⟩
  · intro r c q1 (q2 : r < 0); omega
  · intro r c q1 (q2 : r < 0); omega
  · intro r c q1 (q2 : r < 0); omega
  · intro j j0 j1; omega
  · intro i j i0 i1; omega
  · intro i k i0 (i1 : i < 0); omega
theorem xFst {j : Int} (h1 : 0 ≤ j) (h2 : j < 5) : fstS.getD (iI j).toNatClampNeg 0 = iI (fst0 j) := by
  rcases (show j = 0 ∨ j = 1 ∨ j = 2 ∨ j = 3 ∨ j = 4 by omega) with rfl | rfl | rfl | rfl | rfl <;> rfl
def ad11 (v q1 c1 q2 c2 q3 c3 q4 c4 q5 c5 : Nat) : Nat → Nat := fun k => [v, q1, c1, q2, c2, q3, c3, q4, c4, q5, c5].getD k 0
abbrev vX7_init : List Cond := Cond.code yX7_init cX7_init 2 none :: BIG
theorem gX7_init : GoodIn BIG vX7_init := gdN bw1_30
theorem hdX7_init : yX7_init.cls ≠ "java/lang/invoke/MethodHandle" ∧ yX7_init.cls ≠ "java/lang/invoke/VarHandle" ∧ (parseMethodDescriptor yX7_init.desc).map (fun d => d.parameters.length) = some 0 := by decide +kernel
def rmX7_init : Room := { frames := 2, cells := 10, slots := 309, locals := 60 }
set_option maxHeartbeats 8000000 in
set_option maxRecDepth 100000 in
theorem kX7_init (l : Launch) (D : va_G) (cS : ClassId) (g : Nat → Nat) (cI : ClassId) (v : Nat) : mC l yX7_init vX7_init rmX7_init D cI cS g [.ref v] [(v, .inr (7, [.null, .null, .null, .null, .null, .int 0]))] (fun u : (Nat → Nat) × Vn => u.1 0 = v ∧ RepX u.2 A00) (fun u => wVn cI u.1 u.2) 10 309 := by
  refine st_C rfl (by decide) rfl (Nat.le_of_ble_eq_true rfl) ?_
  intro p e s m args below meth c A ls hx hb hr hml hlocks hin hown hts hA hK hD hG hO hP hS hl
  have hown : s.vm.findClass RX7 = some m.cls := hown
  have htb : ∀ w ∈ BIG, w.before args s = true := fun w h => hts w (List.mem_cons_of_mem _ h)
  have hl : lv_has ls 2 [(0, .ref v)] := hl
  have loop : ∀ (n : Nat) (j : Int) (a : Nat → Nat) (T1 T2 T3 T4 T : Tb) (H : Heap) (locs : List Loc) (ls : Array Slot), 0 ≤ j → j + n = 5 → a 0 = v → T1.1 = iI 0 → T2.1 = iI 0 → T3.1 = iI 0 → T4.1 = iI 0 → T.1 = iI j → (∀ k : Int, 0 ≤ k → k < j → T.2 (k * 1 + 0).toNat = iI (fst0 k)) → va_P D vwCl (wVn cI a (T1, T2, T3, T4, T, iI 0)) H → va_D A (wVn cI a (T1, T2, T3, T4, T, iI 0)) → va_S A s.heap H locs → lv_has ls 2 [(0, .ref v), (1, .int (iI j))] → W p l e rmX7_init s m args below meth c H locs 10 309 (MQ below (qC D (fun u : (Nat → Nat) × Vn => u.1 0 = v ∧ RepX u.2 A00) (fun u => wVn cI u.1 u.2) A) args s 10 309 A) (F0 m 79 ls []) := by
    intro n
    induction n with
    | zero =>
      intro j a T1 T2 T3 T4 T H locs ls j0 j1 ha h1 h2 h3 h4 hT hc hP hD hS hl
      obtain rfl : j = 5 := by omega
      refine lv_iload_n hx hb dX7_init_79 rfl (lv_at hl 1 rfl) ?_
      refine va_getsN hx hb hG.1.1 hS hown (va_Nw.use rfl hG.2.2.2.2.2) (fun _ h9 => h9) dX7_init_80 ?_
      refine va_tlen (v := 5) hx hb hG.1.2 hS rfl dX7_init_83 ?_
      refine lv_icmp_ge (tgt := 113) hx hb dX7_init_84 (by decide) (fun _ => ?_) (fun z => absurd (by decide) z)
      exact rt_C (wf := fun u : (Nat → Nat) × Vn => wVn cI u.1 u.2) (a, (T1, T2, T3, T4, T, iI 0)) hx hb hr hlocks hS hP hD ⟨ha, RepX00 h1 h2 h3 h4 hT rfl hc⟩ dX7_init_113
    | succ n ih =>
      intro j a T1 T2 T3 T4 T H locs ls j0 j1 ha h1 h2 h3 h4 hT hc hP hD hS hl
      refine lv_iload_n hx hb dX7_init_79 rfl (lv_at hl 1 rfl) ?_
      refine va_getsN hx hb hG.1.1 hS hown (va_Nw.use rfl hG.2.2.2.2.2) (fun _ h9 => h9) dX7_init_80 ?_
      refine va_tlen (v := 5) hx hb hG.1.2 hS rfl dX7_init_83 ?_
      refine lv_icmp_ge (tgt := 113) hx hb dX7_init_84 (by decide) (fun z => absurd z (fun z => by rw [show (5 : Int32) = iI 5 from rfl, iLe (by omega) (by omega) (by omega) (by omega)] at z; omega)) (fun _ => ?_)
      have e0 : (wVn cI a (T1, T2, T3, T4, T, iI 0))[0]? = some (v, .inr (7, [.ref (a 1), .ref (a 3), .ref (a 5), .ref (a 7), .ref (a 9), .int (iI 0)])) := by rw [← ha]; rfl
      refine lv_aload_n hx hb dX7_init_87 rfl (lv_at hl 0 rfl) ?_
      refine va_get (ci := 7) (v := .ref (a 9)) (C := RX7) (T := TX7) (N := 6) hx hb htb kin7 hown hK hP 0 e0 rfl 4 (by decide) (htb _ bw1_84) (fun _ h9 => h9) rfl dX7_init_88 ?_
      refine lv_aload_n hx hb dX7_init_91 rfl (lv_at hl 0 rfl) ?_
      refine va_get (ci := 7) (v := .ref (a 9)) (C := RX7) (T := TX7) (N := 6) hx hb htb kin7 hown hK hP 0 e0 rfl 4 (by decide) (htb _ bw1_84) (fun _ h9 => h9) rfl dX7_init_92 ?_
      obtain ⟨g0, g1, g2, g3⟩ := addI (tn := 5) (cap := 5) (w := 1) (b := j * 1) hT j0 (by omega) (by omega) (by omega) (by omega) (by omega) (fun T c hT c0 c1 => putI1 hT (by omega) (by omega) (by omega) c0 c1)
      refine clx_VI ⟨hx, hb, hml, hown, htb⟩ (kX6_addRow l D cS g cI (a 9) (a 10) 5 5 1 T _ _ g1) (cwV 0 htb (gX6_addRow bw1_57) rfl rfl rfl hdX6_addRow ⟨Nat.le_of_ble_eq_true rfl, Nat.le_of_ble_eq_true rfl⟩) hK hD hG hA hP hS (sg_Vn_settings cI a (T1, T2, T3, T4, T, iI 0) _) hl.1 rfl 0 (pTb_0 _ _ _ _ _ _ _) rfl rfl (Nat.le_of_ble_eq_true rfl) ⟨Nat.le_of_ble_eq_true rfl, Nat.le_of_ble_eq_true rfl⟩ dX7_init_95 (fun H locs hP hS => ?_)
      have hD := hD.adr (w' := wVn cI a (T1, T2, T3, T4, (iI (j + 1), g0), iI 0)) rfl
      refine lv_iconst (v := 0) hx hb dX7_init_98 (by decide) ?_
      refine va_getsN hx hb hG.1.1 hS hown (va_Nw.use rfl hG.2.2.2.2.2) (fun _ h9 => h9) dX7_init_99 ?_
      refine lv_iload_n hx hb dX7_init_102 rfl (lv_at hl 1 rfl) ?_
      refine va_ti hx hb hG.1.2 hS (v := .int (iI (fst0 j))) (i := iI j) (fun z => ?_) (congrArg Value.int (xFst j0 (by omega))) dX7_init_103 ?_
      · rcases z with z | z
        · rw [show (0 : Int32) = iI 0 from rfl, iLt (by omega) (by omega) (by omega) (by omega)] at z; omega
        · rw [iNat j0 (by omega)] at z; omega
      have p1 := putI1 (T := (iI (j + 1), g0)) (u := j + 1) (r := j) (c := 0) (x := iI (fst0 j)) rfl (by omega) j0 (by omega) (by omega) (by omega)
      refine clx_VV ⟨hx, hb, hml, hown, htb⟩ (kX6_put l D cS g cI (a 9) (a 10) 5 5 1 (iI (j + 1), g0) (iI j) 0 (iI (fst0 j)) _ p1) (cwV 3 htb (gX6_put bw1_69) rfl rfl rfl hdX6_put ⟨Nat.le_of_ble_eq_true rfl, Nat.le_of_ble_eq_true rfl⟩) hK hD hG hA hP hS (sg_Vn_settings cI a (T1, T2, T3, T4, (iI (j + 1), g0), iI 0) _) hl.1 rfl 0 (pTb_0 _ _ _ _ _ _ _) rfl rfl (Nat.le_of_ble_eq_true rfl) ⟨Nat.le_of_ble_eq_true rfl, Nat.le_of_ble_eq_true rfl⟩ dX7_init_104 (fun H locs hP hS => ?_)
      have hD := hD.adr (w' := wVn cI a (T1, T2, T3, T4, (iI (j + 1), upd g0 (j * 1 + 0).toNat (iI (fst0 j))), iI 0)) rfl
      refine lv_iinc (v := iI (j + 1)) (lv' := [(1, .int (iI (j + 1))), (0, .ref v)]) hx hb dX7_init_107 hl (k := 1) rfl (iA j 1) (by decide) rfl (fun ls hl => ?_)
      refine lv_goto (tgt := 79) hx hb dX7_init_110 (by decide) ?_
      exact ih (j + 1) a T1 T2 T3 T4 _ H locs ls (by omega) (by omega) ha h1 h2 h3 h4 rfl (fun k k0 k1 => by
        show upd g0 (j * 1 + 0).toNat (iI (fst0 j)) (k * 1 + 0).toNat = _
        by_cases e : k = j
        · rw [e, ud_s]
        · rw [ud_n (by omega), g2 _ (by omega)]
          exact hc k k0 (by omega)) hP hD hS (lv_sub hl [1, 0] rfl)
  refine lv_aload_n hx hb dX7_init_0 rfl (lv_at hl 0 rfl) ?_
  refine ob_I hx hb hown (htb _ bw1_31) (htb _ bw1_18) (htb _ bw1_19) (hl.1.trans hml.symm) dX7_init_1 (Nat.le_of_ble_eq_true rfl) (Nat.le_of_ble_eq_true rfl) ?_
  refine lv_aload_n hx hb dX7_init_4 rfl (lv_at hl 0 rfl) ?_
  refine va_new (ci := 6) (fs := [.null, .int 0, .int 0, .int 0]) (C := RX6) (T := TX6) (N := 4) hx hb htb kin6 tyX6 tyX6_ok hown (htb _ bw1_32) (htb _ bw1_33) (htb _ bw1_4) hK hP hD hS hA rfl (fun j hj => by rcases (show j = 0 ∨ j = 1 ∨ j = 2 ∨ j = 3 by omega) with rfl | rfl | rfl | rfl <;> rfl) (Nat.le_of_ble_eq_true rfl) (Nat.le_of_ble_eq_true rfl) dX7_init_5 (fun q1 H hP hD hS => ?_)
  have hP := va_P.perm List.perm_append_comm hP
  have hD := va_D.perm List.perm_append_comm hD
  refine lv_dup hx hb dX7_init_8 rfl ?_
  refine lv_iconst (v := 4) hx hb dX7_init_9 (by decide) ?_
  refine lv_bipush (v := 11) hx hb dX7_init_10 (by decide) ?_
  refine cl_C ⟨hx, hb, hml, hown, htb⟩ (kX6_init l D cS g cI q1 44 4 11 (by decide) (by decide) (by decide) (by decide) (by decide)) (cwI 2 htb gX6_init rfl rfl rfl (htb _ bw1_4) (htb _ bw1_34) (htb _ bw1_35) rfl hdX6_init ⟨Nat.le_of_ble_eq_true rfl, Nat.le_of_ble_eq_true rfl⟩) hK hD hG hO hA hP hS hl.1 rfl rfl (Nat.le_of_ble_eq_true rfl) ⟨Nat.le_of_ble_eq_true rfl, Nat.le_of_ble_eq_true rfl⟩ dX7_init_12 (fun c1 H locs _ hP hD hS => ?_)
  have hP := va_P.perm List.perm_middle hP
  have hD := va_D.perm List.perm_middle hD
  refine va_putF (D := D) (ci := 7) (v := .ref q1) (ty := .object "TeamRooms$Table") (C := RX7) (T := TX7) (N := 6) hx hb htb kin7 tyX7 tyX7_ok nmX7 hown hK hP hD hS 0 rfl rfl 0 (by decide) (htb _ bw1_72) (fun _ h9 => h9) rfl hin rfl (by decide +kernel) rfl rfl (Nat.le_of_ble_eq_true rfl) dX7_init_15 (fun H locs hP hD hS => ?_)
  have hP : va_P D vwCl ((v, .inr (7, [.ref q1, .null, .null, .null, .null, .int 0])) :: (wTb cI q1 c1 44 4 11 (0, fun _ => 0) ++ [])) H := hP
  have hD : va_D A ((v, .inr (7, [.ref q1, .null, .null, .null, .null, .int 0])) :: (wTb cI q1 c1 44 4 11 (0, fun _ => 0) ++ [])) := hD
  refine lv_aload_n hx hb dX7_init_18 rfl (lv_at hl 0 rfl) ?_
  refine va_new (ci := 6) (fs := [.null, .int 0, .int 0, .int 0]) (C := RX6) (T := TX6) (N := 4) hx hb htb kin6 tyX6 tyX6_ok hown (htb _ bw1_32) (htb _ bw1_33) (htb _ bw1_4) hK hP hD hS hA rfl (fun j hj => by rcases (show j = 0 ∨ j = 1 ∨ j = 2 ∨ j = 3 by omega) with rfl | rfl | rfl | rfl <;> rfl) (Nat.le_of_ble_eq_true rfl) (Nat.le_of_ble_eq_true rfl) dX7_init_19 (fun q2 H hP hD hS => ?_)
  have hP := va_P.perm List.perm_append_comm hP
  have hD := va_D.perm List.perm_append_comm hD
  refine lv_dup hx hb dX7_init_22 rfl ?_
  refine lv_bipush (v := 16) hx hb dX7_init_23 (by decide) ?_
  refine lv_bipush (v := 10) hx hb dX7_init_25 (by decide) ?_
  refine cl_C ⟨hx, hb, hml, hown, htb⟩ (kX6_init l D cS g cI q2 160 16 10 (by decide) (by decide) (by decide) (by decide) (by decide)) (cwI 2 htb gX6_init rfl rfl rfl (htb _ bw1_4) (htb _ bw1_34) (htb _ bw1_35) rfl hdX6_init ⟨Nat.le_of_ble_eq_true rfl, Nat.le_of_ble_eq_true rfl⟩) hK hD hG hO hA hP hS hl.1 rfl rfl (Nat.le_of_ble_eq_true rfl) ⟨Nat.le_of_ble_eq_true rfl, Nat.le_of_ble_eq_true rfl⟩ dX7_init_27 (fun c2 H locs _ hP hD hS => ?_)
  have hP := va_P.perm List.perm_middle hP
  have hD := va_D.perm List.perm_middle hD
  refine va_putF (D := D) (ci := 7) (v := .ref q2) (ty := .object "TeamRooms$Table") (C := RX7) (T := TX7) (N := 6) hx hb htb kin7 tyX7 tyX7_ok nmX7 hown hK hP hD hS 0 rfl rfl 1 (by decide) (htb _ bw1_76) (fun _ h9 => h9) rfl hin rfl (by decide +kernel) rfl rfl (Nat.le_of_ble_eq_true rfl) dX7_init_30 (fun H locs hP hD hS => ?_)
  have hP : va_P D vwCl ((v, .inr (7, [.ref q1, .ref q2, .null, .null, .null, .int 0])) :: (wTb cI q2 c2 160 16 10 (0, fun _ => 0) ++ (wTb cI q1 c1 44 4 11 (0, fun _ => 0) ++ []))) H := hP
  have hD : va_D A ((v, .inr (7, [.ref q1, .ref q2, .null, .null, .null, .int 0])) :: (wTb cI q2 c2 160 16 10 (0, fun _ => 0) ++ (wTb cI q1 c1 44 4 11 (0, fun _ => 0) ++ []))) := hD
  refine lv_aload_n hx hb dX7_init_33 rfl (lv_at hl 0 rfl) ?_
  refine va_new (ci := 6) (fs := [.null, .int 0, .int 0, .int 0]) (C := RX6) (T := TX6) (N := 4) hx hb htb kin6 tyX6 tyX6_ok hown (htb _ bw1_32) (htb _ bw1_33) (htb _ bw1_4) hK hP hD hS hA rfl (fun j hj => by rcases (show j = 0 ∨ j = 1 ∨ j = 2 ∨ j = 3 by omega) with rfl | rfl | rfl | rfl <;> rfl) (Nat.le_of_ble_eq_true rfl) (Nat.le_of_ble_eq_true rfl) dX7_init_34 (fun q3 H hP hD hS => ?_)
  have hP := va_P.perm List.perm_append_comm hP
  have hD := va_D.perm List.perm_append_comm hD
  refine lv_dup hx hb dX7_init_37 rfl ?_
  refine lv_bipush (v := 8) hx hb dX7_init_38 (by decide) ?_
  refine lv_iconst (v := 2) hx hb dX7_init_40 (by decide) ?_
  refine cl_C ⟨hx, hb, hml, hown, htb⟩ (kX6_init l D cS g cI q3 16 8 2 (by decide) (by decide) (by decide) (by decide) (by decide)) (cwI 2 htb gX6_init rfl rfl rfl (htb _ bw1_4) (htb _ bw1_34) (htb _ bw1_35) rfl hdX6_init ⟨Nat.le_of_ble_eq_true rfl, Nat.le_of_ble_eq_true rfl⟩) hK hD hG hO hA hP hS hl.1 rfl rfl (Nat.le_of_ble_eq_true rfl) ⟨Nat.le_of_ble_eq_true rfl, Nat.le_of_ble_eq_true rfl⟩ dX7_init_41 (fun c3 H locs _ hP hD hS => ?_)
  have hP := va_P.perm List.perm_middle hP
  have hD := va_D.perm List.perm_middle hD
  refine va_putF (D := D) (ci := 7) (v := .ref q3) (ty := .object "TeamRooms$Table") (C := RX7) (T := TX7) (N := 6) hx hb htb kin7 tyX7 tyX7_ok nmX7 hown hK hP hD hS 0 rfl rfl 2 (by decide) (htb _ bw1_79) (fun _ h9 => h9) rfl hin rfl (by decide +kernel) rfl rfl (Nat.le_of_ble_eq_true rfl) dX7_init_44 (fun H locs hP hD hS => ?_)
  have hP : va_P D vwCl ((v, .inr (7, [.ref q1, .ref q2, .ref q3, .null, .null, .int 0])) :: (wTb cI q3 c3 16 8 2 (0, fun _ => 0) ++ (wTb cI q2 c2 160 16 10 (0, fun _ => 0) ++ (wTb cI q1 c1 44 4 11 (0, fun _ => 0) ++ [])))) H := hP
  have hD : va_D A ((v, .inr (7, [.ref q1, .ref q2, .ref q3, .null, .null, .int 0])) :: (wTb cI q3 c3 16 8 2 (0, fun _ => 0) ++ (wTb cI q2 c2 160 16 10 (0, fun _ => 0) ++ (wTb cI q1 c1 44 4 11 (0, fun _ => 0) ++ [])))) := hD
  refine lv_aload_n hx hb dX7_init_47 rfl (lv_at hl 0 rfl) ?_
  refine va_new (ci := 6) (fs := [.null, .int 0, .int 0, .int 0]) (C := RX6) (T := TX6) (N := 4) hx hb htb kin6 tyX6 tyX6_ok hown (htb _ bw1_32) (htb _ bw1_33) (htb _ bw1_4) hK hP hD hS hA rfl (fun j hj => by rcases (show j = 0 ∨ j = 1 ∨ j = 2 ∨ j = 3 by omega) with rfl | rfl | rfl | rfl <;> rfl) (Nat.le_of_ble_eq_true rfl) (Nat.le_of_ble_eq_true rfl) dX7_init_48 (fun q4 H hP hD hS => ?_)
  have hP := va_P.perm List.perm_append_comm hP
  have hD := va_D.perm List.perm_append_comm hD
  refine lv_dup hx hb dX7_init_51 rfl ?_
  refine lv_bipush (v := 16) hx hb dX7_init_52 (by decide) ?_
  refine lv_iconst (v := 4) hx hb dX7_init_54 (by decide) ?_
  refine cl_C ⟨hx, hb, hml, hown, htb⟩ (kX6_init l D cS g cI q4 64 16 4 (by decide) (by decide) (by decide) (by decide) (by decide)) (cwI 2 htb gX6_init rfl rfl rfl (htb _ bw1_4) (htb _ bw1_34) (htb _ bw1_35) rfl hdX6_init ⟨Nat.le_of_ble_eq_true rfl, Nat.le_of_ble_eq_true rfl⟩) hK hD hG hO hA hP hS hl.1 rfl rfl (Nat.le_of_ble_eq_true rfl) ⟨Nat.le_of_ble_eq_true rfl, Nat.le_of_ble_eq_true rfl⟩ dX7_init_55 (fun c4 H locs _ hP hD hS => ?_)
  have hP := va_P.perm List.perm_middle hP
  have hD := va_D.perm List.perm_middle hD
  refine va_putF (D := D) (ci := 7) (v := .ref q4) (ty := .object "TeamRooms$Table") (C := RX7) (T := TX7) (N := 6) hx hb htb kin7 tyX7 tyX7_ok nmX7 hown hK hP hD hS 0 rfl rfl 3 (by decide) (htb _ bw1_82) (fun _ h9 => h9) rfl hin rfl (by decide +kernel) rfl rfl (Nat.le_of_ble_eq_true rfl) dX7_init_58 (fun H locs hP hD hS => ?_)
  have hP : va_P D vwCl ((v, .inr (7, [.ref q1, .ref q2, .ref q3, .ref q4, .null, .int 0])) :: (wTb cI q4 c4 64 16 4 (0, fun _ => 0) ++ (wTb cI q3 c3 16 8 2 (0, fun _ => 0) ++ (wTb cI q2 c2 160 16 10 (0, fun _ => 0) ++ (wTb cI q1 c1 44 4 11 (0, fun _ => 0) ++ []))))) H := hP
  have hD : va_D A ((v, .inr (7, [.ref q1, .ref q2, .ref q3, .ref q4, .null, .int 0])) :: (wTb cI q4 c4 64 16 4 (0, fun _ => 0) ++ (wTb cI q3 c3 16 8 2 (0, fun _ => 0) ++ (wTb cI q2 c2 160 16 10 (0, fun _ => 0) ++ (wTb cI q1 c1 44 4 11 (0, fun _ => 0) ++ []))))) := hD
  refine lv_aload_n hx hb dX7_init_61 rfl (lv_at hl 0 rfl) ?_
  refine va_new (ci := 6) (fs := [.null, .int 0, .int 0, .int 0]) (C := RX6) (T := TX6) (N := 4) hx hb htb kin6 tyX6 tyX6_ok hown (htb _ bw1_32) (htb _ bw1_33) (htb _ bw1_4) hK hP hD hS hA rfl (fun j hj => by rcases (show j = 0 ∨ j = 1 ∨ j = 2 ∨ j = 3 by omega) with rfl | rfl | rfl | rfl <;> rfl) (Nat.le_of_ble_eq_true rfl) (Nat.le_of_ble_eq_true rfl) dX7_init_62 (fun q5 H hP hD hS => ?_)
  have hP := va_P.perm List.perm_append_comm hP
  have hD := va_D.perm List.perm_append_comm hD
  refine lv_dup hx hb dX7_init_65 rfl ?_
  refine va_getsN hx hb hG.1.1 hS hown (va_Nw.use rfl hG.2.2.2.2.2) (fun _ h9 => h9) dX7_init_66 ?_
  refine va_tlen (v := 5) hx hb hG.1.2 hS rfl dX7_init_69 ?_
  refine lv_iconst (v := 1) hx hb dX7_init_70 (by decide) ?_
  refine cl_C ⟨hx, hb, hml, hown, htb⟩ (kX6_init l D cS g cI q5 5 5 1 (by decide) (by decide) (by decide) (by decide) (by decide)) (cwI 2 htb gX6_init rfl rfl rfl (htb _ bw1_4) (htb _ bw1_34) (htb _ bw1_35) rfl hdX6_init ⟨Nat.le_of_ble_eq_true rfl, Nat.le_of_ble_eq_true rfl⟩) hK hD hG hO hA hP hS hl.1 rfl rfl (Nat.le_of_ble_eq_true rfl) ⟨Nat.le_of_ble_eq_true rfl, Nat.le_of_ble_eq_true rfl⟩ dX7_init_71 (fun c5 H locs _ hP hD hS => ?_)
  have hP := va_P.perm List.perm_middle hP
  have hD := va_D.perm List.perm_middle hD
  refine va_putF (D := D) (ci := 7) (v := .ref q5) (ty := .object "TeamRooms$Table") (C := RX7) (T := TX7) (N := 6) hx hb htb kin7 tyX7 tyX7_ok nmX7 hown hK hP hD hS 0 rfl rfl 4 (by decide) (htb _ bw1_84) (fun _ h9 => h9) rfl hin rfl (by decide +kernel) rfl rfl (Nat.le_of_ble_eq_true rfl) dX7_init_74 (fun H locs hP hD hS => ?_)
  have hP : va_P D vwCl ((v, .inr (7, [.ref q1, .ref q2, .ref q3, .ref q4, .ref q5, .int 0])) :: (wTb cI q5 c5 5 5 1 (0, fun _ => 0) ++ (wTb cI q4 c4 64 16 4 (0, fun _ => 0) ++ (wTb cI q3 c3 16 8 2 (0, fun _ => 0) ++ (wTb cI q2 c2 160 16 10 (0, fun _ => 0) ++ (wTb cI q1 c1 44 4 11 (0, fun _ => 0) ++ [])))))) H := hP
  have hD : va_D A ((v, .inr (7, [.ref q1, .ref q2, .ref q3, .ref q4, .ref q5, .int 0])) :: (wTb cI q5 c5 5 5 1 (0, fun _ => 0) ++ (wTb cI q4 c4 64 16 4 (0, fun _ => 0) ++ (wTb cI q3 c3 16 8 2 (0, fun _ => 0) ++ (wTb cI q2 c2 160 16 10 (0, fun _ => 0) ++ (wTb cI q1 c1 44 4 11 (0, fun _ => 0) ++ [])))))) := hD
  have pm : List.Perm ((v, .inr (7, [.ref q1, .ref q2, .ref q3, .ref q4, .ref q5, .int 0])) :: (wTb cI q5 c5 5 5 1 (0, fun _ => 0) ++ (wTb cI q4 c4 64 16 4 (0, fun _ => 0) ++ (wTb cI q3 c3 16 8 2 (0, fun _ => 0) ++ (wTb cI q2 c2 160 16 10 (0, fun _ => 0) ++ (wTb cI q1 c1 44 4 11 (0, fun _ => 0) ++ []))))) : va_W) (wVn cI (ad11 v q1 c1 q2 c2 q3 c3 q4 c4 q5 c5) ((0, fun _ => 0), (0, fun _ => 0), (0, fun _ => 0), (0, fun _ => 0), (0, fun _ => 0), iI 0)) := by
    show List.Perm _ ((v, .inr (7, [.ref q1, .ref q2, .ref q3, .ref q4, .ref q5, .int 0])) :: (wTb cI q1 c1 44 4 11 (0, fun _ => 0) ++ wTb cI q2 c2 160 16 10 (0, fun _ => 0) ++ wTb cI q3 c3 16 8 2 (0, fun _ => 0) ++ wTb cI q4 c4 64 16 4 (0, fun _ => 0) ++ wTb cI q5 c5 5 5 1 (0, fun _ => 0)) : va_W)
    exact permc (fun i x => by simp only [List.count_append, List.count_cons, List.count_nil]; omega)
  have hP := va_P.perm pm hP
  have hD := va_D.perm pm hD
  refine lv_iconst (v := 0) hx hb dX7_init_77 (by decide) ?_
  refine lv_istore_n (lv' := [(1, .int 0), (0, .ref v)]) hx hb dX7_init_78 rfl hl (by decide) rfl (fun ls hl => ?_)
  exact loop 5 0 _ _ _ _ _ _ H _ _ (by omega) (by omega) rfl rfl rfl rfl rfl rfl (fun k k0 k1 => by omega) hP hD hS (lv_sub hl [1, 0] rfl)

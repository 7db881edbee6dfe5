/-! Table(capacity, width) -/
abbrev vX6_init : List Cond := Cond.code yX6_init cX6_init 4 none :: BIG
theorem gX6_init : GoodIn BIG vX6_init := gdN bw1_36
theorem hdX6_init : yX6_init.cls ≠ "java/lang/invoke/MethodHandle" ∧ yX6_init.cls ≠ "java/lang/invoke/VarHandle" ∧ (parseMethodDescriptor yX6_init.desc).map (fun d => d.parameters.length) = some 2 := by decide +kernel
def rmX6_init (tn : Nat) : Room := { frames := 1, cells := 1, slots := tn, locals := 14 }
set_option maxHeartbeats 4000000 in
set_option maxRecDepth 100000 in
theorem kX6_init (l : Launch) (D : va_G) (cS : ClassId) (g : Nat → Nat) (cI : ClassId) (th tn : Nat) (cap tw : Int32) (h1 : jmax 0 cap = cap) (h2 : jmax 0 tw = tw) (h3 : (cap * tw).toNatClampNeg = tn) (h4 : ¬ cap * tw < 0) (h5 : tn ≤ 1000) : mC l yX6_init vX6_init (rmX6_init tn) D cI cS g [.ref th, .int cap, .int tw] [(th, .inr (6, [.null, .int 0, .int 0, .int 0]))] (fun _ : Nat => True) (fun tc => wTb cI th tc tn cap tw (0, fun _ => 0)) 1 tn := by
  refine st_C rfl (by decide) rfl (Nat.le_of_ble_eq_true rfl) ?_
  intro p e s m args below meth c A ls hx hb hr hml hlocks hin hown hts hA hK hD hG hO hP hS hl
  have hown : s.vm.findClass RX6 = some m.cls := hown
  have htb : ∀ w ∈ BIG, w.before args s = true := fun w h => hts w (List.mem_cons_of_mem _ h)
  have hl : lv_has ls 4 [(0, .ref th), (1, .int cap), (2, .int tw)] := hl
  refine lv_aload_n hx hb dX6_init_0 rfl (lv_at hl 0 rfl) ?_
  refine ob_I hx hb hown (htb _ bw1_37) (htb _ bw1_18) (htb _ bw1_19) (hl.1.trans hml.symm) dX6_init_1 (Nat.le_of_ble_eq_true rfl) (Nat.le_of_ble_eq_true rfl) ?_
  refine lv_aload_n hx hb dX6_init_4 rfl (lv_at hl 0 rfl) ?_
  refine lv_iconst (v := 0) hx hb dX6_init_5 (by decide) ?_
  refine lv_iload_n hx hb dX6_init_6 rfl (lv_at hl 1 rfl) ?_
  refine va_mmax hx hb (hml.trans hl.1.symm) hown (htb _ bw1_38) (htb _ bw1_39) (htb _ bw1_5) (htb _ bw1_40) (Nat.le_of_ble_eq_true rfl) (Nat.le_of_ble_eq_true rfl) (Nat.zero_le _) (Nat.zero_le _) dX6_init_7 ?_
  rw [show (if (0 : Int32) < cap then cap else 0) = cap from h1]
  refine va_putF (D := D) (ci := 6) (v := .int cap) (ty := .int) (C := RX6) (T := TX6) (N := 4) hx hb htb kin6 tyX6 tyX6_ok nmX6 hown hK hP hD hS 0 rfl rfl 1 (by decide) (htb _ bw1_42) (fun _ h9 => h9) rfl hin rfl (by decide +kernel) rfl rfl (Nat.le_of_ble_eq_true rfl) dX6_init_10 (fun H locs hP hD hS => ?_)
  have hP : va_P D vwCl ([(th, .inr (6, [.null, .int cap, .int 0, .int 0]))]) H := hP
  have hD : va_D A ([(th, .inr (6, [.null, .int cap, .int 0, .int 0]))]) := hD
  refine lv_aload_n hx hb dX6_init_13 rfl (lv_at hl 0 rfl) ?_
  refine lv_iconst (v := 0) hx hb dX6_init_14 (by decide) ?_
  refine lv_iload_n hx hb dX6_init_15 rfl (lv_at hl 2 rfl) ?_
  refine va_mmax hx hb (hml.trans hl.1.symm) hown (htb _ bw1_38) (htb _ bw1_39) (htb _ bw1_5) (htb _ bw1_40) (Nat.le_of_ble_eq_true rfl) (Nat.le_of_ble_eq_true rfl) (Nat.zero_le _) (Nat.zero_le _) dX6_init_16 ?_
  rw [show (if (0 : Int32) < tw then tw else 0) = tw from h2]
  refine va_putF (D := D) (ci := 6) (v := .int tw) (ty := .int) (C := RX6) (T := TX6) (N := 4) hx hb htb kin6 tyX6 tyX6_ok nmX6 hown hK hP hD hS 0 rfl rfl 2 (by decide) (htb _ bw1_43) (fun _ h9 => h9) rfl hin rfl (by decide +kernel) rfl rfl (Nat.le_of_ble_eq_true rfl) dX6_init_19 (fun H locs hP hD hS => ?_)
  have hP : va_P D vwCl ([(th, .inr (6, [.null, .int cap, .int tw, .int 0]))]) H := hP
  have hD : va_D A ([(th, .inr (6, [.null, .int cap, .int tw, .int 0]))]) := hD
  refine lv_aload_n hx hb dX6_init_22 rfl (lv_at hl 0 rfl) ?_
  refine va_get (ci := 6) (v := .int cap) (C := RX6) (T := TX6) (N := 4) hx hb htb kin6 hown hK hP 0 rfl rfl 1 (by decide) (htb _ bw1_42) (fun _ h9 => h9) rfl dX6_init_23 ?_
  refine lv_aload_n hx hb dX6_init_26 rfl (lv_at hl 0 rfl) ?_
  refine va_get (ci := 6) (v := .int tw) (C := RX6) (T := TX6) (N := 4) hx hb htb kin6 hown hK hP 0 rfl rfl 2 (by decide) (htb _ bw1_43) (fun _ h9 => h9) rfl dX6_init_27 ?_
  refine lv_imul hx hb dX6_init_30 ?_
  refine lv_istore_n (lv' := [(3, .int (cap * tw)), (0, .ref th), (1, .int cap), (2, .int tw)]) hx hb dX6_init_31 rfl hl (by decide) rfl (fun ls hl => ?_)
  refine lv_aload_n hx hb dX6_init_32 rfl (lv_at hl 1 rfl) ?_
  refine lv_iload_n hx hb dX6_init_33 rfl (lv_at hl 0 rfl) ?_
  refine lv_if_ge (tgt := 41) hx hb dX6_init_34 (by decide) (fun _ => ?_) (fun z => absurd (Int32.not_lt.mp h4) z)
  refine lv_iload_n hx hb dX6_init_41 rfl (lv_at hl 0 rfl) ?_
  refine nw_I (k := cap * tw) (N' := tn) hx hb (htb _ bw1_54) hK hP hD hS hA h4 h3 (by omega) (Nat.le_of_ble_eq_true rfl) (by show 0 + tn ≤ tn; omega) dX6_init_42 (fun tc H hP hD hS => ?_)
  have hP : va_P D vwCl ([(th, .inr (6, [.null, .int cap, .int tw, .int 0])), (tc, .inl (cI, tn, .inl (fun _ => 0)))]) H := hP
  have hD : va_D A ([(th, .inr (6, [.null, .int cap, .int tw, .int 0])), (tc, .inl (cI, tn, .inl (fun _ => 0)))]) := hD
  refine W.widen (k := 1) (n := tn) (by omega) (by omega) ?_
  refine va_putF (D := D) (ci := 6) (v := .ref tc) (ty := .array .int) (C := RX6) (T := TX6) (N := 4) hx hb htb kin6 tyX6 tyX6_ok nmX6 hown hK hP hD hS 0 rfl rfl 0 (by decide) (htb _ bw1_41) (fun _ h9 => h9) rfl hin rfl (by decide +kernel) rfl rfl (Nat.le_of_ble_eq_true rfl) dX6_init_44 (fun H locs hP hD hS => ?_)
  exact rt_C (wf := fun tc => wTb cI th tc tn cap tw (0, fun _ => 0)) tc hx hb hr hlocks hS hP hD trivial dX6_init_47

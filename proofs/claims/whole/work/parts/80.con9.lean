/-! The reference's constructor -/
abbrev vX9_init : List Cond := Cond.code yX9_init cX9_init 1 none :: BIG
theorem gX9_init : GoodIn BIG vX9_init := gdN bw4_23
theorem hdX9_init : yX9_init.cls ≠ "java/lang/invoke/MethodHandle" ∧ yX9_init.cls ≠ "java/lang/invoke/VarHandle" ∧ (parseMethodDescriptor yX9_init.desc).map (fun d => d.parameters.length) = some 0 := by decide +kernel
def rmX9_init : Room := { frames := 1, cells := 5, slots := 11015, locals := 14 }
def s00 : Nat → Int32 := upd (upd (upd (upd (upd (fun _ => 0) 4 2) 5 10) 6 5) 7 15) 8 20
def m00 : Md := (s00, fun _ => 0, fun _ => 0, 0, fun _ => 0, 0, 0, 0, 0, fun _ => 0)
def q6 (v : Nat) (u : Nat × Nat × Nat × Nat × Nat) : Nat → Nat := fun k => [v, u.1, u.2.1, u.2.2.1, u.2.2.2.1, u.2.2.2.2].getD k 0
theorem RepM00 : RepM s00 A00 := by
  have z : ∀ j : Nat, (j < 4 ∨ 8 < j) → s00 j = iI 0 := fun j hj => by
    unfold s00
    rw [ud_n (by omega), ud_n (by omega), ud_n (by omega), ud_n (by omega), ud_n (by omega)]
    rfl
  refine ⟨z 0 (by omega), z 1 (by omega), z 2 (by omega), z 3 (by omega), fun k k0 k1 => ?_, fun r c q1 q2 q3 q4 => z _ (by omega), fun r c q1 q2 q3 q4 => z _ (by omega), fun r c q1 q2 q3 q4 => z _ (by omega), fun i i0 (i1 : i < 0) => by omega, fun p p0 p1 => ⟨z _ (by omega), z _ (by omega)⟩⟩
  rcases (show k = 0 ∨ k = 1 ∨ k = 2 ∨ k = 3 ∨ k = 4 by omega) with rfl | rfl | rfl | rfl | rfl <;> rfl
theorem StM00 : StM s00 (A00, none, none) := by
  have z : ∀ j : Nat, (j < 4 ∨ 8 < j) → s00 j = iI 0 := fun j hj => by
    unfold s00
    rw [ud_n (by omega), ud_n (by omega), ud_n (by omega), ud_n (by omega), ud_n (by omega)]
    rfl
  exact ⟨RepM00, z 517 (by omega), z 1035 (by omega)⟩
theorem Inv00 {M : Xm} (h : X00 M) : Inv 0 M m00 := by
  obtain ⟨h1, h2, h3⟩ := h
  refine ⟨(A00, none, none), 0, H00, 0, fun _ => 0, h1, h2, StM00, fun k hk => by omega, rfl, ⟨W00, trivial, trivial⟩, fun k hk => by omega, by omega, by rw [h3]; rfl, rfl, fun j j0 j1 => by omega⟩
set_option maxHeartbeats 8000000 in
set_option maxRecDepth 100000 in
theorem kX9_init (l : Launch) (D : va_G) (cS : ClassId) (g : Nat → Nat) (cI : ClassId) (v : Nat) : mC l yX9_init vX9_init rmX9_init D cI cS g [.ref v] [(v, .inr (9, [.null, .null, .null, .int 0, .null, .int 0, .int 0, .int 0, .long 0, .null]))] (fun _ : Nat × Nat × Nat × Nat × Nat => True) (fun u => wMd cI (q6 v u) m00) 5 11015 := by
  refine st_C rfl (by decide) rfl (Nat.le_of_ble_eq_true rfl) ?_
  intro p e s m args below meth c A ls hx hb hr hml hlocks hin hown hts hA hK hD hG hO hP hS hl
  have hown : s.vm.findClass RX9 = some m.cls := hown
  have htb : ∀ w ∈ BIG, w.before args s = true := fun w h => hts w (List.mem_cons_of_mem _ h)
  have hl : lv_has ls 1 [(0, .ref v)] := hl
  refine lv_aload_n hx hb dX9_init_0 rfl (lv_at hl 0 rfl) ?_
  refine ob_I hx hb hown (htb _ bw4_24) (htb _ bw1_23) (htb _ bw1_24) (hl.1.trans hml.symm) dX9_init_1 (Nat.le_of_ble_eq_true rfl) (Nat.le_of_ble_eq_true rfl) ?_
  refine lv_aload_n hx hb dX9_init_4 rfl (lv_at hl 0 rfl) ?_
  refine lv_sipush (v := 1553) hx hb dX9_init_5 (by decide) ?_
  refine nw_I (k := 1553) (N' := 1553) hx hb (htb _ bw1_59) hK hP hD hS hA (by decide) (by decide) (Nat.le_of_ble_eq_true rfl) (Nat.le_of_ble_eq_true rfl) (Nat.le_of_ble_eq_true rfl) dX9_init_8 (fun b1 H hP hD hS => ?_)
  have hP : va_P D vwCl ([(v, .inr (9, [.null, .null, .null, .int 0, .null, .int 0, .int 0, .int 0, .long 0, .null])), (b1, .inl (cI, 1553, .inl (fun _ => 0)))]) H := hP
  have hD : va_D A ([(v, .inr (9, [.null, .null, .null, .int 0, .null, .int 0, .int 0, .int 0, .long 0, .null])), (b1, .inl (cI, 1553, .inl (fun _ => 0)))]) := hD
  refine va_putF (D := D) (ci := 9) (v := .ref b1) (ty := .array .int) (C := RX9) (T := TX9) (N := 10) hx hb htb kin9 tyX9 tyX9_ok nmX9 hown hK hP hD hS 0 rfl rfl 0 (by decide) (htb _ bw4_25) (fun _ h9 => h9) rfl hin rfl (by decide +kernel) rfl rfl (Nat.le_of_ble_eq_true rfl) dX9_init_10 (fun H locs hP hD hS => ?_)
  have hP : va_P D vwCl ([(v, .inr (9, [.ref b1, .null, .null, .int 0, .null, .int 0, .int 0, .int 0, .long 0, .null])), (b1, .inl (cI, 1553, .inl (fun _ => 0)))]) H := hP
  have hD : va_D A ([(v, .inr (9, [.ref b1, .null, .null, .int 0, .null, .int 0, .int 0, .int 0, .long 0, .null])), (b1, .inl (cI, 1553, .inl (fun _ => 0)))]) := hD
  refine lv_aload_n hx hb dX9_init_13 rfl (lv_at hl 0 rfl) ?_
  refine lv_sipush (v := 7765) hx hb dX9_init_14 (by decide) ?_
  refine nw_I (k := 7765) (N' := 7765) hx hb (htb _ bw1_59) hK hP hD hS hA (by decide) (by decide) (Nat.le_of_ble_eq_true rfl) (Nat.le_of_ble_eq_true rfl) (Nat.le_of_ble_eq_true rfl) dX9_init_17 (fun b2 H hP hD hS => ?_)
  have hP : va_P D vwCl ([(v, .inr (9, [.ref b1, .null, .null, .int 0, .null, .int 0, .int 0, .int 0, .long 0, .null])), (b1, .inl (cI, 1553, .inl (fun _ => 0))), (b2, .inl (cI, 7765, .inl (fun _ => 0)))]) H := hP
  have hD : va_D A ([(v, .inr (9, [.ref b1, .null, .null, .int 0, .null, .int 0, .int 0, .int 0, .long 0, .null])), (b1, .inl (cI, 1553, .inl (fun _ => 0))), (b2, .inl (cI, 7765, .inl (fun _ => 0)))]) := hD
  refine va_putF (D := D) (ci := 9) (v := .ref b2) (ty := .array .int) (C := RX9) (T := TX9) (N := 10) hx hb htb kin9 tyX9 tyX9_ok nmX9 hown hK hP hD hS 0 rfl rfl 1 (by decide) (htb _ bw4_26) (fun _ h9 => h9) rfl hin rfl (by decide +kernel) rfl rfl (Nat.le_of_ble_eq_true rfl) dX9_init_19 (fun H locs hP hD hS => ?_)
  have hP : va_P D vwCl ([(v, .inr (9, [.ref b1, .ref b2, .null, .int 0, .null, .int 0, .int 0, .int 0, .long 0, .null])), (b1, .inl (cI, 1553, .inl (fun _ => 0))), (b2, .inl (cI, 7765, .inl (fun _ => 0)))]) H := hP
  have hD : va_D A ([(v, .inr (9, [.ref b1, .ref b2, .null, .int 0, .null, .int 0, .int 0, .int 0, .long 0, .null])), (b1, .inl (cI, 1553, .inl (fun _ => 0))), (b2, .inl (cI, 7765, .inl (fun _ => 0)))]) := hD
  refine lv_aload_n hx hb dX9_init_22 rfl (lv_at hl 0 rfl) ?_
  refine lv_sipush (v := 1553) hx hb dX9_init_23 (by decide) ?_
  refine nw_I (k := 1553) (N' := 1553) hx hb (htb _ bw1_59) hK hP hD hS hA (by decide) (by decide) (Nat.le_of_ble_eq_true rfl) (Nat.le_of_ble_eq_true rfl) (Nat.le_of_ble_eq_true rfl) dX9_init_26 (fun b3 H hP hD hS => ?_)
  have hP : va_P D vwCl ([(v, .inr (9, [.ref b1, .ref b2, .null, .int 0, .null, .int 0, .int 0, .int 0, .long 0, .null])), (b1, .inl (cI, 1553, .inl (fun _ => 0))), (b2, .inl (cI, 7765, .inl (fun _ => 0))), (b3, .inl (cI, 1553, .inl (fun _ => 0)))]) H := hP
  have hD : va_D A ([(v, .inr (9, [.ref b1, .ref b2, .null, .int 0, .null, .int 0, .int 0, .int 0, .long 0, .null])), (b1, .inl (cI, 1553, .inl (fun _ => 0))), (b2, .inl (cI, 7765, .inl (fun _ => 0))), (b3, .inl (cI, 1553, .inl (fun _ => 0)))]) := hD
  refine va_putF (D := D) (ci := 9) (v := .ref b3) (ty := .array .int) (C := RX9) (T := TX9) (N := 10) hx hb htb kin9 tyX9 tyX9_ok nmX9 hown hK hP hD hS 0 rfl rfl 2 (by decide) (htb _ bw4_27) (fun _ h9 => h9) rfl hin rfl (by decide +kernel) rfl rfl (Nat.le_of_ble_eq_true rfl) dX9_init_28 (fun H locs hP hD hS => ?_)
  have hP : va_P D vwCl ([(v, .inr (9, [.ref b1, .ref b2, .ref b3, .int 0, .null, .int 0, .int 0, .int 0, .long 0, .null])), (b1, .inl (cI, 1553, .inl (fun _ => 0))), (b2, .inl (cI, 7765, .inl (fun _ => 0))), (b3, .inl (cI, 1553, .inl (fun _ => 0)))]) H := hP
  have hD : va_D A ([(v, .inr (9, [.ref b1, .ref b2, .ref b3, .int 0, .null, .int 0, .int 0, .int 0, .long 0, .null])), (b1, .inl (cI, 1553, .inl (fun _ => 0))), (b2, .inl (cI, 7765, .inl (fun _ => 0))), (b3, .inl (cI, 1553, .inl (fun _ => 0)))]) := hD
  refine lv_aload_n hx hb dX9_init_31 rfl (lv_at hl 0 rfl) ?_
  refine lv_sipush (v := 140) hx hb dX9_init_32 (by decide) ?_
  refine nw_I (k := 140) (N' := 140) hx hb (htb _ bw1_59) hK hP hD hS hA (by decide) (by decide) (Nat.le_of_ble_eq_true rfl) (Nat.le_of_ble_eq_true rfl) (Nat.le_of_ble_eq_true rfl) dX9_init_35 (fun b4 H hP hD hS => ?_)
  have hP : va_P D vwCl ([(v, .inr (9, [.ref b1, .ref b2, .ref b3, .int 0, .null, .int 0, .int 0, .int 0, .long 0, .null])), (b1, .inl (cI, 1553, .inl (fun _ => 0))), (b2, .inl (cI, 7765, .inl (fun _ => 0))), (b3, .inl (cI, 1553, .inl (fun _ => 0))), (b4, .inl (cI, 140, .inl (fun _ => 0)))]) H := hP
  have hD : va_D A ([(v, .inr (9, [.ref b1, .ref b2, .ref b3, .int 0, .null, .int 0, .int 0, .int 0, .long 0, .null])), (b1, .inl (cI, 1553, .inl (fun _ => 0))), (b2, .inl (cI, 7765, .inl (fun _ => 0))), (b3, .inl (cI, 1553, .inl (fun _ => 0))), (b4, .inl (cI, 140, .inl (fun _ => 0)))]) := hD
  refine va_putF (D := D) (ci := 9) (v := .ref b4) (ty := .array .int) (C := RX9) (T := TX9) (N := 10) hx hb htb kin9 tyX9 tyX9_ok nmX9 hown hK hP hD hS 0 rfl rfl 4 (by decide) (htb _ bw4_29) (fun _ h9 => h9) rfl hin rfl (by decide +kernel) rfl rfl (Nat.le_of_ble_eq_true rfl) dX9_init_37 (fun H locs hP hD hS => ?_)
  have hP : va_P D vwCl ([(v, .inr (9, [.ref b1, .ref b2, .ref b3, .int 0, .ref b4, .int 0, .int 0, .int 0, .long 0, .null])), (b1, .inl (cI, 1553, .inl (fun _ => 0))), (b2, .inl (cI, 7765, .inl (fun _ => 0))), (b3, .inl (cI, 1553, .inl (fun _ => 0))), (b4, .inl (cI, 140, .inl (fun _ => 0)))]) H := hP
  have hD : va_D A ([(v, .inr (9, [.ref b1, .ref b2, .ref b3, .int 0, .ref b4, .int 0, .int 0, .int 0, .long 0, .null])), (b1, .inl (cI, 1553, .inl (fun _ => 0))), (b2, .inl (cI, 7765, .inl (fun _ => 0))), (b3, .inl (cI, 1553, .inl (fun _ => 0))), (b4, .inl (cI, 140, .inl (fun _ => 0)))]) := hD
  refine lv_aload_n hx hb dX9_init_40 rfl (lv_at hl 0 rfl) ?_
  refine lv_iconst (v := 4) hx hb dX9_init_41 (by decide) ?_
  refine nw_I (k := 4) (N' := 4) hx hb (htb _ bw1_59) hK hP hD hS hA (by decide) (by decide) (Nat.le_of_ble_eq_true rfl) (Nat.le_of_ble_eq_true rfl) (Nat.le_of_ble_eq_true rfl) dX9_init_42 (fun b5 H hP hD hS => ?_)
  have hP : va_P D vwCl ([(v, .inr (9, [.ref b1, .ref b2, .ref b3, .int 0, .ref b4, .int 0, .int 0, .int 0, .long 0, .null])), (b1, .inl (cI, 1553, .inl (fun _ => 0))), (b2, .inl (cI, 7765, .inl (fun _ => 0))), (b3, .inl (cI, 1553, .inl (fun _ => 0))), (b4, .inl (cI, 140, .inl (fun _ => 0))), (b5, .inl (cI, 4, .inl (fun _ => 0)))]) H := hP
  have hD : va_D A ([(v, .inr (9, [.ref b1, .ref b2, .ref b3, .int 0, .ref b4, .int 0, .int 0, .int 0, .long 0, .null])), (b1, .inl (cI, 1553, .inl (fun _ => 0))), (b2, .inl (cI, 7765, .inl (fun _ => 0))), (b3, .inl (cI, 1553, .inl (fun _ => 0))), (b4, .inl (cI, 140, .inl (fun _ => 0))), (b5, .inl (cI, 4, .inl (fun _ => 0)))]) := hD
  refine va_putF (D := D) (ci := 9) (v := .ref b5) (ty := .array .int) (C := RX9) (T := TX9) (N := 10) hx hb htb kin9 tyX9 tyX9_ok nmX9 hown hK hP hD hS 0 rfl rfl 9 (by decide) (htb _ bw4_34) (fun _ h9 => h9) rfl hin rfl (by decide +kernel) rfl rfl (Nat.le_of_ble_eq_true rfl) dX9_init_44 (fun H locs hP hD hS => ?_)
  have hP : va_P D vwCl ([(v, .inr (9, [.ref b1, .ref b2, .ref b3, .int 0, .ref b4, .int 0, .int 0, .int 0, .long 0, .ref b5])), (b1, .inl (cI, 1553, .inl (fun _ => 0))), (b2, .inl (cI, 7765, .inl (fun _ => 0))), (b3, .inl (cI, 1553, .inl (fun _ => 0))), (b4, .inl (cI, 140, .inl (fun _ => 0))), (b5, .inl (cI, 4, .inl (fun _ => 0)))]) H := hP
  have hD : va_D A ([(v, .inr (9, [.ref b1, .ref b2, .ref b3, .int 0, .ref b4, .int 0, .int 0, .int 0, .long 0, .ref b5])), (b1, .inl (cI, 1553, .inl (fun _ => 0))), (b2, .inl (cI, 7765, .inl (fun _ => 0))), (b3, .inl (cI, 1553, .inl (fun _ => 0))), (b4, .inl (cI, 140, .inl (fun _ => 0))), (b5, .inl (cI, 4, .inl (fun _ => 0)))]) := hD
  refine lv_aload_n hx hb dX9_init_47 rfl (lv_at hl 0 rfl) ?_
  refine va_get (ci := 9) (v := .ref b1) (C := RX9) (T := TX9) (N := 10) hx hb htb kin9 hown hK hP 0 rfl rfl 0 (by decide) (htb _ bw4_25) (fun _ h9 => h9) rfl dX9_init_48 ?_
  refine lv_iconst (v := 4) hx hb dX9_init_51 (by decide) ?_
  refine lv_iconst (v := 2) hx hb dX9_init_52 (by decide) ?_
  refine va_iast hx hb hK hP hD hS 1 0 rfl rfl (by unfold vp_in; decide) dX9_init_53 (fun H locs hP hD hS => ?_)
  have hP : va_P D vwCl ([(v, .inr (9, [.ref b1, .ref b2, .ref b3, .int 0, .ref b4, .int 0, .int 0, .int 0, .long 0, .ref b5])), (b1, .inl (cI, 1553, .inl (upd (fun _ => 0) 4 2))), (b2, .inl (cI, 7765, .inl (fun _ => 0))), (b3, .inl (cI, 1553, .inl (fun _ => 0))), (b4, .inl (cI, 140, .inl (fun _ => 0))), (b5, .inl (cI, 4, .inl (fun _ => 0)))]) H := hP
  have hD : va_D A ([(v, .inr (9, [.ref b1, .ref b2, .ref b3, .int 0, .ref b4, .int 0, .int 0, .int 0, .long 0, .ref b5])), (b1, .inl (cI, 1553, .inl (upd (fun _ => 0) 4 2))), (b2, .inl (cI, 7765, .inl (fun _ => 0))), (b3, .inl (cI, 1553, .inl (fun _ => 0))), (b4, .inl (cI, 140, .inl (fun _ => 0))), (b5, .inl (cI, 4, .inl (fun _ => 0)))]) := hD
  refine lv_aload_n hx hb dX9_init_54 rfl (lv_at hl 0 rfl) ?_
  refine va_get (ci := 9) (v := .ref b1) (C := RX9) (T := TX9) (N := 10) hx hb htb kin9 hown hK hP 0 rfl rfl 0 (by decide) (htb _ bw4_25) (fun _ h9 => h9) rfl dX9_init_55 ?_
  refine lv_iconst (v := 5) hx hb dX9_init_58 (by decide) ?_
  refine lv_bipush (v := 10) hx hb dX9_init_59 (by decide) ?_
  refine va_iast hx hb hK hP hD hS 1 0 rfl rfl (by unfold vp_in; decide) dX9_init_61 (fun H locs hP hD hS => ?_)
  have hP : va_P D vwCl ([(v, .inr (9, [.ref b1, .ref b2, .ref b3, .int 0, .ref b4, .int 0, .int 0, .int 0, .long 0, .ref b5])), (b1, .inl (cI, 1553, .inl (upd (upd (fun _ => 0) 4 2) 5 10))), (b2, .inl (cI, 7765, .inl (fun _ => 0))), (b3, .inl (cI, 1553, .inl (fun _ => 0))), (b4, .inl (cI, 140, .inl (fun _ => 0))), (b5, .inl (cI, 4, .inl (fun _ => 0)))]) H := hP
  have hD : va_D A ([(v, .inr (9, [.ref b1, .ref b2, .ref b3, .int 0, .ref b4, .int 0, .int 0, .int 0, .long 0, .ref b5])), (b1, .inl (cI, 1553, .inl (upd (upd (fun _ => 0) 4 2) 5 10))), (b2, .inl (cI, 7765, .inl (fun _ => 0))), (b3, .inl (cI, 1553, .inl (fun _ => 0))), (b4, .inl (cI, 140, .inl (fun _ => 0))), (b5, .inl (cI, 4, .inl (fun _ => 0)))]) := hD
  refine lv_aload_n hx hb dX9_init_62 rfl (lv_at hl 0 rfl) ?_
  refine va_get (ci := 9) (v := .ref b1) (C := RX9) (T := TX9) (N := 10) hx hb htb kin9 hown hK hP 0 rfl rfl 0 (by decide) (htb _ bw4_25) (fun _ h9 => h9) rfl dX9_init_63 ?_
  refine lv_bipush (v := 6) hx hb dX9_init_66 (by decide) ?_
  refine lv_iconst (v := 5) hx hb dX9_init_68 (by decide) ?_
  refine va_iast hx hb hK hP hD hS 1 0 rfl rfl (by unfold vp_in; decide) dX9_init_69 (fun H locs hP hD hS => ?_)
  have hP : va_P D vwCl ([(v, .inr (9, [.ref b1, .ref b2, .ref b3, .int 0, .ref b4, .int 0, .int 0, .int 0, .long 0, .ref b5])), (b1, .inl (cI, 1553, .inl (upd (upd (upd (fun _ => 0) 4 2) 5 10) 6 5))), (b2, .inl (cI, 7765, .inl (fun _ => 0))), (b3, .inl (cI, 1553, .inl (fun _ => 0))), (b4, .inl (cI, 140, .inl (fun _ => 0))), (b5, .inl (cI, 4, .inl (fun _ => 0)))]) H := hP
  have hD : va_D A ([(v, .inr (9, [.ref b1, .ref b2, .ref b3, .int 0, .ref b4, .int 0, .int 0, .int 0, .long 0, .ref b5])), (b1, .inl (cI, 1553, .inl (upd (upd (upd (fun _ => 0) 4 2) 5 10) 6 5))), (b2, .inl (cI, 7765, .inl (fun _ => 0))), (b3, .inl (cI, 1553, .inl (fun _ => 0))), (b4, .inl (cI, 140, .inl (fun _ => 0))), (b5, .inl (cI, 4, .inl (fun _ => 0)))]) := hD
  refine lv_aload_n hx hb dX9_init_70 rfl (lv_at hl 0 rfl) ?_
  refine va_get (ci := 9) (v := .ref b1) (C := RX9) (T := TX9) (N := 10) hx hb htb kin9 hown hK hP 0 rfl rfl 0 (by decide) (htb _ bw4_25) (fun _ h9 => h9) rfl dX9_init_71 ?_
  refine lv_bipush (v := 7) hx hb dX9_init_74 (by decide) ?_
  refine lv_bipush (v := 15) hx hb dX9_init_76 (by decide) ?_
  refine va_iast hx hb hK hP hD hS 1 0 rfl rfl (by unfold vp_in; decide) dX9_init_78 (fun H locs hP hD hS => ?_)
  have hP : va_P D vwCl ([(v, .inr (9, [.ref b1, .ref b2, .ref b3, .int 0, .ref b4, .int 0, .int 0, .int 0, .long 0, .ref b5])), (b1, .inl (cI, 1553, .inl (upd (upd (upd (upd (fun _ => 0) 4 2) 5 10) 6 5) 7 15))), (b2, .inl (cI, 7765, .inl (fun _ => 0))), (b3, .inl (cI, 1553, .inl (fun _ => 0))), (b4, .inl (cI, 140, .inl (fun _ => 0))), (b5, .inl (cI, 4, .inl (fun _ => 0)))]) H := hP
  have hD : va_D A ([(v, .inr (9, [.ref b1, .ref b2, .ref b3, .int 0, .ref b4, .int 0, .int 0, .int 0, .long 0, .ref b5])), (b1, .inl (cI, 1553, .inl (upd (upd (upd (upd (fun _ => 0) 4 2) 5 10) 6 5) 7 15))), (b2, .inl (cI, 7765, .inl (fun _ => 0))), (b3, .inl (cI, 1553, .inl (fun _ => 0))), (b4, .inl (cI, 140, .inl (fun _ => 0))), (b5, .inl (cI, 4, .inl (fun _ => 0)))]) := hD
  refine lv_aload_n hx hb dX9_init_79 rfl (lv_at hl 0 rfl) ?_
  refine va_get (ci := 9) (v := .ref b1) (C := RX9) (T := TX9) (N := 10) hx hb htb kin9 hown hK hP 0 rfl rfl 0 (by decide) (htb _ bw4_25) (fun _ h9 => h9) rfl dX9_init_80 ?_
  refine lv_bipush (v := 8) hx hb dX9_init_83 (by decide) ?_
  refine lv_bipush (v := 20) hx hb dX9_init_85 (by decide) ?_
  refine va_iast hx hb hK hP hD hS 1 0 rfl rfl (by unfold vp_in; decide) dX9_init_87 (fun H locs hP hD hS => ?_)
  have hP : va_P D vwCl ([(v, .inr (9, [.ref b1, .ref b2, .ref b3, .int 0, .ref b4, .int 0, .int 0, .int 0, .long 0, .ref b5])), (b1, .inl (cI, 1553, .inl (upd (upd (upd (upd (upd (fun _ => 0) 4 2) 5 10) 6 5) 7 15) 8 20))), (b2, .inl (cI, 7765, .inl (fun _ => 0))), (b3, .inl (cI, 1553, .inl (fun _ => 0))), (b4, .inl (cI, 140, .inl (fun _ => 0))), (b5, .inl (cI, 4, .inl (fun _ => 0)))]) H := hP
  have hD : va_D A ([(v, .inr (9, [.ref b1, .ref b2, .ref b3, .int 0, .ref b4, .int 0, .int 0, .int 0, .long 0, .ref b5])), (b1, .inl (cI, 1553, .inl (upd (upd (upd (upd (upd (fun _ => 0) 4 2) 5 10) 6 5) 7 15) 8 20))), (b2, .inl (cI, 7765, .inl (fun _ => 0))), (b3, .inl (cI, 1553, .inl (fun _ => 0))), (b4, .inl (cI, 140, .inl (fun _ => 0))), (b5, .inl (cI, 4, .inl (fun _ => 0)))]) := hD
  exact rt_C (wf := fun u : Nat × Nat × Nat × Nat × Nat => wMd cI (q6 v u) m00) (b1, b2, b3, b4, b5) hx hb hr hlocks hS hP hD trivial dX9_init_88

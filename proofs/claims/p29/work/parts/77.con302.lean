/-! Program(), Desk(venue), Outlook(venue) -/
abbrev vX3_init : List Cond := Cond.code yX3_init cX3_init 1 none :: BIG
theorem gX3_init : GoodIn BIG vX3_init := gdN bw1_187
theorem hdX3_init : yX3_init.cls ≠ "java/lang/invoke/MethodHandle" ∧ yX3_init.cls ≠ "java/lang/invoke/VarHandle" ∧ (parseMethodDescriptor yX3_init.desc).map (fun d => d.parameters.length) = some 0 := by decide +kernel
def rmX3_init : Room := { frames := 1, cells := 2, slots := 144, locals := 14 }
def q3 (b x y : Nat) : Nat → Nat := fun k => [b, x, y].getD k 0
def P00 : Pg := (fun _ => 0, fun _ => 0, 0, 0, 0, 0)
set_option maxHeartbeats 8000000 in
set_option maxRecDepth 100000 in
theorem kX3_init (l : Launch) (D : va_G) (cS : ClassId) (g : Nat → Nat) (cI : ClassId) (v : Nat) : mC l yX3_init vX3_init rmX3_init D cI cS g [.ref v] [(v, .inr (3, [.null, .null, .int 0, .int 0, .int 0, .int 0]))] (fun _ : Nat × Nat => True) (fun u => wPg cI (q3 v u.1 u.2) P00) 2 144 := by
  refine st_C rfl (by decide) rfl (Nat.le_of_ble_eq_true rfl) ?_
  intro p e s m args below meth c A ls hx hb hr hml hlocks hin hown hts hA hK hD hG hO hP hS hl
  have hown : s.vm.findClass RX3 = some m.cls := hown
  have htb : ∀ w ∈ BIG, w.before args s = true := fun w h => hts w (List.mem_cons_of_mem _ h)
  have hl : lv_has ls 1 [(0, .ref v)] := hl
  refine lv_aload_n hx hb dX3_init_0 rfl (lv_at hl 0 rfl) ?_
  refine ob_I hx hb hown (htb _ bw1_188) (htb _ bw1_18) (htb _ bw1_19) (hl.1.trans hml.symm) dX3_init_1 (Nat.le_of_ble_eq_true rfl) (Nat.le_of_ble_eq_true rfl) ?_
  refine lv_aload_n hx hb dX3_init_4 rfl (lv_at hl 0 rfl) ?_
  refine lv_sipush (v := 140) hx hb dX3_init_5 (by decide) ?_
  refine nw_I (k := 140) (N' := 140) hx hb (htb _ bw1_54) hK hP hD hS hA (by decide) (by decide) (by decide) (Nat.le_of_ble_eq_true rfl) (Nat.le_of_ble_eq_true rfl) dX3_init_8 (fun x H hP hD hS => ?_)
  have hP : va_P D vwCl ([(v, .inr (3, [.null, .null, .int 0, .int 0, .int 0, .int 0])), (x, .inl (cI, 140, .inl (fun _ => 0)))]) H := hP
  have hD : va_D A ([(v, .inr (3, [.null, .null, .int 0, .int 0, .int 0, .int 0])), (x, .inl (cI, 140, .inl (fun _ => 0)))]) := hD
  refine va_putF (D := D) (ci := 3) (v := .ref x) (ty := .array .int) (C := RX3) (T := TX3) (N := 6) hx hb htb kin3 tyX3 tyX3_ok nmX3 hown hK hP hD hS 0 rfl rfl 0 (by decide) (htb _ bw1_189) (fun _ h9 => h9) rfl hin rfl (by decide +kernel) rfl rfl (Nat.le_of_ble_eq_true rfl) dX3_init_10 (fun H locs hP hD hS => ?_)
  have hP : va_P D vwCl ([(v, .inr (3, [.ref x, .null, .int 0, .int 0, .int 0, .int 0])), (x, .inl (cI, 140, .inl (fun _ => 0)))]) H := hP
  have hD : va_D A ([(v, .inr (3, [.ref x, .null, .int 0, .int 0, .int 0, .int 0])), (x, .inl (cI, 140, .inl (fun _ => 0)))]) := hD
  refine lv_aload_n hx hb dX3_init_13 rfl (lv_at hl 0 rfl) ?_
  refine lv_iconst (v := 4) hx hb dX3_init_14 (by decide) ?_
  refine nw_I (k := 4) (N' := 4) hx hb (htb _ bw1_54) hK hP hD hS hA (by decide) (by decide) (by decide) (Nat.le_of_ble_eq_true rfl) (Nat.le_of_ble_eq_true rfl) dX3_init_15 (fun y H hP hD hS => ?_)
  have hP : va_P D vwCl ([(v, .inr (3, [.ref x, .null, .int 0, .int 0, .int 0, .int 0])), (x, .inl (cI, 140, .inl (fun _ => 0))), (y, .inl (cI, 4, .inl (fun _ => 0)))]) H := hP
  have hD : va_D A ([(v, .inr (3, [.ref x, .null, .int 0, .int 0, .int 0, .int 0])), (x, .inl (cI, 140, .inl (fun _ => 0))), (y, .inl (cI, 4, .inl (fun _ => 0)))]) := hD
  refine va_putF (D := D) (ci := 3) (v := .ref y) (ty := .array .int) (C := RX3) (T := TX3) (N := 6) hx hb htb kin3 tyX3 tyX3_ok nmX3 hown hK hP hD hS 0 rfl rfl 1 (by decide) (htb _ bw1_190) (fun _ h9 => h9) rfl hin rfl (by decide +kernel) rfl rfl (Nat.le_of_ble_eq_true rfl) dX3_init_17 (fun H locs hP hD hS => ?_)
  exact rt_C (wf := fun u : Nat × Nat => wPg cI (q3 v u.1 u.2) P00) (x, y) hx hb hr hlocks hS hP hD trivial dX3_init_20
abbrev vX0_init : List Cond := Cond.code yX0_init cX0_init 2 none :: BIG
theorem gX0_init : GoodIn BIG vX0_init := gdN bw1_133
theorem hdX0_init : yX0_init.cls ≠ "java/lang/invoke/MethodHandle" ∧ yX0_init.cls ≠ "java/lang/invoke/VarHandle" ∧ (parseMethodDescriptor yX0_init.desc).map (fun d => d.parameters.length) = some 1 := by decide +kernel
def rmX0_init : Room := { frames := 1, cells := 0, slots := 0, locals := 14 }
set_option maxHeartbeats 8000000 in
set_option maxRecDepth 100000 in
theorem kX0_init (l : Launch) (D : va_G) (cS : ClassId) (g : Nat → Nat) (cI : ClassId) (d : Nat) (a : Nat → Nat) (V : Vn) : mC l yX0_init vX0_init rmX0_init D cI cS g [.ref d, .ref (a 0)] ((d, .inr (0, [.null, .null, .null, .null, .null])) :: wVn cI a V) (fun _ : Unit => True) (fun _ => wDk cI d a V) 0 0 := by
  refine st_C rfl (by decide) rfl (Nat.le_of_ble_eq_true rfl) ?_
  intro p e s m args below meth c A ls hx hb hr hml hlocks hin hown hts hA hK hD hG hO hP hS hl
  have hown : s.vm.findClass RX0 = some m.cls := hown
  have htb : ∀ w ∈ BIG, w.before args s = true := fun w h => hts w (List.mem_cons_of_mem _ h)
  have hl : lv_has ls 2 [(0, .ref d), (1, .ref (a 0))] := hl
  refine lv_aload_n hx hb dX0_init_0 rfl (lv_at hl 0 rfl) ?_
  refine ob_I hx hb hown (htb _ bw1_134) (htb _ bw1_18) (htb _ bw1_19) (hl.1.trans hml.symm) dX0_init_1 (Nat.le_of_ble_eq_true rfl) (Nat.le_of_ble_eq_true rfl) ?_
  refine lv_aload_n hx hb dX0_init_4 rfl (lv_at hl 0 rfl) ?_
  refine lv_aload_n hx hb dX0_init_5 rfl (lv_at hl 1 rfl) ?_
  refine va_putF (D := D) (ci := 0) (v := .ref (a 0)) (ty := .object "TeamRooms$Venue") (C := RX0) (T := TX0) (N := 5) hx hb htb kin0 tyX0 tyX0_ok nmX0 hown hK hP hD hS 0 rfl rfl 0 (by decide) (htb _ bw1_135) (fun _ h9 => h9) rfl hin rfl (by decide +kernel) rfl rfl (Nat.le_of_ble_eq_true rfl) dX0_init_6 (fun H locs hP hD hS => ?_)
  have hP : va_P D vwCl ((d, .inr (0, [.ref (a 0), .null, .null, .null, .null])) :: wVn cI a V) H := hP
  have hD : va_D A ((d, .inr (0, [.ref (a 0), .null, .null, .null, .null])) :: wVn cI a V) := hD
  refine lv_aload_n hx hb dX0_init_9 rfl (lv_at hl 0 rfl) ?_
  refine lv_aload_n hx hb dX0_init_10 rfl (lv_at hl 1 rfl) ?_
  refine va_get (ci := 7) (v := .ref (a 1)) (C := RX7) (T := TX7) (N := 6) hx hb htb kin7 hown hK hP 1 rfl rfl 0 (by decide) (htb _ bw1_70) (fun _ h9 => h9) rfl dX0_init_11 ?_
  refine va_putF (D := D) (ci := 0) (v := .ref (a 1)) (ty := .object "TeamRooms$Table") (C := RX0) (T := TX0) (N := 5) hx hb htb kin0 tyX0 tyX0_ok nmX0 hown hK hP hD hS 0 rfl rfl 1 (by decide) (htb _ bw1_136) (fun _ h9 => h9) rfl hin rfl (by decide +kernel) rfl rfl (Nat.le_of_ble_eq_true rfl) dX0_init_14 (fun H locs hP hD hS => ?_)
  have hP : va_P D vwCl ((d, .inr (0, [.ref (a 0), .ref (a 1), .null, .null, .null])) :: wVn cI a V) H := hP
  have hD : va_D A ((d, .inr (0, [.ref (a 0), .ref (a 1), .null, .null, .null])) :: wVn cI a V) := hD
  refine lv_aload_n hx hb dX0_init_17 rfl (lv_at hl 0 rfl) ?_
  refine lv_aload_n hx hb dX0_init_18 rfl (lv_at hl 1 rfl) ?_
  refine va_get (ci := 7) (v := .ref (a 3)) (C := RX7) (T := TX7) (N := 6) hx hb htb kin7 hown hK hP 1 rfl rfl 1 (by decide) (htb _ bw1_74) (fun _ h9 => h9) rfl dX0_init_19 ?_
  refine va_putF (D := D) (ci := 0) (v := .ref (a 3)) (ty := .object "TeamRooms$Table") (C := RX0) (T := TX0) (N := 5) hx hb htb kin0 tyX0 tyX0_ok nmX0 hown hK hP hD hS 0 rfl rfl 2 (by decide) (htb _ bw1_137) (fun _ h9 => h9) rfl hin rfl (by decide +kernel) rfl rfl (Nat.le_of_ble_eq_true rfl) dX0_init_22 (fun H locs hP hD hS => ?_)
  have hP : va_P D vwCl ((d, .inr (0, [.ref (a 0), .ref (a 1), .ref (a 3), .null, .null])) :: wVn cI a V) H := hP
  have hD : va_D A ((d, .inr (0, [.ref (a 0), .ref (a 1), .ref (a 3), .null, .null])) :: wVn cI a V) := hD
  refine lv_aload_n hx hb dX0_init_25 rfl (lv_at hl 0 rfl) ?_
  refine lv_aload_n hx hb dX0_init_26 rfl (lv_at hl 1 rfl) ?_
  refine va_get (ci := 7) (v := .ref (a 5)) (C := RX7) (T := TX7) (N := 6) hx hb htb kin7 hown hK hP 1 rfl rfl 2 (by decide) (htb _ bw1_78) (fun _ h9 => h9) rfl dX0_init_27 ?_
  refine va_putF (D := D) (ci := 0) (v := .ref (a 5)) (ty := .object "TeamRooms$Table") (C := RX0) (T := TX0) (N := 5) hx hb htb kin0 tyX0 tyX0_ok nmX0 hown hK hP hD hS 0 rfl rfl 3 (by decide) (htb _ bw1_138) (fun _ h9 => h9) rfl hin rfl (by decide +kernel) rfl rfl (Nat.le_of_ble_eq_true rfl) dX0_init_30 (fun H locs hP hD hS => ?_)
  have hP : va_P D vwCl ((d, .inr (0, [.ref (a 0), .ref (a 1), .ref (a 3), .ref (a 5), .null])) :: wVn cI a V) H := hP
  have hD : va_D A ((d, .inr (0, [.ref (a 0), .ref (a 1), .ref (a 3), .ref (a 5), .null])) :: wVn cI a V) := hD
  refine lv_aload_n hx hb dX0_init_33 rfl (lv_at hl 0 rfl) ?_
  refine lv_aload_n hx hb dX0_init_34 rfl (lv_at hl 1 rfl) ?_
  refine va_get (ci := 7) (v := .ref (a 7)) (C := RX7) (T := TX7) (N := 6) hx hb htb kin7 hown hK hP 1 rfl rfl 3 (by decide) (htb _ bw1_81) (fun _ h9 => h9) rfl dX0_init_35 ?_
  refine va_putF (D := D) (ci := 0) (v := .ref (a 7)) (ty := .object "TeamRooms$Table") (C := RX0) (T := TX0) (N := 5) hx hb htb kin0 tyX0 tyX0_ok nmX0 hown hK hP hD hS 0 rfl rfl 4 (by decide) (htb _ bw1_139) (fun _ h9 => h9) rfl hin rfl (by decide +kernel) rfl rfl (Nat.le_of_ble_eq_true rfl) dX0_init_38 (fun H locs hP hD hS => ?_)
  have hP : va_P D vwCl ((d, .inr (0, [.ref (a 0), .ref (a 1), .ref (a 3), .ref (a 5), .ref (a 7)])) :: wVn cI a V) H := hP
  have hD : va_D A ((d, .inr (0, [.ref (a 0), .ref (a 1), .ref (a 3), .ref (a 5), .ref (a 7)])) :: wVn cI a V) := hD
  exact rt_C (wf := fun _ : Unit => wDk cI d a V) () hx hb hr hlocks hS hP hD trivial dX0_init_41
abbrev vX2_init : List Cond := Cond.code yX2_init cX2_init 2 none :: BIG
theorem gX2_init : GoodIn BIG vX2_init := gdN bw1_155
theorem hdX2_init : yX2_init.cls ≠ "java/lang/invoke/MethodHandle" ∧ yX2_init.cls ≠ "java/lang/invoke/VarHandle" ∧ (parseMethodDescriptor yX2_init.desc).map (fun d => d.parameters.length) = some 1 := by decide +kernel
def rmX2_init : Room := { frames := 1, cells := 0, slots := 0, locals := 14 }
set_option maxHeartbeats 8000000 in
set_option maxRecDepth 100000 in
theorem kX2_init (l : Launch) (D : va_G) (cS : ClassId) (g : Nat → Nat) (cI : ClassId) (d : Nat) (a : Nat → Nat) (V : Vn) : mC l yX2_init vX2_init rmX2_init D cI cS g [.ref d, .ref (a 0)] ((d, .inr (2, [.null, .null, .null])) :: wVn cI a V) (fun _ : Unit => True) (fun _ => wOl cI d a V) 0 0 := by
  refine st_C rfl (by decide) rfl (Nat.le_of_ble_eq_true rfl) ?_
  intro p e s m args below meth c A ls hx hb hr hml hlocks hin hown hts hA hK hD hG hO hP hS hl
  have hown : s.vm.findClass RX2 = some m.cls := hown
  have htb : ∀ w ∈ BIG, w.before args s = true := fun w h => hts w (List.mem_cons_of_mem _ h)
  have hl : lv_has ls 2 [(0, .ref d), (1, .ref (a 0))] := hl
  refine lv_aload_n hx hb dX2_init_0 rfl (lv_at hl 0 rfl) ?_
  refine ob_I hx hb hown (htb _ bw1_156) (htb _ bw1_18) (htb _ bw1_19) (hl.1.trans hml.symm) dX2_init_1 (Nat.le_of_ble_eq_true rfl) (Nat.le_of_ble_eq_true rfl) ?_
  refine lv_aload_n hx hb dX2_init_4 rfl (lv_at hl 0 rfl) ?_
  refine lv_aload_n hx hb dX2_init_5 rfl (lv_at hl 1 rfl) ?_
  refine va_putF (D := D) (ci := 2) (v := .ref (a 0)) (ty := .object "TeamRooms$Venue") (C := RX2) (T := TX2) (N := 3) hx hb htb kin2 tyX2 tyX2_ok nmX2 hown hK hP hD hS 0 rfl rfl 0 (by decide) (htb _ bw1_157) (fun _ h9 => h9) rfl hin rfl (by decide +kernel) rfl rfl (Nat.le_of_ble_eq_true rfl) dX2_init_6 (fun H locs hP hD hS => ?_)
  have hP : va_P D vwCl ((d, .inr (2, [.ref (a 0), .null, .null])) :: wVn cI a V) H := hP
  have hD : va_D A ((d, .inr (2, [.ref (a 0), .null, .null])) :: wVn cI a V) := hD
  refine lv_aload_n hx hb dX2_init_9 rfl (lv_at hl 0 rfl) ?_
  refine lv_aload_n hx hb dX2_init_10 rfl (lv_at hl 1 rfl) ?_
  refine va_get (ci := 7) (v := .ref (a 1)) (C := RX7) (T := TX7) (N := 6) hx hb htb kin7 hown hK hP 1 rfl rfl 0 (by decide) (htb _ bw1_71) (fun _ h9 => h9) rfl dX2_init_11 ?_
  refine va_putF (D := D) (ci := 2) (v := .ref (a 1)) (ty := .object "TeamRooms$Table") (C := RX2) (T := TX2) (N := 3) hx hb htb kin2 tyX2 tyX2_ok nmX2 hown hK hP hD hS 0 rfl rfl 1 (by decide) (htb _ bw1_158) (fun _ h9 => h9) rfl hin rfl (by decide +kernel) rfl rfl (Nat.le_of_ble_eq_true rfl) dX2_init_14 (fun H locs hP hD hS => ?_)
  have hP : va_P D vwCl ((d, .inr (2, [.ref (a 0), .ref (a 1), .null])) :: wVn cI a V) H := hP
  have hD : va_D A ((d, .inr (2, [.ref (a 0), .ref (a 1), .null])) :: wVn cI a V) := hD
  refine lv_aload_n hx hb dX2_init_17 rfl (lv_at hl 0 rfl) ?_
  refine lv_aload_n hx hb dX2_init_18 rfl (lv_at hl 1 rfl) ?_
  refine va_get (ci := 7) (v := .ref (a 3)) (C := RX7) (T := TX7) (N := 6) hx hb htb kin7 hown hK hP 1 rfl rfl 1 (by decide) (htb _ bw1_75) (fun _ h9 => h9) rfl dX2_init_19 ?_
  refine va_putF (D := D) (ci := 2) (v := .ref (a 3)) (ty := .object "TeamRooms$Table") (C := RX2) (T := TX2) (N := 3) hx hb htb kin2 tyX2 tyX2_ok nmX2 hown hK hP hD hS 0 rfl rfl 2 (by decide) (htb _ bw1_159) (fun _ h9 => h9) rfl hin rfl (by decide +kernel) rfl rfl (Nat.le_of_ble_eq_true rfl) dX2_init_22 (fun H locs hP hD hS => ?_)
  have hP : va_P D vwCl ((d, .inr (2, [.ref (a 0), .ref (a 1), .ref (a 3)])) :: wVn cI a V) H := hP
  have hD : va_D A ((d, .inr (2, [.ref (a 0), .ref (a 1), .ref (a 3)])) :: wVn cI a V) := hD
  exact rt_C (wf := fun _ : Unit => wOl cI d a V) () hx hb hr hlocks hS hP hD trivial dX2_init_25

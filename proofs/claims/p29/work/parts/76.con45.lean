/-! Slot(), State() -/
abbrev vX4_init : List Cond := Cond.code yX4_init cX4_init 1 none :: BIG
theorem gX4_init : GoodIn BIG vX4_init := gdN bw1_106
theorem hdX4_init : yX4_init.cls ≠ "java/lang/invoke/MethodHandle" ∧ yX4_init.cls ≠ "java/lang/invoke/VarHandle" ∧ (parseMethodDescriptor yX4_init.desc).map (fun d => d.parameters.length) = some 0 := by decide +kernel
def rmX4_init : Room := { frames := 3, cells := 11, slots := 315, locals := 90 }
def wSl (cI : ClassId) (h : Nat) (u : (Nat → Nat) × Vn) : va_W := (h, .inr (4, [.ref (u.1 0), .int 0])) :: wVn cI u.1 u.2
set_option maxHeartbeats 8000000 in
set_option maxRecDepth 100000 in
theorem kX4_init (l : Launch) (D : va_G) (cS : ClassId) (g : Nat → Nat) (cI : ClassId) (v : Nat) : mC l yX4_init vX4_init rmX4_init D cI cS g [.ref v] [(v, .inr (4, [.null, .int 0]))] (fun _ : (Nat → Nat) × Vn => True) (fun u => wSl cI v u) 11 315 := by
  refine st_C rfl (by decide) rfl (Nat.le_of_ble_eq_true rfl) ?_
  intro p e s m args below meth c A ls hx hb hr hml hlocks hin hown hts hA hK hD hG hO hP hS hl
  have hown : s.vm.findClass RX4 = some m.cls := hown
  have htb : ∀ w ∈ BIG, w.before args s = true := fun w h => hts w (List.mem_cons_of_mem _ h)
  have hl : lv_has ls 1 [(0, .ref v)] := hl
  refine lv_aload_n hx hb dX4_init_0 rfl (lv_at hl 0 rfl) ?_
  refine ob_I hx hb hown (htb _ bw1_107) (htb _ bw1_18) (htb _ bw1_19) (hl.1.trans hml.symm) dX4_init_1 (Nat.le_of_ble_eq_true rfl) (Nat.le_of_ble_eq_true rfl) ?_
  refine lv_aload_n hx hb dX4_init_4 rfl (lv_at hl 0 rfl) ?_
  refine va_new (ci := 7) (fs := [.null, .null, .null, .null, .null, .int 0]) (C := RX7) (T := TX7) (N := 6) hx hb htb kin7 tyX7 tyX7_ok hown (htb _ bw1_108) (htb _ bw1_27) (htb _ bw1_3) hK hP hD hS hA rfl (fun j hj => by rcases (show j = 0 ∨ j = 1 ∨ j = 2 ∨ j = 3 ∨ j = 4 ∨ j = 5 by omega) with rfl | rfl | rfl | rfl | rfl | rfl <;> rfl) (Nat.le_of_ble_eq_true rfl) (Nat.le_of_ble_eq_true rfl) dX4_init_5 (fun q H hP hD hS => ?_)
  have hP := va_P.perm List.perm_append_comm hP
  have hD := va_D.perm List.perm_append_comm hD
  refine lv_dup hx hb dX4_init_8 rfl ?_
  refine cl_C ⟨hx, hb, hml, hown, htb⟩ (kX7_init l D cS g cI q) (cwI 0 htb gX7_init rfl rfl rfl (htb _ bw1_3) (htb _ bw1_109) (htb _ bw1_29) rfl hdX7_init ⟨Nat.le_of_ble_eq_true rfl, Nat.le_of_ble_eq_true rfl⟩) hK hD hG hO hA hP hS hl.1 rfl rfl (Nat.le_of_ble_eq_true rfl) ⟨Nat.le_of_ble_eq_true rfl, Nat.le_of_ble_eq_true rfl⟩ dX4_init_9 (fun u H locs hu hP hD hS => ?_)
  have hP := va_P.perm List.perm_middle hP
  have hD := va_D.perm List.perm_middle hD
  refine va_putF (D := D) (ci := 4) (v := .ref q) (ty := .object "TeamRooms$Venue") (C := RX4) (T := TX4) (N := 2) hx hb htb kin4 tyX4 tyX4_ok nmX4 hown hK hP hD hS 0 rfl rfl 0 (by decide) (htb _ bw1_110) (fun _ h9 => h9) rfl hin rfl (by decide +kernel) rfl rfl (Nat.le_of_ble_eq_true rfl) dX4_init_12 (fun H locs hP hD hS => ?_)
  have hq := hu.1
  have hP : va_P D vwCl ((v, .inr (4, [.ref q, .int 0])) :: (wVn cI u.1 u.2 ++ [])) H := hP
  have hD : va_D A ((v, .inr (4, [.ref q, .int 0])) :: (wVn cI u.1 u.2 ++ [])) := hD
  rw [List.append_nil, ← hq] at hP hD
  exact rt_C (wf := fun u => wSl cI v u) u hx hb hr hlocks hS hP hD trivial dX4_init_15
def zst (b : Nat) (a1 : Nat → Nat) (s2 : Nat) (a2 : Nat → Nat) (s3 : Nat) (a3 : Nat → Nat) : Nat → Nat := fun k => if k = 0 then b else if k < 12 then a1 (k - 1) else if k = 12 then s2 else if k < 24 then a2 (k - 13) else if k = 24 then s3 else a3 (k - 25)
abbrev vX5_init : List Cond := Cond.code yX5_init cX5_init 1 none :: BIG
theorem gX5_init : GoodIn BIG vX5_init := gdN bw1_24
theorem hdX5_init : yX5_init.cls ≠ "java/lang/invoke/MethodHandle" ∧ yX5_init.cls ≠ "java/lang/invoke/VarHandle" ∧ (parseMethodDescriptor yX5_init.desc).map (fun d => d.parameters.length) = some 0 := by decide +kernel
def rmX5_init : Room := { frames := 4, cells := 35, slots := 949, locals := 120 }
def St0 (b : Nat) (u : (Nat → Nat) × Sn) : Prop := u.1 0 = b ∧ RepX u.2.1 A00 ∧ u.2.2.1.1 = iI 0 ∧ u.2.2.2.1 = iI 0
set_option maxHeartbeats 8000000 in
set_option maxRecDepth 100000 in
theorem kX5_init (l : Launch) (D : va_G) (cS : ClassId) (g : Nat → Nat) (cI : ClassId) (v : Nat) : mC l yX5_init vX5_init rmX5_init D cI cS g [.ref v] [(v, .inr (5, [.null, .null, .null]))] (St0 v) (fun u => wSt cI u.1 u.2) 35 949 := by
  refine st_C rfl (by decide) rfl (Nat.le_of_ble_eq_true rfl) ?_
  intro p e s m args below meth c A ls hx hb hr hml hlocks hin hown hts hA hK hD hG hO hP hS hl
  have hown : s.vm.findClass RX5 = some m.cls := hown
  have htb : ∀ w ∈ BIG, w.before args s = true := fun w h => hts w (List.mem_cons_of_mem _ h)
  have hl : lv_has ls 1 [(0, .ref v)] := hl
  refine lv_aload_n hx hb dX5_init_0 rfl (lv_at hl 0 rfl) ?_
  refine ob_I hx hb hown (htb _ bw1_25) (htb _ bw1_18) (htb _ bw1_19) (hl.1.trans hml.symm) dX5_init_1 (Nat.le_of_ble_eq_true rfl) (Nat.le_of_ble_eq_true rfl) ?_
  refine lv_aload_n hx hb dX5_init_4 rfl (lv_at hl 0 rfl) ?_
  refine va_new (ci := 7) (fs := [.null, .null, .null, .null, .null, .int 0]) (C := RX7) (T := TX7) (N := 6) hx hb htb kin7 tyX7 tyX7_ok hown (htb _ bw1_26) (htb _ bw1_27) (htb _ bw1_3) hK hP hD hS hA rfl (fun j hj => by rcases (show j = 0 ∨ j = 1 ∨ j = 2 ∨ j = 3 ∨ j = 4 ∨ j = 5 by omega) with rfl | rfl | rfl | rfl | rfl | rfl <;> rfl) (Nat.le_of_ble_eq_true rfl) (Nat.le_of_ble_eq_true rfl) dX5_init_5 (fun q1 H hP hD hS => ?_)
  have hP := va_P.perm List.perm_append_comm hP
  have hD := va_D.perm List.perm_append_comm hD
  refine lv_dup hx hb dX5_init_8 rfl ?_
  refine cl_C ⟨hx, hb, hml, hown, htb⟩ (kX7_init l D cS g cI q1) (cwI 0 htb gX7_init rfl rfl rfl (htb _ bw1_3) (htb _ bw1_28) (htb _ bw1_29) rfl hdX7_init ⟨Nat.le_of_ble_eq_true rfl, Nat.le_of_ble_eq_true rfl⟩) hK hD hG hO hA hP hS hl.1 rfl rfl (Nat.le_of_ble_eq_true rfl) ⟨Nat.le_of_ble_eq_true rfl, Nat.le_of_ble_eq_true rfl⟩ dX5_init_9 (fun u1 H locs hu1 hP hD hS => ?_)
  have hP := va_P.perm List.perm_middle hP
  have hD := va_D.perm List.perm_middle hD
  refine va_putF (D := D) (ci := 5) (v := .ref q1) (ty := .object "TeamRooms$Venue") (C := RX5) (T := TX5) (N := 3) hx hb htb kin5 tyX5 tyX5_ok nmX5 hown hK hP hD hS 0 rfl rfl 0 (by decide) (htb _ bw1_118) (fun _ h9 => h9) rfl hin rfl (by decide +kernel) rfl rfl (Nat.le_of_ble_eq_true rfl) dX5_init_12 (fun H locs hP hD hS => ?_)
  have hP : va_P D vwCl ((v, .inr (5, [.ref q1, .null, .null])) :: (wVn cI u1.1 u1.2 ++ [])) H := hP
  have hD : va_D A ((v, .inr (5, [.ref q1, .null, .null])) :: (wVn cI u1.1 u1.2 ++ [])) := hD
  refine lv_aload_n hx hb dX5_init_15 rfl (lv_at hl 0 rfl) ?_
  refine va_new (ci := 4) (fs := [.null, .int 0]) (C := RX4) (T := TX4) (N := 2) hx hb htb kin4 tyX4 tyX4_ok hown (htb _ bw1_102) (htb _ bw1_103) (htb _ bw1_6) hK hP hD hS hA rfl (fun j hj => by rcases (show j = 0 ∨ j = 1 by omega) with rfl | rfl <;> rfl) (Nat.le_of_ble_eq_true rfl) (Nat.le_of_ble_eq_true rfl) dX5_init_16 (fun q2 H hP hD hS => ?_)
  have hP := va_P.perm List.perm_append_comm hP
  have hD := va_D.perm List.perm_append_comm hD
  refine lv_dup hx hb dX5_init_19 rfl ?_
  refine cl_C ⟨hx, hb, hml, hown, htb⟩ (kX4_init l D cS g cI q2) (cwI 0 htb gX4_init rfl rfl rfl (htb _ bw1_6) (htb _ bw1_104) (htb _ bw1_105) rfl hdX4_init ⟨Nat.le_of_ble_eq_true rfl, Nat.le_of_ble_eq_true rfl⟩) hK hD hG hO hA hP hS hl.1 rfl rfl (Nat.le_of_ble_eq_true rfl) ⟨Nat.le_of_ble_eq_true rfl, Nat.le_of_ble_eq_true rfl⟩ dX5_init_20 (fun u2 H locs _ hP hD hS => ?_)
  have hP := va_P.perm List.perm_middle hP
  have hD := va_D.perm List.perm_middle hD
  refine va_putF (D := D) (ci := 5) (v := .ref q2) (ty := .object "TeamRooms$Slot") (C := RX5) (T := TX5) (N := 3) hx hb htb kin5 tyX5 tyX5_ok nmX5 hown hK hP hD hS 0 rfl rfl 1 (by decide) (htb _ bw1_120) (fun _ h9 => h9) rfl hin rfl (by decide +kernel) rfl rfl (Nat.le_of_ble_eq_true rfl) dX5_init_23 (fun H locs hP hD hS => ?_)
  have hP : va_P D vwCl ((v, .inr (5, [.ref q1, .ref q2, .null])) :: (wSl cI q2 u2 ++ (wVn cI u1.1 u1.2 ++ []))) H := hP
  have hD : va_D A ((v, .inr (5, [.ref q1, .ref q2, .null])) :: (wSl cI q2 u2 ++ (wVn cI u1.1 u1.2 ++ []))) := hD
  refine lv_aload_n hx hb dX5_init_26 rfl (lv_at hl 0 rfl) ?_
  refine va_new (ci := 4) (fs := [.null, .int 0]) (C := RX4) (T := TX4) (N := 2) hx hb htb kin4 tyX4 tyX4_ok hown (htb _ bw1_102) (htb _ bw1_103) (htb _ bw1_6) hK hP hD hS hA rfl (fun j hj => by rcases (show j = 0 ∨ j = 1 by omega) with rfl | rfl <;> rfl) (Nat.le_of_ble_eq_true rfl) (Nat.le_of_ble_eq_true rfl) dX5_init_27 (fun q3 H hP hD hS => ?_)
  have hP := va_P.perm List.perm_append_comm hP
  have hD := va_D.perm List.perm_append_comm hD
  refine lv_dup hx hb dX5_init_30 rfl ?_
  refine cl_C ⟨hx, hb, hml, hown, htb⟩ (kX4_init l D cS g cI q3) (cwI 0 htb gX4_init rfl rfl rfl (htb _ bw1_6) (htb _ bw1_104) (htb _ bw1_105) rfl hdX4_init ⟨Nat.le_of_ble_eq_true rfl, Nat.le_of_ble_eq_true rfl⟩) hK hD hG hO hA hP hS hl.1 rfl rfl (Nat.le_of_ble_eq_true rfl) ⟨Nat.le_of_ble_eq_true rfl, Nat.le_of_ble_eq_true rfl⟩ dX5_init_31 (fun u3 H locs _ hP hD hS => ?_)
  have hP := va_P.perm List.perm_middle hP
  have hD := va_D.perm List.perm_middle hD
  refine va_putF (D := D) (ci := 5) (v := .ref q3) (ty := .object "TeamRooms$Slot") (C := RX5) (T := TX5) (N := 3) hx hb htb kin5 tyX5 tyX5_ok nmX5 hown hK hP hD hS 0 rfl rfl 2 (by decide) (htb _ bw1_121) (fun _ h9 => h9) rfl hin rfl (by decide +kernel) rfl rfl (Nat.le_of_ble_eq_true rfl) dX5_init_34 (fun H locs hP hD hS => ?_)
  have hP : va_P D vwCl ((v, .inr (5, [.ref q1, .ref q2, .ref q3])) :: (wSl cI q3 u3 ++ (wSl cI q2 u2 ++ (wVn cI u1.1 u1.2 ++ [])))) H := hP
  have hD : va_D A ((v, .inr (5, [.ref q1, .ref q2, .ref q3])) :: (wSl cI q3 u3 ++ (wSl cI q2 u2 ++ (wVn cI u1.1 u1.2 ++ [])))) := hD
  have hq := hu1.1
  rw [← hq] at hP hD
  have pm : List.Perm ((v, .inr (5, [.ref (u1.1 0), .ref q2, .ref q3])) :: (wSl cI q3 u3 ++ (wSl cI q2 u2 ++ (wVn cI u1.1 u1.2 ++ []))) : va_W) (wSt cI (zst v u1.1 q2 u2.1 q3 u3.1) (u1.2, (iI 0, u2.2), (iI 0, u3.2))) := by
    show List.Perm _ ((v, .inr (5, [.ref (u1.1 0), .ref q2, .ref q3])) :: (wVn cI u1.1 u1.2 ++ wSl cI q2 u2 ++ wSl cI q3 u3) : va_W)
    exact permc (fun i x => by simp only [List.count_append, List.count_cons, List.count_nil]; omega)
  exact rt_C (wf := fun u : (Nat → Nat) × Sn => wSt cI u.1 u.2) (zst v u1.1 q2 u2.1 q3 u3.1, (u1.2, (iI 0, u2.2), (iI 0, u3.2))) hx hb hr hlocks hS (va_P.perm pm hP) (va_D.perm pm hD) ⟨rfl, hu1.2, rfl, rfl⟩ dX5_init_37

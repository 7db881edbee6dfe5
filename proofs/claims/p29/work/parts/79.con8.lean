/-! TeamRooms() -/
abbrev vX8_init : List Cond := Cond.code yX8_init cX8_init 1 none :: BIG
theorem gX8_init : GoodIn BIG vX8_init := gdN bw1_16
theorem hdX8_init : yX8_init.cls ≠ "java/lang/invoke/MethodHandle" ∧ yX8_init.cls ≠ "java/lang/invoke/VarHandle" ∧ (parseMethodDescriptor yX8_init.desc).map (fun d => d.parameters.length) = some 0 := by decide +kernel
def rmX8_init : Room := { frames := 6, cells := 259, slots := 6830, locals := 180 }
abbrev XA : Type := Nat × Nat × Nat × Nat × (Nat → Nat → Nat) × (Nat → Nat) × (Nat → Nat) × Xm
def wXA (cI cS : ClassId) (v : Nat) (u : XA) : va_W := wXX cI cS v u.1 u.2.1 u.2.2.1 u.2.2.2.1 u.2.2.2.2.1 u.2.2.2.2.2.1 u.2.2.2.2.2.2.1 u.2.2.2.2.2.2.2
def H00 : Int → FS := fun _ => (A00, none, none)
def X00 (M : Xm) : Prop := StX M.1 (A00, none, none) ∧ HX M.2.1 0 H00 ∧ M.2.2 = P00
set_option maxHeartbeats 8000000 in
set_option maxRecDepth 100000 in
theorem kX8_init (l : Launch) (D : va_G) (cS : ClassId) (g : Nat → Nat) (cI : ClassId) (v : Nat) : mC l yX8_init vX8_init rmX8_init D cI cS g [.ref v] [(v, .inr (8, [.null, .null, .null, .null, .null, .null]))] (fun u : XA => X00 u.2.2.2.2.2.2.2) (wXA cI cS v) 259 6830 := by
  refine st_C rfl (by decide) rfl (Nat.le_of_ble_eq_true rfl) ?_
  intro p e s m args below meth c A ls hx hb hr hml hlocks hin hown hts hA hK hD hG hO hP hS hl
  have hown : s.vm.findClass RX8 = some m.cls := hown
  have htb : ∀ w ∈ BIG, w.before args s = true := fun w h => hts w (List.mem_cons_of_mem _ h)
  have hl : lv_has ls 1 [(0, .ref v)] := hl
  refine lv_aload_n hx hb dX8_init_0 rfl (lv_at hl 0 rfl) ?_
  refine ob_I hx hb hown (htb _ bw1_17) (htb _ bw1_18) (htb _ bw1_19) (hl.1.trans hml.symm) dX8_init_1 (Nat.le_of_ble_eq_true rfl) (Nat.le_of_ble_eq_true rfl) ?_
  refine lv_aload_n hx hb dX8_init_4 rfl (lv_at hl 0 rfl) ?_
  refine va_new (ci := 5) (fs := [.null, .null, .null]) (C := RX5) (T := TX5) (N := 3) hx hb htb kin5 tyX5 tyX5_ok hown (htb _ bw1_20) (htb _ bw1_21) (htb _ bw1_2) hK hP hD hS hA rfl (fun j hj => by rcases (show j = 0 ∨ j = 1 ∨ j = 2 by omega) with rfl | rfl | rfl <;> rfl) (Nat.le_of_ble_eq_true rfl) (Nat.le_of_ble_eq_true rfl) dX8_init_5 (fun q1 H hP hD hS => ?_)
  have hP := va_P.perm List.perm_append_comm hP
  have hD := va_D.perm List.perm_append_comm hD
  refine lv_dup hx hb dX8_init_8 rfl ?_
  refine cl_C ⟨hx, hb, hml, hown, htb⟩ (kX5_init l D cS g cI q1) (cwI 0 htb gX5_init rfl rfl rfl (htb _ bw1_2) (htb _ bw1_22) (htb _ bw1_23) rfl hdX5_init ⟨Nat.le_of_ble_eq_true rfl, Nat.le_of_ble_eq_true rfl⟩) hK hD hG hO hA hP hS hl.1 rfl rfl (Nat.le_of_ble_eq_true rfl) ⟨Nat.le_of_ble_eq_true rfl, Nat.le_of_ble_eq_true rfl⟩ dX8_init_9 (fun u1 H locs hu1 hP hD hS => ?_)
  obtain ⟨hq1, hx1, hx2, hx3⟩ := hu1
  rw [← hq1]
  have hP := va_P.perm List.perm_middle hP
  have hD := va_D.perm List.perm_middle hD
  refine va_putF (D := D) (ci := 8) (v := .ref (u1.1 0)) (ty := .object "TeamRooms$State") (C := RX8) (T := TX8) (N := 6) hx hb htb kin8 tyX8 tyX8_ok nmX8 hown hK hP hD hS 0 rfl rfl 0 (by decide) (htb _ bw1_205) (fun _ h9 => h9) rfl hin rfl (by decide +kernel) rfl rfl (Nat.le_of_ble_eq_true rfl) dX8_init_12 (fun H locs hP hD hS => ?_)
  have hP : va_P D vwCl ((v, .inr (8, [.ref (u1.1 0), .null, .null, .null, .null, .null])) :: (wSt cI u1.1 u1.2 ++ [])) H := hP
  have hD : va_D A ((v, .inr (8, [.ref (u1.1 0), .null, .null, .null, .null, .null])) :: (wSt cI u1.1 u1.2 ++ [])) := hD
  refine lv_aload_n hx hb dX8_init_15 rfl (lv_at hl 0 rfl) ?_
  refine lv_aload_n hx hb dX8_init_16 rfl (lv_at hl 0 rfl) ?_
  refine va_get (ci := 8) (v := .ref (u1.1 0)) (C := RX8) (T := TX8) (N := 6) hx hb htb kin8 hown hK hP 0 rfl rfl 0 (by decide) (htb _ bw1_205) (fun _ h9 => h9) rfl dX8_init_17 ?_
  refine va_get (ci := 5) (v := .ref (u1.1 1)) (C := RX5) (T := TX5) (N := 3) hx hb htb kin5 hown hK hP 1 rfl rfl 0 (by decide) (htb _ bw1_119) (fun _ h9 => h9) rfl dX8_init_20 ?_
  refine va_putF (D := D) (ci := 8) (v := .ref (u1.1 1)) (ty := .object "TeamRooms$Venue") (C := RX8) (T := TX8) (N := 6) hx hb htb kin8 tyX8 tyX8_ok nmX8 hown hK hP hD hS 0 rfl rfl 1 (by decide) (htb _ bw1_206) (fun _ h9 => h9) rfl hin rfl (by decide +kernel) rfl rfl (Nat.le_of_ble_eq_true rfl) dX8_init_23 (fun H locs hP hD hS => ?_)
  have hP : va_P D vwCl ((v, .inr (8, [.ref (u1.1 0), .ref (u1.1 1), .null, .null, .null, .null])) :: (wSt cI u1.1 u1.2 ++ [])) H := hP
  have hD : va_D A ((v, .inr (8, [.ref (u1.1 0), .ref (u1.1 1), .null, .null, .null, .null])) :: (wSt cI u1.1 u1.2 ++ [])) := hD
  refine lv_aload_n hx hb dX8_init_26 rfl (lv_at hl 0 rfl) ?_
  refine va_new (ci := 0) (fs := [.null, .null, .null, .null, .null]) (C := RX0) (T := TX0) (N := 5) hx hb htb kin0 tyX0 tyX0_ok hown (htb _ bw1_129) (htb _ bw1_130) (htb _ bw1_7) hK hP hD hS hA rfl (fun j hj => by rcases (show j = 0 ∨ j = 1 ∨ j = 2 ∨ j = 3 ∨ j = 4 by omega) with rfl | rfl | rfl | rfl | rfl <;> rfl) (Nat.le_of_ble_eq_true rfl) (Nat.le_of_ble_eq_true rfl) dX8_init_27 (fun xd H hP hD hS => ?_)
  have pm : List.Perm ((v, .inr (8, [.ref (u1.1 0), .ref (u1.1 1), .null, .null, .null, .null])) :: (wSt cI u1.1 u1.2 ++ []) ++ [(xd, .inr (0, [.null, .null, .null, .null, .null]))] : va_W) (((xd, .inr (0, [.null, .null, .null, .null, .null])) :: wVn cI (fun k => u1.1 (1 + k)) u1.2.1) ++ ((v, .inr (8, [.ref (u1.1 0), .ref (u1.1 1), .null, .null, .null, .null])) :: (u1.1 0, .inr (5, [.ref (u1.1 1), .ref (u1.1 12), .ref (u1.1 24)])) :: (((u1.1 12, .inr (4, [.ref (u1.1 13), .int u1.2.2.1.1])) :: wVn cI (fun k => u1.1 (13 + k)) u1.2.2.1.2) ++ ((u1.1 24, .inr (4, [.ref (u1.1 25), .int u1.2.2.2.1])) :: wVn cI (fun k => u1.1 (25 + k)) u1.2.2.2.2)))) := by
    show List.Perm ((v, .inr (8, [.ref (u1.1 0), .ref (u1.1 1), .null, .null, .null, .null])) :: (((u1.1 0, .inr (5, [.ref (u1.1 1), .ref (u1.1 12), .ref (u1.1 24)])) :: (wVn cI (fun k => u1.1 (1 + k)) u1.2.1 ++ ((u1.1 12, .inr (4, [.ref (u1.1 13), .int u1.2.2.1.1])) :: wVn cI (fun k => u1.1 (13 + k)) u1.2.2.1.2) ++ ((u1.1 24, .inr (4, [.ref (u1.1 25), .int u1.2.2.2.1])) :: wVn cI (fun k => u1.1 (25 + k)) u1.2.2.2.2))) ++ []) ++ [(xd, .inr (0, [.null, .null, .null, .null, .null]))] : va_W) _
    exact permc (fun i x => by simp only [List.count_append, List.count_cons, List.count_nil]; omega)
  have hP := va_P.perm pm hP
  have hD := va_D.perm pm hD
  clear pm
  refine lv_dup hx hb dX8_init_30 rfl ?_
  refine lv_aload_n hx hb dX8_init_31 rfl (lv_at hl 0 rfl) ?_
  refine va_get (ci := 8) (v := .ref (u1.1 1)) (C := RX8) (T := TX8) (N := 6) hx hb htb kin8 hown hK hP 12 rfl rfl 1 (by decide) (htb _ bw1_206) (fun _ h9 => h9) rfl dX8_init_32 ?_
  refine cl_C ⟨hx, hb, hml, hown, htb⟩ (kX0_init l D cS g cI xd (fun k => u1.1 (1 + k)) u1.2.1) (cwI 1 htb gX0_init rfl rfl rfl (htb _ bw1_7) (htb _ bw1_131) (htb _ bw1_132) rfl hdX0_init ⟨Nat.le_of_ble_eq_true rfl, Nat.le_of_ble_eq_true rfl⟩) hK hD hG hO hA hP hS hl.1 rfl rfl (Nat.le_of_ble_eq_true rfl) ⟨Nat.le_of_ble_eq_true rfl, Nat.le_of_ble_eq_true rfl⟩ dX8_init_35 (fun _ H locs _ hP hD hS => ?_)
  have pm : List.Perm (wDk cI xd (fun k => u1.1 (1 + k)) u1.2.1 ++ ((v, .inr (8, [.ref (u1.1 0), .ref (u1.1 1), .null, .null, .null, .null])) :: (u1.1 0, .inr (5, [.ref (u1.1 1), .ref (u1.1 12), .ref (u1.1 24)])) :: (((u1.1 12, .inr (4, [.ref (u1.1 13), .int u1.2.2.1.1])) :: wVn cI (fun k => u1.1 (13 + k)) u1.2.2.1.2) ++ ((u1.1 24, .inr (4, [.ref (u1.1 25), .int u1.2.2.2.1])) :: wVn cI (fun k => u1.1 (25 + k)) u1.2.2.2.2))) : va_W) ((v, .inr (8, [.ref (u1.1 0), .ref (u1.1 1), .null, .null, .null, .null])) :: (xd, .inr (0, [.ref (u1.1 1), .ref (u1.1 2), .ref (u1.1 4), .ref (u1.1 6), .ref (u1.1 8)])) :: (wSt cI u1.1 u1.2 ++ [])) := by
    show List.Perm (((xd, .inr (0, [.ref (u1.1 1), .ref (u1.1 2), .ref (u1.1 4), .ref (u1.1 6), .ref (u1.1 8)])) :: wVn cI (fun k => u1.1 (1 + k)) u1.2.1) ++ ((v, .inr (8, [.ref (u1.1 0), .ref (u1.1 1), .null, .null, .null, .null])) :: (u1.1 0, .inr (5, [.ref (u1.1 1), .ref (u1.1 12), .ref (u1.1 24)])) :: (((u1.1 12, .inr (4, [.ref (u1.1 13), .int u1.2.2.1.1])) :: wVn cI (fun k => u1.1 (13 + k)) u1.2.2.1.2) ++ ((u1.1 24, .inr (4, [.ref (u1.1 25), .int u1.2.2.2.1])) :: wVn cI (fun k => u1.1 (25 + k)) u1.2.2.2.2))) : va_W) ((v, .inr (8, [.ref (u1.1 0), .ref (u1.1 1), .null, .null, .null, .null])) :: (xd, .inr (0, [.ref (u1.1 1), .ref (u1.1 2), .ref (u1.1 4), .ref (u1.1 6), .ref (u1.1 8)])) :: (((u1.1 0, .inr (5, [.ref (u1.1 1), .ref (u1.1 12), .ref (u1.1 24)])) :: (wVn cI (fun k => u1.1 (1 + k)) u1.2.1 ++ ((u1.1 12, .inr (4, [.ref (u1.1 13), .int u1.2.2.1.1])) :: wVn cI (fun k => u1.1 (13 + k)) u1.2.2.1.2) ++ ((u1.1 24, .inr (4, [.ref (u1.1 25), .int u1.2.2.2.1])) :: wVn cI (fun k => u1.1 (25 + k)) u1.2.2.2.2))) ++ []))
    exact permc (fun i x => by simp only [List.count_append, List.count_cons, List.count_nil]; omega)
  have hP := va_P.perm pm hP
  have hD := va_D.perm pm hD
  clear pm
  refine va_putF (D := D) (ci := 8) (v := .ref xd) (ty := .object "TeamRooms$Desk") (C := RX8) (T := TX8) (N := 6) hx hb htb kin8 tyX8 tyX8_ok nmX8 hown hK hP hD hS 0 rfl rfl 2 (by decide) (htb _ bw1_207) (fun _ h9 => h9) rfl hin rfl (by decide +kernel) rfl rfl (Nat.le_of_ble_eq_true rfl) dX8_init_38 (fun H locs hP hD hS => ?_)
  have hP : va_P D vwCl ((v, .inr (8, [.ref (u1.1 0), .ref (u1.1 1), .ref xd, .null, .null, .null])) :: (xd, .inr (0, [.ref (u1.1 1), .ref (u1.1 2), .ref (u1.1 4), .ref (u1.1 6), .ref (u1.1 8)])) :: (wSt cI u1.1 u1.2 ++ [])) H := hP
  have hD : va_D A ((v, .inr (8, [.ref (u1.1 0), .ref (u1.1 1), .ref xd, .null, .null, .null])) :: (xd, .inr (0, [.ref (u1.1 1), .ref (u1.1 2), .ref (u1.1 4), .ref (u1.1 6), .ref (u1.1 8)])) :: (wSt cI u1.1 u1.2 ++ [])) := hD
  refine lv_aload_n hx hb dX8_init_41 rfl (lv_at hl 0 rfl) ?_
  refine va_new (ci := 2) (fs := [.null, .null, .null]) (C := RX2) (T := TX2) (N := 3) hx hb htb kin2 tyX2 tyX2_ok hown (htb _ bw1_151) (htb _ bw1_152) (htb _ bw1_8) hK hP hD hS hA rfl (fun j hj => by rcases (show j = 0 ∨ j = 1 ∨ j = 2 by omega) with rfl | rfl | rfl <;> rfl) (Nat.le_of_ble_eq_true rfl) (Nat.le_of_ble_eq_true rfl) dX8_init_42 (fun xo H hP hD hS => ?_)
  have pm : List.Perm ((v, .inr (8, [.ref (u1.1 0), .ref (u1.1 1), .ref xd, .null, .null, .null])) :: (xd, .inr (0, [.ref (u1.1 1), .ref (u1.1 2), .ref (u1.1 4), .ref (u1.1 6), .ref (u1.1 8)])) :: (wSt cI u1.1 u1.2 ++ []) ++ [(xo, .inr (2, [.null, .null, .null]))] : va_W) (((xo, .inr (2, [.null, .null, .null])) :: wVn cI (fun k => u1.1 (1 + k)) u1.2.1) ++ ((v, .inr (8, [.ref (u1.1 0), .ref (u1.1 1), .ref xd, .null, .null, .null])) :: (xd, .inr (0, [.ref (u1.1 1), .ref (u1.1 2), .ref (u1.1 4), .ref (u1.1 6), .ref (u1.1 8)])) :: (u1.1 0, .inr (5, [.ref (u1.1 1), .ref (u1.1 12), .ref (u1.1 24)])) :: (((u1.1 12, .inr (4, [.ref (u1.1 13), .int u1.2.2.1.1])) :: wVn cI (fun k => u1.1 (13 + k)) u1.2.2.1.2) ++ ((u1.1 24, .inr (4, [.ref (u1.1 25), .int u1.2.2.2.1])) :: wVn cI (fun k => u1.1 (25 + k)) u1.2.2.2.2)))) := by
    show List.Perm ((v, .inr (8, [.ref (u1.1 0), .ref (u1.1 1), .ref xd, .null, .null, .null])) :: (xd, .inr (0, [.ref (u1.1 1), .ref (u1.1 2), .ref (u1.1 4), .ref (u1.1 6), .ref (u1.1 8)])) :: (((u1.1 0, .inr (5, [.ref (u1.1 1), .ref (u1.1 12), .ref (u1.1 24)])) :: (wVn cI (fun k => u1.1 (1 + k)) u1.2.1 ++ ((u1.1 12, .inr (4, [.ref (u1.1 13), .int u1.2.2.1.1])) :: wVn cI (fun k => u1.1 (13 + k)) u1.2.2.1.2) ++ ((u1.1 24, .inr (4, [.ref (u1.1 25), .int u1.2.2.2.1])) :: wVn cI (fun k => u1.1 (25 + k)) u1.2.2.2.2))) ++ []) ++ [(xo, .inr (2, [.null, .null, .null]))] : va_W) _
    exact permc (fun i x => by simp only [List.count_append, List.count_cons, List.count_nil]; omega)
  have hP := va_P.perm pm hP
  have hD := va_D.perm pm hD
  clear pm
  refine lv_dup hx hb dX8_init_45 rfl ?_
  refine lv_aload_n hx hb dX8_init_46 rfl (lv_at hl 0 rfl) ?_
  refine va_get (ci := 8) (v := .ref (u1.1 1)) (C := RX8) (T := TX8) (N := 6) hx hb htb kin8 hown hK hP 12 rfl rfl 1 (by decide) (htb _ bw1_206) (fun _ h9 => h9) rfl dX8_init_47 ?_
  refine cl_C ⟨hx, hb, hml, hown, htb⟩ (kX2_init l D cS g cI xo (fun k => u1.1 (1 + k)) u1.2.1) (cwI 1 htb gX2_init rfl rfl rfl (htb _ bw1_8) (htb _ bw1_153) (htb _ bw1_154) rfl hdX2_init ⟨Nat.le_of_ble_eq_true rfl, Nat.le_of_ble_eq_true rfl⟩) hK hD hG hO hA hP hS hl.1 rfl rfl (Nat.le_of_ble_eq_true rfl) ⟨Nat.le_of_ble_eq_true rfl, Nat.le_of_ble_eq_true rfl⟩ dX8_init_50 (fun _ H locs _ hP hD hS => ?_)
  have pm : List.Perm (wOl cI xo (fun k => u1.1 (1 + k)) u1.2.1 ++ ((v, .inr (8, [.ref (u1.1 0), .ref (u1.1 1), .ref xd, .null, .null, .null])) :: (xd, .inr (0, [.ref (u1.1 1), .ref (u1.1 2), .ref (u1.1 4), .ref (u1.1 6), .ref (u1.1 8)])) :: (u1.1 0, .inr (5, [.ref (u1.1 1), .ref (u1.1 12), .ref (u1.1 24)])) :: (((u1.1 12, .inr (4, [.ref (u1.1 13), .int u1.2.2.1.1])) :: wVn cI (fun k => u1.1 (13 + k)) u1.2.2.1.2) ++ ((u1.1 24, .inr (4, [.ref (u1.1 25), .int u1.2.2.2.1])) :: wVn cI (fun k => u1.1 (25 + k)) u1.2.2.2.2))) : va_W) ((v, .inr (8, [.ref (u1.1 0), .ref (u1.1 1), .ref xd, .null, .null, .null])) :: (xo, .inr (2, [.ref (u1.1 1), .ref (u1.1 2), .ref (u1.1 4)])) :: (xd, .inr (0, [.ref (u1.1 1), .ref (u1.1 2), .ref (u1.1 4), .ref (u1.1 6), .ref (u1.1 8)])) :: (wSt cI u1.1 u1.2 ++ [])) := by
    show List.Perm (((xo, .inr (2, [.ref (u1.1 1), .ref (u1.1 2), .ref (u1.1 4)])) :: wVn cI (fun k => u1.1 (1 + k)) u1.2.1) ++ ((v, .inr (8, [.ref (u1.1 0), .ref (u1.1 1), .ref xd, .null, .null, .null])) :: (xd, .inr (0, [.ref (u1.1 1), .ref (u1.1 2), .ref (u1.1 4), .ref (u1.1 6), .ref (u1.1 8)])) :: (u1.1 0, .inr (5, [.ref (u1.1 1), .ref (u1.1 12), .ref (u1.1 24)])) :: (((u1.1 12, .inr (4, [.ref (u1.1 13), .int u1.2.2.1.1])) :: wVn cI (fun k => u1.1 (13 + k)) u1.2.2.1.2) ++ ((u1.1 24, .inr (4, [.ref (u1.1 25), .int u1.2.2.2.1])) :: wVn cI (fun k => u1.1 (25 + k)) u1.2.2.2.2))) : va_W) ((v, .inr (8, [.ref (u1.1 0), .ref (u1.1 1), .ref xd, .null, .null, .null])) :: (xo, .inr (2, [.ref (u1.1 1), .ref (u1.1 2), .ref (u1.1 4)])) :: (xd, .inr (0, [.ref (u1.1 1), .ref (u1.1 2), .ref (u1.1 4), .ref (u1.1 6), .ref (u1.1 8)])) :: (((u1.1 0, .inr (5, [.ref (u1.1 1), .ref (u1.1 12), .ref (u1.1 24)])) :: (wVn cI (fun k => u1.1 (1 + k)) u1.2.1 ++ ((u1.1 12, .inr (4, [.ref (u1.1 13), .int u1.2.2.1.1])) :: wVn cI (fun k => u1.1 (13 + k)) u1.2.2.1.2) ++ ((u1.1 24, .inr (4, [.ref (u1.1 25), .int u1.2.2.2.1])) :: wVn cI (fun k => u1.1 (25 + k)) u1.2.2.2.2))) ++ []))
    exact permc (fun i x => by simp only [List.count_append, List.count_cons, List.count_nil]; omega)
  have hP := va_P.perm pm hP
  have hD := va_D.perm pm hD
  clear pm
  refine va_putF (D := D) (ci := 8) (v := .ref xo) (ty := .object "TeamRooms$Outlook") (C := RX8) (T := TX8) (N := 6) hx hb htb kin8 tyX8 tyX8_ok nmX8 hown hK hP hD hS 0 rfl rfl 3 (by decide) (htb _ bw1_208) (fun _ h9 => h9) rfl hin rfl (by decide +kernel) rfl rfl (Nat.le_of_ble_eq_true rfl) dX8_init_53 (fun H locs hP hD hS => ?_)
  have hP : va_P D vwCl ((v, .inr (8, [.ref (u1.1 0), .ref (u1.1 1), .ref xd, .ref xo, .null, .null])) :: (xo, .inr (2, [.ref (u1.1 1), .ref (u1.1 2), .ref (u1.1 4)])) :: (xd, .inr (0, [.ref (u1.1 1), .ref (u1.1 2), .ref (u1.1 4), .ref (u1.1 6), .ref (u1.1 8)])) :: (wSt cI u1.1 u1.2 ++ [])) H := hP
  have hD : va_D A ((v, .inr (8, [.ref (u1.1 0), .ref (u1.1 1), .ref xd, .ref xo, .null, .null])) :: (xo, .inr (2, [.ref (u1.1 1), .ref (u1.1 2), .ref (u1.1 4)])) :: (xd, .inr (0, [.ref (u1.1 1), .ref (u1.1 2), .ref (u1.1 4), .ref (u1.1 6), .ref (u1.1 8)])) :: (wSt cI u1.1 u1.2 ++ [])) := hD
  refine lv_aload_n hx hb dX8_init_56 rfl (lv_at hl 0 rfl) ?_
  refine va_new (ci := 1) (fs := [.null, .int 0]) (C := RX1) (T := TX1) (N := 2) hx hb htb kin1 tyX1 tyX1_ok hown (htb _ bw1_167) (htb _ bw1_168) (htb _ bw1_9) hK hP hD hS hA rfl (fun j hj => by rcases (show j = 0 ∨ j = 1 by omega) with rfl | rfl <;> rfl) (Nat.le_of_ble_eq_true rfl) (Nat.le_of_ble_eq_true rfl) dX8_init_57 (fun hh H hP hD hS => ?_)
  have hP := va_P.perm List.perm_append_comm hP
  have hD := va_D.perm List.perm_append_comm hD
  refine lv_dup hx hb dX8_init_60 rfl ?_
  refine cl_C ⟨hx, hb, hml, hown, htb⟩ (kX1_init l D cS g cI hh) (cwI 0 htb gX1_init rfl rfl rfl (htb _ bw1_9) (htb _ bw1_169) (htb _ bw1_170) rfl hdX1_init ⟨Nat.le_of_ble_eq_true rfl, Nat.le_of_ble_eq_true rfl⟩) hK hD hG hO hA hP hS hl.1 rfl rfl (Nat.le_of_ble_eq_true rfl) ⟨Nat.le_of_ble_eq_true rfl, Nat.le_of_ble_eq_true rfl⟩ dX8_init_61 (fun u2 H locs hu2 hP hD hS => ?_)
  have hP := va_P.perm List.perm_middle hP
  have hD := va_D.perm List.perm_middle hD
  refine va_putF (D := D) (ci := 8) (v := .ref hh) (ty := .object "TeamRooms$History") (C := RX8) (T := TX8) (N := 6) hx hb htb kin8 tyX8 tyX8_ok nmX8 hown hK hP hD hS 0 rfl rfl 4 (by decide) (htb _ bw1_209) (fun _ h9 => h9) rfl hin rfl (by decide +kernel) rfl rfl (Nat.le_of_ble_eq_true rfl) dX8_init_64 (fun H locs hP hD hS => ?_)
  have hP : va_P D vwCl ((v, .inr (8, [.ref (u1.1 0), .ref (u1.1 1), .ref xd, .ref xo, .ref hh, .null])) :: (wHi cI cS hh u2.1 u2.2.1 u2.2.2 ++ ((xo, .inr (2, [.ref (u1.1 1), .ref (u1.1 2), .ref (u1.1 4)])) :: (xd, .inr (0, [.ref (u1.1 1), .ref (u1.1 2), .ref (u1.1 4), .ref (u1.1 6), .ref (u1.1 8)])) :: (wSt cI u1.1 u1.2 ++ [])))) H := hP
  have hD : va_D A ((v, .inr (8, [.ref (u1.1 0), .ref (u1.1 1), .ref xd, .ref xo, .ref hh, .null])) :: (wHi cI cS hh u2.1 u2.2.1 u2.2.2 ++ ((xo, .inr (2, [.ref (u1.1 1), .ref (u1.1 2), .ref (u1.1 4)])) :: (xd, .inr (0, [.ref (u1.1 1), .ref (u1.1 2), .ref (u1.1 4), .ref (u1.1 6), .ref (u1.1 8)])) :: (wSt cI u1.1 u1.2 ++ [])))) := hD
  refine lv_aload_n hx hb dX8_init_67 rfl (lv_at hl 0 rfl) ?_
  refine va_new (ci := 3) (fs := [.null, .null, .int 0, .int 0, .int 0, .int 0]) (C := RX3) (T := TX3) (N := 6) hx hb htb kin3 tyX3 tyX3_ok hown (htb _ bw1_183) (htb _ bw1_184) (htb _ bw1_10) hK hP hD hS hA rfl (fun j hj => by rcases (show j = 0 ∨ j = 1 ∨ j = 2 ∨ j = 3 ∨ j = 4 ∨ j = 5 by omega) with rfl | rfl | rfl | rfl | rfl | rfl <;> rfl) (Nat.le_of_ble_eq_true rfl) (Nat.le_of_ble_eq_true rfl) dX8_init_68 (fun pg H hP hD hS => ?_)
  have hP := va_P.perm List.perm_append_comm hP
  have hD := va_D.perm List.perm_append_comm hD
  refine lv_dup hx hb dX8_init_71 rfl ?_
  refine cl_C ⟨hx, hb, hml, hown, htb⟩ (kX3_init l D cS g cI pg) (cwI 0 htb gX3_init rfl rfl rfl (htb _ bw1_10) (htb _ bw1_185) (htb _ bw1_186) rfl hdX3_init ⟨Nat.le_of_ble_eq_true rfl, Nat.le_of_ble_eq_true rfl⟩) hK hD hG hO hA hP hS hl.1 rfl rfl (Nat.le_of_ble_eq_true rfl) ⟨Nat.le_of_ble_eq_true rfl, Nat.le_of_ble_eq_true rfl⟩ dX8_init_72 (fun u3 H locs _ hP hD hS => ?_)
  have hP := va_P.perm List.perm_middle hP
  have hD := va_D.perm List.perm_middle hD
  refine va_putF (D := D) (ci := 8) (v := .ref pg) (ty := .object "TeamRooms$Program") (C := RX8) (T := TX8) (N := 6) hx hb htb kin8 tyX8 tyX8_ok nmX8 hown hK hP hD hS 0 rfl rfl 5 (by decide) (htb _ bw1_210) (fun _ h9 => h9) rfl hin rfl (by decide +kernel) rfl rfl (Nat.le_of_ble_eq_true rfl) dX8_init_75 (fun H locs hP hD hS => ?_)
  have hP : va_P D vwCl ((v, .inr (8, [.ref (u1.1 0), .ref (u1.1 1), .ref xd, .ref xo, .ref hh, .ref pg])) :: (wPg cI (q3 pg u3.1 u3.2) P00 ++ (wHi cI cS hh u2.1 u2.2.1 u2.2.2 ++ ((xo, .inr (2, [.ref (u1.1 1), .ref (u1.1 2), .ref (u1.1 4)])) :: (xd, .inr (0, [.ref (u1.1 1), .ref (u1.1 2), .ref (u1.1 4), .ref (u1.1 6), .ref (u1.1 8)])) :: (wSt cI u1.1 u1.2 ++ []))))) H := hP
  have hD : va_D A ((v, .inr (8, [.ref (u1.1 0), .ref (u1.1 1), .ref xd, .ref xo, .ref hh, .ref pg])) :: (wPg cI (q3 pg u3.1 u3.2) P00 ++ (wHi cI cS hh u2.1 u2.2.1 u2.2.2 ++ ((xo, .inr (2, [.ref (u1.1 1), .ref (u1.1 2), .ref (u1.1 4)])) :: (xd, .inr (0, [.ref (u1.1 1), .ref (u1.1 2), .ref (u1.1 4), .ref (u1.1 6), .ref (u1.1 8)])) :: (wSt cI u1.1 u1.2 ++ []))))) := hD
  have pm : List.Perm ((v, .inr (8, [.ref (u1.1 0), .ref (u1.1 1), .ref xd, .ref xo, .ref hh, .ref pg])) :: (wPg cI (q3 pg u3.1 u3.2) P00 ++ (wHi cI cS hh u2.1 u2.2.1 u2.2.2 ++ ((xo, .inr (2, [.ref (u1.1 1), .ref (u1.1 2), .ref (u1.1 4)])) :: (xd, .inr (0, [.ref (u1.1 1), .ref (u1.1 2), .ref (u1.1 4), .ref (u1.1 6), .ref (u1.1 8)])) :: (wSt cI u1.1 u1.2 ++ [])))) : va_W) (wXA cI cS v ((xd, xo, hh, u2.1, u2.2.1, u1.1, q3 pg u3.1 u3.2, (u1.2, u2.2.2, P00)) : XA)) := by
    show List.Perm _ ((v, .inr (8, [.ref (u1.1 0), .ref (u1.1 1), .ref xd, .ref xo, .ref hh, .ref pg])) :: (wSt cI u1.1 u1.2 ++ ((xd, .inr (0, [.ref (u1.1 1), .ref (u1.1 2), .ref (u1.1 4), .ref (u1.1 6), .ref (u1.1 8)])) :: (xo, .inr (2, [.ref (u1.1 1), .ref (u1.1 2), .ref (u1.1 4)])) :: (wHi cI cS hh u2.1 u2.2.1 u2.2.2 ++ wPg cI (q3 pg u3.1 u3.2) P00))) : va_W)
    exact permc (fun i x => by simp only [List.count_append, List.count_cons, List.count_nil]; omega)
  exact rt_C (wf := wXA cI cS v) ((xd, xo, hh, u2.1, u2.2.1, u1.1, q3 pg u3.1 u3.2, (u1.2, u2.2.2, P00)) : XA) hx hb hr hlocks hS (va_P.perm pm hP) (va_D.perm pm hD) ⟨⟨hx1, hx2, hx3⟩, hu2, rfl⟩ dX8_init_78

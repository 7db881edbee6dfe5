noncomputable def fX7_setting  (V : Vn) (x1 : Int32) : Option (Int32) := (fX6_cell 5 5 1 (V.2.2.2.2.1) x1 0).bind fun r1 => some r1
abbrev vX7_setting : List Cond := Cond.code yX7_setting cX7_setting 2 (some .int) :: BIG
theorem gX7_setting {own : String} {idx : Nat} (h : (Cond.methodLink own idx yX7_setting) ∈ BIG) : GoodIn BIG (wsV own idx RX7 yX7_setting vX7_setting) := gdV h bw1_232 bw1_233 bw1_3 bw1_234
def rmX7_setting : Room := { frames := 1, cells := 0, slots := 0, locals := 24 }
theorem hdX7_setting : yX7_setting.cls = RX7 ∧ yX7_setting.cls ≠ "java/lang/invoke/MethodHandle" ∧ yX7_setting.cls ≠ "java/lang/invoke/VarHandle" ∧ (parseMethodDescriptor yX7_setting.desc).map (fun d => d.parameters.length) = some 1 := by decide +kernel
set_option maxHeartbeats 4000000 in
set_option maxRecDepth 100000 in
theorem kX7_setting (l : Launch) (D : va_G) (cS : ClassId) (g : Nat → Nat) (cI : ClassId) (a : Nat → Nat) (V : Vn) (x1 : Int32) (r : Int32) (hF : fX7_setting V x1 = some r) : mI l yX7_setting vX7_setting rmX7_setting D cI cS g [.ref (a 0), .int x1] (wVn cI a V) r (wVn cI a V) := by
  refine st_I rfl (by decide) (Nat.le_of_ble_eq_true rfl) ?_
  intro p e s m args below meth c A ls hx hb hr hml hlocks hown hts hA hK hD0 hG hP hS hl
  have hown : s.vm.findClass RX7 = some m.cls := hown
  have hDa : ∀ V, va_D A (wVn cI a V) := fun V => hD0.adr rfl
  have htb : ∀ w ∈ BIG, w.before args s = true := fun w h => hts w (List.mem_cons_of_mem _ h)
  have hl : lv_has ls 2 [(0, .ref (a 0)), (1, .int x1)] := hl
  refine lv_aload_n hx hb dX7_setting_0 rfl (lv_at hl 0 rfl) ?_
  refine va_get (ci := 7) (v := .ref (a 9)) (C := RX7) (T := TX7) (N := 6) hx hb htb kin7 hown hK hP 0 (pVn_0 cI a V) rfl 4 (by decide) (htb _ bw1_84) (fun _ h9 => h9) rfl dX7_setting_1 ?_
  refine lv_iload_n hx hb dX7_setting_4 rfl (lv_at hl 1 rfl) ?_
  refine lv_iconst (v := 0) hx hb dX7_setting_5 (by decide) ?_
  obtain ⟨r1, hr1, hF⟩ := bd_use hF
  refine cl_VI ⟨hx, hb, hml, hown, htb⟩ (kX6_cell l D cS g cI (a 9) (a 10) 5 5 1 (V.2.2.2.2.1) x1 0 _ hr1) (cwV 2 htb (gX6_cell bw1_235) rfl rfl rfl hdX6_cell ⟨Nat.le_of_ble_eq_true rfl, Nat.le_of_ble_eq_true rfl⟩) hK (hDa _) hG hA hP hS (sr_Vn_settings cI a V) hl.1 rfl 0 (pTb_0 _ _ _ _ _ _ _) rfl rfl (Nat.le_of_ble_eq_true rfl) dX7_setting_6 (fun H locs hP hS => ?_)
  exact rt_I hx hb hr hlocks hS hP (so_use hF) dX7_setting_9
noncomputable def fX7_isBooked_j28  (V : Vn) (s0 : Int32) : Option (Int32) := Zb s0 (some s0)
noncomputable def fX7_isBooked_j27  (V : Vn) : Option (Int32) := fX7_isBooked_j28 V 0
noncomputable def fX7_isBooked  (V : Vn) (x1 : Int32) : Option (Int32) := (fX6_has 160 16 10 (V.2.1) x1).bind fun r1 => if r1 = 0 then (fX7_isBooked_j27 V) else ((fX6_cell 160 16 10 (V.2.1) x1 3).bind fun r3 => if r3 = 0 then (fX7_isBooked_j28 V 1) else (fX7_isBooked_j27 V))
abbrev vX7_isBooked : List Cond := Cond.code yX7_isBooked cX7_isBooked 2 (some .boolean) :: BIG
theorem gX7_isBooked {own : String} {idx : Nat} (h : (Cond.methodLink own idx yX7_isBooked) ∈ BIG) : GoodIn BIG (wsV own idx RX7 yX7_isBooked vX7_isBooked) := gdV h bw2_173 bw2_174 bw1_3 bw2_175
def rmX7_isBooked : Room := { frames := 1, cells := 0, slots := 0, locals := 24 }
theorem hdX7_isBooked : yX7_isBooked.cls = RX7 ∧ yX7_isBooked.cls ≠ "java/lang/invoke/MethodHandle" ∧ yX7_isBooked.cls ≠ "java/lang/invoke/VarHandle" ∧ (parseMethodDescriptor yX7_isBooked.desc).map (fun d => d.parameters.length) = some 1 := by decide +kernel
set_option maxHeartbeats 4000000 in
set_option maxRecDepth 100000 in
theorem kX7_isBooked (l : Launch) (D : va_G) (cS : ClassId) (g : Nat → Nat) (cI : ClassId) (a : Nat → Nat) (V : Vn) (x1 : Int32) (r : Int32) (hF : fX7_isBooked V x1 = some r) : mI l yX7_isBooked vX7_isBooked rmX7_isBooked D cI cS g [.ref (a 0), .int x1] (wVn cI a V) r (wVn cI a V) := by
  refine st_I rfl (by decide) (Nat.le_of_ble_eq_true rfl) ?_
  intro p e s m args below meth c A ls hx hb hr hml hlocks hown hts hA hK hD0 hG hP hS hl
  have hown : s.vm.findClass RX7 = some m.cls := hown
  have hDa : ∀ V, va_D A (wVn cI a V) := fun V => hD0.adr rfl
  have htb : ∀ w ∈ BIG, w.before args s = true := fun w h => hts w (List.mem_cons_of_mem _ h)
  have hl : lv_has ls 2 [(0, .ref (a 0)), (1, .int x1)] := hl
  have j28 : ∀ (s0 : Int32) (H : Heap) (locs : List Loc) (ls : Array Slot), fX7_isBooked_j28 V s0 = some r → va_P D vwCl (wVn cI a V) H → va_S A s.heap H locs → lv_has ls 2 [] → W p l e rmX7_isBooked s m args below meth c H locs 0 0 (MQ below (qI D r (wVn cI a V) A) args s 0 0 A) (F0 m 28 ls [.int s0]) := by
    intro s0 H locs ls hF hP hS hl
    obtain ⟨hz, hF⟩ := zb_use hF
    exact rt_Z hx hb hr hlocks hS hP hz (so_use hF) dX7_isBooked_28
  have j27 : ∀ (H : Heap) (locs : List Loc) (ls : Array Slot), fX7_isBooked_j27 V = some r → va_P D vwCl (wVn cI a V) H → va_S A s.heap H locs → lv_has ls 2 [] → W p l e rmX7_isBooked s m args below meth c H locs 0 0 (MQ below (qI D r (wVn cI a V) A) args s 0 0 A) (F0 m 27 ls []) := by
    intro H locs ls hF hP hS hl
    refine lv_iconst (v := 0) hx hb dX7_isBooked_27 (by decide) ?_
    exact j28 0 _ _ _ hF hP hS (lv_sub hl [] rfl)
  refine lv_aload_n hx hb dX7_isBooked_0 rfl (lv_at hl 0 rfl) ?_
  refine va_get (ci := 7) (v := .ref (a 3)) (C := RX7) (T := TX7) (N := 6) hx hb htb kin7 hown hK hP 0 (pVn_0 cI a V) rfl 1 (by decide) (htb _ bw1_76) (fun _ h9 => h9) rfl dX7_isBooked_1 ?_
  refine lv_iload_n hx hb dX7_isBooked_4 rfl (lv_at hl 1 rfl) ?_
  obtain ⟨r1, hr1, hF⟩ := bd_use hF
  refine cl_VI ⟨hx, hb, hml, hown, htb⟩ (kX6_has l D cS g cI (a 3) (a 4) 160 16 10 (V.2.1) x1 _ hr1) (cwV 1 htb (gX6_has bw2_176) rfl rfl rfl hdX6_has ⟨Nat.le_of_ble_eq_true rfl, Nat.le_of_ble_eq_true rfl⟩) hK (hDa _) hG hA hP hS (sr_Vn_bookings cI a V) hl.1 rfl 0 (pTb_0 _ _ _ _ _ _ _) rfl rfl (Nat.le_of_ble_eq_true rfl) dX7_isBooked_5 (fun H locs hP hS => ?_)
  refine lv_if_eq (tgt := 27) hx hb dX7_isBooked_8 (by decide) (fun c2 => ?_) (fun c2 => ?_)
  · have hF := it_t hF c2
    exact j27  _ _ _ hF hP hS (lv_sub hl [] rfl)
  · have hF := it_f hF c2
    refine lv_aload_n hx hb dX7_isBooked_11 rfl (lv_at hl 0 rfl) ?_
    refine va_get (ci := 7) (v := .ref (a 3)) (C := RX7) (T := TX7) (N := 6) hx hb htb kin7 hown hK hP 0 (pVn_0 cI a V) rfl 1 (by decide) (htb _ bw1_76) (fun _ h9 => h9) rfl dX7_isBooked_12 ?_
    refine lv_iload_n hx hb dX7_isBooked_15 rfl (lv_at hl 1 rfl) ?_
    refine lv_iconst (v := 3) hx hb dX7_isBooked_16 (by decide) ?_
    obtain ⟨r3, hr3, hF⟩ := bd_use hF
    refine cl_VI ⟨hx, hb, hml, hown, htb⟩ (kX6_cell l D cS g cI (a 3) (a 4) 160 16 10 (V.2.1) x1 3 _ hr3) (cwV 2 htb (gX6_cell bw1_235) rfl rfl rfl hdX6_cell ⟨Nat.le_of_ble_eq_true rfl, Nat.le_of_ble_eq_true rfl⟩) hK (hDa _) hG hA hP hS (sr_Vn_bookings cI a V) hl.1 rfl 0 (pTb_0 _ _ _ _ _ _ _) rfl rfl (Nat.le_of_ble_eq_true rfl) dX7_isBooked_17 (fun H locs hP hS => ?_)
    refine lv_if_ne (tgt := 27) hx hb dX7_isBooked_20 (by decide) (fun c4 => ?_) (fun c4 => ?_)
    · have hF := it_f hF c4
      exact j27  _ _ _ hF hP hS (lv_sub hl [] rfl)
    · have hF := it_t hF c4
      refine lv_iconst (v := 1) hx hb dX7_isBooked_23 (by decide) ?_
      refine lv_goto (tgt := 28) hx hb dX7_isBooked_24 (by decide) ?_
      exact j28 1 _ _ _ hF hP hS (lv_sub hl [] rfl)
noncomputable def fX7_bookingsInState_j31  (x1 : Int32) (ih : Int32 → Int32 → Option (Int32)) (V : Vn) (x2 : Int32) (x3 : Int32) : Option (Int32) := nm (x3 + 1) fun v5 => ih x2 v5
noncomputable def fX7_bookingsInState_l4  (V : Vn) (x1 : Int32) : Nat → Int32 → Int32 → Option (Int32) := fun fu => Nat.rec (motive := fun _ => Int32 → Int32 → Option (Int32)) (fun _ _ => none) (fun _ ih => fun x2 x3 => (fX6_size 160 16 10 (V.2.1)).bind fun r1 => if r1 ≤ x3 then (some x2) else ((fX6_cell 160 16 10 (V.2.1) x3 3).bind fun r3 => if r3 = x1 then (nm (x2 + 1) fun v6 => fX7_bookingsInState_j31 x1 ih V v6 x3) else (fX7_bookingsInState_j31 x1 ih V x2 x3))) fu
theorem fX7_bookingsInState_l4_s  (V : Vn) (x1 : Int32) (fu : Nat) (x2 : Int32) (x3 : Int32) : fX7_bookingsInState_l4 V x1 (fu + 1) x2 x3 = ((fX6_size 160 16 10 (V.2.1)).bind fun r1 => if r1 ≤ x3 then (some x2) else ((fX6_cell 160 16 10 (V.2.1) x3 3).bind fun r3 => if r3 = x1 then (nm (x2 + 1) fun v6 => fX7_bookingsInState_j31 x1 (fX7_bookingsInState_l4 V x1 fu) V v6 x3) else (fX7_bookingsInState_j31 x1 (fX7_bookingsInState_l4 V x1 fu) V x2 x3))) := rfl
theorem fX7_bookingsInState_l4_z  (V : Vn) (x1 : Int32) (x2 : Int32) (x3 : Int32) : fX7_bookingsInState_l4 V x1 0 x2 x3 = none := rfl
noncomputable def fX7_bookingsInState  (V : Vn) (x1 : Int32) : Option (Int32) := fX7_bookingsInState_l4 V x1 FU 0 0
abbrev vX7_bookingsInState : List Cond := Cond.code yX7_bookingsInState cX7_bookingsInState 4 (some .int) :: BIG
theorem gX7_bookingsInState {own : String} {idx : Nat} (h : (Cond.methodLink own idx yX7_bookingsInState) ∈ BIG) : GoodIn BIG (wsV own idx RX7 yX7_bookingsInState vX7_bookingsInState) := gdV h bw2_0 bw2_1 bw1_3 bw2_2
def rmX7_bookingsInState : Room := { frames := 1, cells := 0, slots := 0, locals := 24 }
theorem hdX7_bookingsInState : yX7_bookingsInState.cls = RX7 ∧ yX7_bookingsInState.cls ≠ "java/lang/invoke/MethodHandle" ∧ yX7_bookingsInState.cls ≠ "java/lang/invoke/VarHandle" ∧ (parseMethodDescriptor yX7_bookingsInState.desc).map (fun d => d.parameters.length) = some 1 := by decide +kernel
set_option maxHeartbeats 4000000 in
set_option maxRecDepth 100000 in
theorem kX7_bookingsInState (l : Launch) (D : va_G) (cS : ClassId) (g : Nat → Nat) (cI : ClassId) (a : Nat → Nat) (V : Vn) (x1 : Int32) (r : Int32) (hF : fX7_bookingsInState V x1 = some r) : mI l yX7_bookingsInState vX7_bookingsInState rmX7_bookingsInState D cI cS g [.ref (a 0), .int x1] (wVn cI a V) r (wVn cI a V) := by
  refine st_I rfl (by decide) (Nat.le_of_ble_eq_true rfl) ?_
  intro p e s m args below meth c A ls hx hb hr hml hlocks hown hts hA hK hD0 hG hP hS hl
  have hown : s.vm.findClass RX7 = some m.cls := hown
  have hDa : ∀ V, va_D A (wVn cI a V) := fun V => hD0.adr rfl
  have htb : ∀ w ∈ BIG, w.before args s = true := fun w h => hts w (List.mem_cons_of_mem _ h)
  have hl : lv_has ls 4 [(0, .ref (a 0)), (1, .int x1)] := hl
  have l4 : ∀ (x1 : Int32) (fu : Nat) (x2 : Int32) (x3 : Int32) (H : Heap) (locs : List Loc) (ls : Array Slot), fX7_bookingsInState_l4 V x1 fu x2 x3 = some r → va_P D vwCl (wVn cI a V) H → va_S A s.heap H locs → lv_has ls 4 [(0, .ref (a 0)), (1, .int x1), (2, .int x2), (3, .int x3)] → W p l e rmX7_bookingsInState s m args below meth c H locs 0 0 (MQ below (qI D r (wVn cI a V) A) args s 0 0 A) (F0 m 4 ls []) := by
    intro x1  fu
    induction fu with
    | zero => intro x2 x3 H locs ls hF; exact nn_use hF
    | succ fu ihn =>
      intro x2 x3 H locs ls hF hP hS hl 
      rw [fX7_bookingsInState_l4_s] at hF
      have j31 : ∀ (x2 : Int32) (x3 : Int32) (H : Heap) (locs : List Loc) (ls : Array Slot), fX7_bookingsInState_j31 x1  (fX7_bookingsInState_l4 V x1 fu) V x2 x3 = some r → va_P D vwCl (wVn cI a V) H → va_S A s.heap H locs → lv_has ls 4 [(0, .ref (a 0)), (1, .int x1), (2, .int x2), (3, .int x3)] → W p l e rmX7_bookingsInState s m args below meth c H locs 0 0 (MQ below (qI D r (wVn cI a V) A) args s 0 0 A) (F0 m 31 ls []) := by
        intro x2 x3 H locs ls hF hP hS hl
        obtain ⟨v5, ev5⟩ : ∃ z : Int32, z = x3 + 1 := ⟨_, rfl⟩
        refine lv_iinc (v := v5) (lv' := [(3, .int v5), (0, .ref (a 0)), (1, .int x1), (2, .int x2)]) hx hb dX7_bookingsInState_31 hl (k := 3) rfl (by rw [ev5]; rfl) (by decide) rfl (fun ls hl => ?_)
        have hF := nm_use hF ev5
        refine lv_goto (tgt := 4) hx hb dX7_bookingsInState_34 (by decide) ?_
        exact ihn x2 v5 _ _ _ hF hP hS (lv_sub hl [1, 2, 3, 0] rfl)
      refine lv_iload_n hx hb dX7_bookingsInState_4 rfl (lv_at hl 3 rfl) ?_
      refine lv_aload_n hx hb dX7_bookingsInState_5 rfl (lv_at hl 0 rfl) ?_
      refine va_get (ci := 7) (v := .ref (a 3)) (C := RX7) (T := TX7) (N := 6) hx hb htb kin7 hown hK hP 0 (pVn_0 cI a V) rfl 1 (by decide) (htb _ bw1_76) (fun _ h9 => h9) rfl dX7_bookingsInState_6 ?_
      obtain ⟨r1, hr1, hF⟩ := bd_use hF
      refine cl_VI ⟨hx, hb, hml, hown, htb⟩ (kX6_size l D cS g cI (a 3) (a 4) 160 16 10 (V.2.1)  _ hr1) (cwV 0 htb (gX6_size bw2_3) rfl rfl rfl hdX6_size ⟨Nat.le_of_ble_eq_true rfl, Nat.le_of_ble_eq_true rfl⟩) hK (hDa _) hG hA hP hS (sr_Vn_bookings cI a V) hl.1 rfl 0 (pTb_0 _ _ _ _ _ _ _) rfl rfl (Nat.le_of_ble_eq_true rfl) dX7_bookingsInState_9 (fun H locs hP hS => ?_)
      refine lv_icmp_ge (tgt := 37) hx hb dX7_bookingsInState_12 (by decide) (fun c2 => ?_) (fun c2 => ?_)
      · have hF := it_t hF c2
        refine lv_iload_n hx hb dX7_bookingsInState_37 rfl (lv_at hl 2 rfl) ?_
        exact rt_I hx hb hr hlocks hS hP (so_use hF) dX7_bookingsInState_38
      · have hF := it_f hF c2
        refine lv_aload_n hx hb dX7_bookingsInState_15 rfl (lv_at hl 0 rfl) ?_
        refine va_get (ci := 7) (v := .ref (a 3)) (C := RX7) (T := TX7) (N := 6) hx hb htb kin7 hown hK hP 0 (pVn_0 cI a V) rfl 1 (by decide) (htb _ bw1_76) (fun _ h9 => h9) rfl dX7_bookingsInState_16 ?_
        refine lv_iload_n hx hb dX7_bookingsInState_19 rfl (lv_at hl 3 rfl) ?_
        refine lv_iconst (v := 3) hx hb dX7_bookingsInState_20 (by decide) ?_
        obtain ⟨r3, hr3, hF⟩ := bd_use hF
        refine cl_VI ⟨hx, hb, hml, hown, htb⟩ (kX6_cell l D cS g cI (a 3) (a 4) 160 16 10 (V.2.1) x3 3 _ hr3) (cwV 2 htb (gX6_cell bw1_235) rfl rfl rfl hdX6_cell ⟨Nat.le_of_ble_eq_true rfl, Nat.le_of_ble_eq_true rfl⟩) hK (hDa _) hG hA hP hS (sr_Vn_bookings cI a V) hl.1 rfl 0 (pTb_0 _ _ _ _ _ _ _) rfl rfl (Nat.le_of_ble_eq_true rfl) dX7_bookingsInState_21 (fun H locs hP hS => ?_)
        refine lv_iload_n hx hb dX7_bookingsInState_24 rfl (lv_at hl 1 rfl) ?_
        refine lv_icmp_ne (tgt := 31) hx hb dX7_bookingsInState_25 (by decide) (fun c4 => ?_) (fun c4 => ?_)
        · have hF := it_f hF c4
          exact j31 x2 x3 _ _ _ hF hP hS (lv_sub hl [0, 1, 2, 3] rfl)
        · have hF := it_t hF c4
          obtain ⟨v6, ev6⟩ : ∃ z : Int32, z = x2 + 1 := ⟨_, rfl⟩
          refine lv_iinc (v := v6) (lv' := [(2, .int v6), (0, .ref (a 0)), (1, .int x1), (3, .int x3)]) hx hb dX7_bookingsInState_28 hl (k := 2) rfl (by rw [ev6]; rfl) (by decide) rfl (fun ls hl => ?_)
          have hF := nm_use hF ev6
          exact j31 v6 x3 _ _ _ hF hP hS (lv_sub hl [1, 2, 0, 3] rfl)
  refine lv_iconst (v := 0) hx hb dX7_bookingsInState_0 (by decide) ?_
  refine lv_istore_n (lv' := [(2, .int 0), (0, .ref (a 0)), (1, .int x1)]) hx hb dX7_bookingsInState_1 rfl hl (by decide) rfl (fun ls hl => ?_)
  refine lv_iconst (v := 0) hx hb dX7_bookingsInState_2 (by decide) ?_
  refine lv_istore_n (lv' := [(3, .int 0), (2, .int 0), (0, .ref (a 0)), (1, .int x1)]) hx hb dX7_bookingsInState_3 rfl hl (by decide) rfl (fun ls hl => ?_)
  refine l4 x1  _ 0 0 _ _ _ hF hP hS (lv_sub hl [2, 3, 1, 0] rfl)
noncomputable def fX7_period  (V : Vn) (x1 : Int32) : Option (Int32) := (fX6_cell 44 4 11 (V.1) x1 0).bind fun r1 => (fX6_cell 44 4 11 (V.1) x1 1).bind fun r2 => some (r1 + r2)
abbrev vX7_period : List Cond := Cond.code yX7_period cX7_period 2 (some .int) :: BIG
theorem gX7_period {own : String} {idx : Nat} (h : (Cond.methodLink own idx yX7_period) ∈ BIG) : GoodIn BIG (wsV own idx RX7 yX7_period vX7_period) := gdV h bw2_130 bw2_131 bw1_3 bw2_132
def rmX7_period : Room := { frames := 1, cells := 0, slots := 0, locals := 24 }
theorem hdX7_period : yX7_period.cls = RX7 ∧ yX7_period.cls ≠ "java/lang/invoke/MethodHandle" ∧ yX7_period.cls ≠ "java/lang/invoke/VarHandle" ∧ (parseMethodDescriptor yX7_period.desc).map (fun d => d.parameters.length) = some 1 := by decide +kernel
set_option maxHeartbeats 4000000 in
set_option maxRecDepth 100000 in
theorem kX7_period (l : Launch) (D : va_G) (cS : ClassId) (g : Nat → Nat) (cI : ClassId) (a : Nat → Nat) (V : Vn) (x1 : Int32) (r : Int32) (hF : fX7_period V x1 = some r) : mI l yX7_period vX7_period rmX7_period D cI cS g [.ref (a 0), .int x1] (wVn cI a V) r (wVn cI a V) := by
  refine st_I rfl (by decide) (Nat.le_of_ble_eq_true rfl) ?_
  intro p e s m args below meth c A ls hx hb hr hml hlocks hown hts hA hK hD0 hG hP hS hl
  have hown : s.vm.findClass RX7 = some m.cls := hown
  have hDa : ∀ V, va_D A (wVn cI a V) := fun V => hD0.adr rfl
  have htb : ∀ w ∈ BIG, w.before args s = true := fun w h => hts w (List.mem_cons_of_mem _ h)
  have hl : lv_has ls 2 [(0, .ref (a 0)), (1, .int x1)] := hl
  refine lv_aload_n hx hb dX7_period_0 rfl (lv_at hl 0 rfl) ?_
  refine va_get (ci := 7) (v := .ref (a 1)) (C := RX7) (T := TX7) (N := 6) hx hb htb kin7 hown hK hP 0 (pVn_0 cI a V) rfl 0 (by decide) (htb _ bw1_72) (fun _ h9 => h9) rfl dX7_period_1 ?_
  refine lv_iload_n hx hb dX7_period_4 rfl (lv_at hl 1 rfl) ?_
  refine lv_iconst (v := 0) hx hb dX7_period_5 (by decide) ?_
  obtain ⟨r1, hr1, hF⟩ := bd_use hF
  refine cl_VI ⟨hx, hb, hml, hown, htb⟩ (kX6_cell l D cS g cI (a 1) (a 2) 44 4 11 (V.1) x1 0 _ hr1) (cwV 2 htb (gX6_cell bw1_235) rfl rfl rfl hdX6_cell ⟨Nat.le_of_ble_eq_true rfl, Nat.le_of_ble_eq_true rfl⟩) hK (hDa _) hG hA hP hS (sr_Vn_rooms cI a V) hl.1 rfl 0 (pTb_0 _ _ _ _ _ _ _) rfl rfl (Nat.le_of_ble_eq_true rfl) dX7_period_6 (fun H locs hP hS => ?_)
  refine lv_aload_n hx hb dX7_period_9 rfl (lv_at hl 0 rfl) ?_
  refine va_get (ci := 7) (v := .ref (a 1)) (C := RX7) (T := TX7) (N := 6) hx hb htb kin7 hown hK hP 0 (pVn_0 cI a V) rfl 0 (by decide) (htb _ bw1_72) (fun _ h9 => h9) rfl dX7_period_10 ?_
  refine lv_iload_n hx hb dX7_period_13 rfl (lv_at hl 1 rfl) ?_
  refine lv_iconst (v := 1) hx hb dX7_period_14 (by decide) ?_
  obtain ⟨r2, hr2, hF⟩ := bd_use hF
  refine cl_VI ⟨hx, hb, hml, hown, htb⟩ (kX6_cell l D cS g cI (a 1) (a 2) 44 4 11 (V.1) x1 1 _ hr2) (cwV 2 htb (gX6_cell bw1_235) rfl rfl rfl hdX6_cell ⟨Nat.le_of_ble_eq_true rfl, Nat.le_of_ble_eq_true rfl⟩) hK (hDa _) hG hA hP hS (sr_Vn_rooms cI a V) hl.1 rfl 0 (pTb_0 _ _ _ _ _ _ _) rfl rfl (Nat.le_of_ble_eq_true rfl) dX7_period_15 (fun H locs hP hS => ?_)
  refine lv_iadd hx hb dX7_period_18 ?_
  exact rt_I hx hb hr hlocks hS hP (so_use hF) dX7_period_19
noncomputable def fX7_timeBehindPlays_j57  (x1 : Int32) (ih : Int32 → Int32 → Option (Int32)) (V : Vn) (x2 : Int32) (x3 : Int32) : Option (Int32) := nm (x3 + 1) fun v5 => ih x2 v5
noncomputable def fX7_timeBehindPlays_l4  (V : Vn) (x1 : Int32) : Nat → Int32 → Int32 → Option (Int32) := fun fu => Nat.rec (motive := fun _ => Int32 → Int32 → Option (Int32)) (fun _ _ => none) (fun _ ih => fun x2 x3 => (fX6_size 160 16 10 (V.2.1)).bind fun r1 => if r1 ≤ x3 then (some x2) else ((fX6_cell 160 16 10 (V.2.1) x3 0).bind fun r3 => if r3 = x1 then ((fX6_cell 160 16 10 (V.2.1) x3 3).bind fun r6 => if r6 = 1 then ((fX6_cell 160 16 10 (V.2.1) x3 1).bind fun r8 => nm (jmax x2 (r8 + 1)) fun v9 => fX7_timeBehindPlays_j57 x1 ih V v9 x3) else (fX7_timeBehindPlays_j57 x1 ih V x2 x3)) else (fX7_timeBehindPlays_j57 x1 ih V x2 x3))) fu
theorem fX7_timeBehindPlays_l4_s  (V : Vn) (x1 : Int32) (fu : Nat) (x2 : Int32) (x3 : Int32) : fX7_timeBehindPlays_l4 V x1 (fu + 1) x2 x3 = ((fX6_size 160 16 10 (V.2.1)).bind fun r1 => if r1 ≤ x3 then (some x2) else ((fX6_cell 160 16 10 (V.2.1) x3 0).bind fun r3 => if r3 = x1 then ((fX6_cell 160 16 10 (V.2.1) x3 3).bind fun r6 => if r6 = 1 then ((fX6_cell 160 16 10 (V.2.1) x3 1).bind fun r8 => nm (jmax x2 (r8 + 1)) fun v9 => fX7_timeBehindPlays_j57 x1 (fX7_timeBehindPlays_l4 V x1 fu) V v9 x3) else (fX7_timeBehindPlays_j57 x1 (fX7_timeBehindPlays_l4 V x1 fu) V x2 x3)) else (fX7_timeBehindPlays_j57 x1 (fX7_timeBehindPlays_l4 V x1 fu) V x2 x3))) := rfl
theorem fX7_timeBehindPlays_l4_z  (V : Vn) (x1 : Int32) (x2 : Int32) (x3 : Int32) : fX7_timeBehindPlays_l4 V x1 0 x2 x3 = none := rfl
noncomputable def fX7_timeBehindPlays  (V : Vn) (x1 : Int32) : Option (Int32) := fX7_timeBehindPlays_l4 V x1 FU 0 0
abbrev vX7_timeBehindPlays : List Cond := Cond.code yX7_timeBehindPlays cX7_timeBehindPlays 4 (some .int) :: BIG
theorem gX7_timeBehindPlays {own : String} {idx : Nat} (h : (Cond.methodLink own idx yX7_timeBehindPlays) ∈ BIG) : GoodIn BIG (wsV own idx RX7 yX7_timeBehindPlays vX7_timeBehindPlays) := gdV h bw2_121 bw2_122 bw1_3 bw2_123
def rmX7_timeBehindPlays : Room := { frames := 1, cells := 0, slots := 0, locals := 24 }
theorem hdX7_timeBehindPlays : yX7_timeBehindPlays.cls = RX7 ∧ yX7_timeBehindPlays.cls ≠ "java/lang/invoke/MethodHandle" ∧ yX7_timeBehindPlays.cls ≠ "java/lang/invoke/VarHandle" ∧ (parseMethodDescriptor yX7_timeBehindPlays.desc).map (fun d => d.parameters.length) = some 1 := by decide +kernel
set_option maxHeartbeats 4000000 in
set_option maxRecDepth 100000 in
theorem kX7_timeBehindPlays (l : Launch) (D : va_G) (cS : ClassId) (g : Nat → Nat) (cI : ClassId) (a : Nat → Nat) (V : Vn) (x1 : Int32) (r : Int32) (hF : fX7_timeBehindPlays V x1 = some r) : mI l yX7_timeBehindPlays vX7_timeBehindPlays rmX7_timeBehindPlays D cI cS g [.ref (a 0), .int x1] (wVn cI a V) r (wVn cI a V) := by
  refine st_I rfl (by decide) (Nat.le_of_ble_eq_true rfl) ?_
  intro p e s m args below meth c A ls hx hb hr hml hlocks hown hts hA hK hD0 hG hP hS hl
  have hown : s.vm.findClass RX7 = some m.cls := hown
  have hDa : ∀ V, va_D A (wVn cI a V) := fun V => hD0.adr rfl
  have htb : ∀ w ∈ BIG, w.before args s = true := fun w h => hts w (List.mem_cons_of_mem _ h)
  have hl : lv_has ls 4 [(0, .ref (a 0)), (1, .int x1)] := hl
  have l4 : ∀ (x1 : Int32) (fu : Nat) (x2 : Int32) (x3 : Int32) (H : Heap) (locs : List Loc) (ls : Array Slot), fX7_timeBehindPlays_l4 V x1 fu x2 x3 = some r → va_P D vwCl (wVn cI a V) H → va_S A s.heap H locs → lv_has ls 4 [(0, .ref (a 0)), (1, .int x1), (2, .int x2), (3, .int x3)] → W p l e rmX7_timeBehindPlays s m args below meth c H locs 0 0 (MQ below (qI D r (wVn cI a V) A) args s 0 0 A) (F0 m 4 ls []) := by
    intro x1  fu
    induction fu with
    | zero => intro x2 x3 H locs ls hF; exact nn_use hF
    | succ fu ihn =>
      intro x2 x3 H locs ls hF hP hS hl 
      rw [fX7_timeBehindPlays_l4_s] at hF
      have j57 : ∀ (x2 : Int32) (x3 : Int32) (H : Heap) (locs : List Loc) (ls : Array Slot), fX7_timeBehindPlays_j57 x1  (fX7_timeBehindPlays_l4 V x1 fu) V x2 x3 = some r → va_P D vwCl (wVn cI a V) H → va_S A s.heap H locs → lv_has ls 4 [(0, .ref (a 0)), (1, .int x1), (2, .int x2), (3, .int x3)] → W p l e rmX7_timeBehindPlays s m args below meth c H locs 0 0 (MQ below (qI D r (wVn cI a V) A) args s 0 0 A) (F0 m 57 ls []) := by
        intro x2 x3 H locs ls hF hP hS hl
        obtain ⟨v5, ev5⟩ : ∃ z : Int32, z = x3 + 1 := ⟨_, rfl⟩
        refine lv_iinc (v := v5) (lv' := [(3, .int v5), (0, .ref (a 0)), (1, .int x1), (2, .int x2)]) hx hb dX7_timeBehindPlays_57 hl (k := 3) rfl (by rw [ev5]; rfl) (by decide) rfl (fun ls hl => ?_)
        have hF := nm_use hF ev5
        refine lv_goto (tgt := 4) hx hb dX7_timeBehindPlays_60 (by decide) ?_
        exact ihn x2 v5 _ _ _ hF hP hS (lv_sub hl [1, 2, 3, 0] rfl)
      refine lv_iload_n hx hb dX7_timeBehindPlays_4 rfl (lv_at hl 3 rfl) ?_
      refine lv_aload_n hx hb dX7_timeBehindPlays_5 rfl (lv_at hl 0 rfl) ?_
      refine va_get (ci := 7) (v := .ref (a 3)) (C := RX7) (T := TX7) (N := 6) hx hb htb kin7 hown hK hP 0 (pVn_0 cI a V) rfl 1 (by decide) (htb _ bw1_76) (fun _ h9 => h9) rfl dX7_timeBehindPlays_6 ?_
      obtain ⟨r1, hr1, hF⟩ := bd_use hF
      refine cl_VI ⟨hx, hb, hml, hown, htb⟩ (kX6_size l D cS g cI (a 3) (a 4) 160 16 10 (V.2.1)  _ hr1) (cwV 0 htb (gX6_size bw2_3) rfl rfl rfl hdX6_size ⟨Nat.le_of_ble_eq_true rfl, Nat.le_of_ble_eq_true rfl⟩) hK (hDa _) hG hA hP hS (sr_Vn_bookings cI a V) hl.1 rfl 0 (pTb_0 _ _ _ _ _ _ _) rfl rfl (Nat.le_of_ble_eq_true rfl) dX7_timeBehindPlays_9 (fun H locs hP hS => ?_)
      refine lv_icmp_ge (tgt := 63) hx hb dX7_timeBehindPlays_12 (by decide) (fun c2 => ?_) (fun c2 => ?_)
      · have hF := it_t hF c2
        refine lv_iload_n hx hb dX7_timeBehindPlays_63 rfl (lv_at hl 2 rfl) ?_
        exact rt_I hx hb hr hlocks hS hP (so_use hF) dX7_timeBehindPlays_64
      · have hF := it_f hF c2
        refine lv_aload_n hx hb dX7_timeBehindPlays_15 rfl (lv_at hl 0 rfl) ?_
        refine va_get (ci := 7) (v := .ref (a 3)) (C := RX7) (T := TX7) (N := 6) hx hb htb kin7 hown hK hP 0 (pVn_0 cI a V) rfl 1 (by decide) (htb _ bw1_76) (fun _ h9 => h9) rfl dX7_timeBehindPlays_16 ?_
        refine lv_iload_n hx hb dX7_timeBehindPlays_19 rfl (lv_at hl 3 rfl) ?_
        refine lv_iconst (v := 0) hx hb dX7_timeBehindPlays_20 (by decide) ?_
        obtain ⟨r3, hr3, hF⟩ := bd_use hF
        refine cl_VI ⟨hx, hb, hml, hown, htb⟩ (kX6_cell l D cS g cI (a 3) (a 4) 160 16 10 (V.2.1) x3 0 _ hr3) (cwV 2 htb (gX6_cell bw1_235) rfl rfl rfl hdX6_cell ⟨Nat.le_of_ble_eq_true rfl, Nat.le_of_ble_eq_true rfl⟩) hK (hDa _) hG hA hP hS (sr_Vn_bookings cI a V) hl.1 rfl 0 (pTb_0 _ _ _ _ _ _ _) rfl rfl (Nat.le_of_ble_eq_true rfl) dX7_timeBehindPlays_21 (fun H locs hP hS => ?_)
        refine lv_iload_n hx hb dX7_timeBehindPlays_24 rfl (lv_at hl 1 rfl) ?_
        refine lv_icmp_ne (tgt := 57) hx hb dX7_timeBehindPlays_25 (by decide) (fun c4 => ?_) (fun c4 => ?_)
        · have hF := it_f hF c4
          exact j57 x2 x3 _ _ _ hF hP hS (lv_sub hl [0, 1, 2, 3] rfl)
        · have hF := it_t hF c4
          refine lv_aload_n hx hb dX7_timeBehindPlays_28 rfl (lv_at hl 0 rfl) ?_
          refine va_get (ci := 7) (v := .ref (a 3)) (C := RX7) (T := TX7) (N := 6) hx hb htb kin7 hown hK hP 0 (pVn_0 cI a V) rfl 1 (by decide) (htb _ bw1_76) (fun _ h9 => h9) rfl dX7_timeBehindPlays_29 ?_
          refine lv_iload_n hx hb dX7_timeBehindPlays_32 rfl (lv_at hl 3 rfl) ?_
          refine lv_iconst (v := 3) hx hb dX7_timeBehindPlays_33 (by decide) ?_
          obtain ⟨r6, hr6, hF⟩ := bd_use hF
          refine cl_VI ⟨hx, hb, hml, hown, htb⟩ (kX6_cell l D cS g cI (a 3) (a 4) 160 16 10 (V.2.1) x3 3 _ hr6) (cwV 2 htb (gX6_cell bw1_235) rfl rfl rfl hdX6_cell ⟨Nat.le_of_ble_eq_true rfl, Nat.le_of_ble_eq_true rfl⟩) hK (hDa _) hG hA hP hS (sr_Vn_bookings cI a V) hl.1 rfl 0 (pTb_0 _ _ _ _ _ _ _) rfl rfl (Nat.le_of_ble_eq_true rfl) dX7_timeBehindPlays_34 (fun H locs hP hS => ?_)
          refine lv_iconst (v := 1) hx hb dX7_timeBehindPlays_37 (by decide) ?_
          refine lv_icmp_ne (tgt := 57) hx hb dX7_timeBehindPlays_38 (by decide) (fun c7 => ?_) (fun c7 => ?_)
          · have hF := it_f hF c7
            exact j57 x2 x3 _ _ _ hF hP hS (lv_sub hl [0, 1, 2, 3] rfl)
          · have hF := it_t hF c7
            refine lv_iload_n hx hb dX7_timeBehindPlays_41 rfl (lv_at hl 2 rfl) ?_
            refine lv_aload_n hx hb dX7_timeBehindPlays_42 rfl (lv_at hl 0 rfl) ?_
            refine va_get (ci := 7) (v := .ref (a 3)) (C := RX7) (T := TX7) (N := 6) hx hb htb kin7 hown hK hP 0 (pVn_0 cI a V) rfl 1 (by decide) (htb _ bw1_76) (fun _ h9 => h9) rfl dX7_timeBehindPlays_43 ?_
            refine lv_iload_n hx hb dX7_timeBehindPlays_46 rfl (lv_at hl 3 rfl) ?_
            refine lv_iconst (v := 1) hx hb dX7_timeBehindPlays_47 (by decide) ?_
            obtain ⟨r8, hr8, hF⟩ := bd_use hF
            refine cl_VI ⟨hx, hb, hml, hown, htb⟩ (kX6_cell l D cS g cI (a 3) (a 4) 160 16 10 (V.2.1) x3 1 _ hr8) (cwV 2 htb (gX6_cell bw1_235) rfl rfl rfl hdX6_cell ⟨Nat.le_of_ble_eq_true rfl, Nat.le_of_ble_eq_true rfl⟩) hK (hDa _) hG hA hP hS (sr_Vn_bookings cI a V) hl.1 rfl 0 (pTb_0 _ _ _ _ _ _ _) rfl rfl (Nat.le_of_ble_eq_true rfl) dX7_timeBehindPlays_48 (fun H locs hP hS => ?_)
            refine lv_iconst (v := 1) hx hb dX7_timeBehindPlays_51 (by decide) ?_
            refine lv_iadd hx hb dX7_timeBehindPlays_52 ?_
            refine va_mmax hx hb (hml.trans hl.1.symm) hown (htb _ bw2_124) (htb _ bw1_39) (htb _ bw1_5) (htb _ bw1_40) (Nat.le_of_ble_eq_true rfl) (Nat.le_of_ble_eq_true rfl) (Nat.zero_le _) (Nat.zero_le _) dX7_timeBehindPlays_53 ?_
            refine lv_topi (fun v9 ev9 => ?_)
            have hF := nm_use hF ev9
            refine lv_istore_n (lv' := [(2, .int v9), (0, .ref (a 0)), (1, .int x1), (3, .int x3)]) hx hb dX7_timeBehindPlays_56 rfl hl (by decide) rfl (fun ls hl => ?_)
            exact j57 v9 x3 _ _ _ hF hP hS (lv_sub hl [1, 2, 0, 3] rfl)
  refine lv_iconst (v := 0) hx hb dX7_timeBehindPlays_0 (by decide) ?_
  refine lv_istore_n (lv' := [(2, .int 0), (0, .ref (a 0)), (1, .int x1)]) hx hb dX7_timeBehindPlays_1 rfl hl (by decide) rfl (fun ls hl => ?_)
  refine lv_iconst (v := 0) hx hb dX7_timeBehindPlays_2 (by decide) ?_
  refine lv_istore_n (lv' := [(3, .int 0), (2, .int 0), (0, .ref (a 0)), (1, .int x1)]) hx hb dX7_timeBehindPlays_3 rfl hl (by decide) rfl (fun ls hl => ?_)
  refine l4 x1  _ 0 0 _ _ _ hF hP hS (lv_sub hl [2, 3, 1, 0] rfl)
noncomputable def fX7_collision_j100  (x1 : Int32) (x2 : Int32) (x3 : Int32) (x4 : Int32) (ih : Int32 → Option (Int32)) (V : Vn) (x5 : Int32) : Option (Int32) := nm (x5 + 1) fun v7 => ih v7
noncomputable def fX7_collision_j70  (x1 : Int32) (x2 : Int32) (x3 : Int32) (x4 : Int32) (ih : Int32 → Option (Int32)) (V : Vn) (x5 : Int32) (s0 : Int32) : Option (Int32) := if s0 = 0 then (fX7_collision_j100 x1 x2 x3 x4 ih V x5) else ((fX6_cell 160 16 10 (V.2.1) x5 1).bind fun r8 => nm (jabs (r8 - x2)) fun v9 => if x4 ≤ v9 then (fX7_collision_j100 x1 x2 x3 x4 ih V x5) else (some x5))
noncomputable def fX7_collision_j69  (x1 : Int32) (x2 : Int32) (x3 : Int32) (x4 : Int32) (ih : Int32 → Option (Int32)) (V : Vn) (x5 : Int32) : Option (Int32) := fX7_collision_j70 x1 x2 x3 x4 ih V x5 0
noncomputable def fX7_collision_j65  (x1 : Int32) (x2 : Int32) (x3 : Int32) (x4 : Int32) (ih : Int32 → Option (Int32)) (V : Vn) (x5 : Int32) : Option (Int32) := fX7_collision_j70 x1 x2 x3 x4 ih V x5 1
noncomputable def fX7_collision_l10  (V : Vn) (x1 : Int32) (x2 : Int32) (x3 : Int32) (x4 : Int32) : Nat → Int32 → Option (Int32) := fun fu => Nat.rec (motive := fun _ => Int32 → Option (Int32)) (fun _ => none) (fun _ ih => fun x5 => (fX6_size 160 16 10 (V.2.1)).bind fun r2 => if r2 ≤ x5 then (some (-9)) else ((fX6_cell 160 16 10 (V.2.1) x5 3).bind fun r4 => if x5 = x3 then (fX7_collision_j69 x1 x2 x3 x4 ih V x5) else ((fX6_cell 160 16 10 (V.2.1) x5 0).bind fun r11 => if r11 = x1 then (if r4 = 0 then (fX7_collision_j65 x1 x2 x3 x4 ih V x5) else (if r4 = 1 then (fX7_collision_j65 x1 x2 x3 x4 ih V x5) else (fX7_collision_j69 x1 x2 x3 x4 ih V x5))) else (fX7_collision_j69 x1 x2 x3 x4 ih V x5)))) fu
theorem fX7_collision_l10_s  (V : Vn) (x1 : Int32) (x2 : Int32) (x3 : Int32) (x4 : Int32) (fu : Nat) (x5 : Int32) : fX7_collision_l10 V x1 x2 x3 x4 (fu + 1) x5 = ((fX6_size 160 16 10 (V.2.1)).bind fun r2 => if r2 ≤ x5 then (some (-9)) else ((fX6_cell 160 16 10 (V.2.1) x5 3).bind fun r4 => if x5 = x3 then (fX7_collision_j69 x1 x2 x3 x4 (fX7_collision_l10 V x1 x2 x3 x4 fu) V x5) else ((fX6_cell 160 16 10 (V.2.1) x5 0).bind fun r11 => if r11 = x1 then (if r4 = 0 then (fX7_collision_j65 x1 x2 x3 x4 (fX7_collision_l10 V x1 x2 x3 x4 fu) V x5) else (if r4 = 1 then (fX7_collision_j65 x1 x2 x3 x4 (fX7_collision_l10 V x1 x2 x3 x4 fu) V x5) else (fX7_collision_j69 x1 x2 x3 x4 (fX7_collision_l10 V x1 x2 x3 x4 fu) V x5))) else (fX7_collision_j69 x1 x2 x3 x4 (fX7_collision_l10 V x1 x2 x3 x4 fu) V x5)))) := rfl
theorem fX7_collision_l10_z  (V : Vn) (x1 : Int32) (x2 : Int32) (x3 : Int32) (x4 : Int32) (x5 : Int32) : fX7_collision_l10 V x1 x2 x3 x4 0 x5 = none := rfl
noncomputable def fX7_collision  (V : Vn) (x1 : Int32) (x2 : Int32) (x3 : Int32) : Option (Int32) := (fX7_period V x1).bind fun r1 => fX7_collision_l10 V x1 x2 x3 r1 FU 0
abbrev vX7_collision : List Cond := Cond.code yX7_collision cX7_collision 8 (some .int) :: BIG
theorem gX7_collision {own : String} {idx : Nat} (h : (Cond.methodLink own idx yX7_collision) ∈ BIG) : GoodIn BIG (wsV own idx RX7 yX7_collision vX7_collision) := gdV h bw2_126 bw2_127 bw1_3 bw2_128
def rmX7_collision : Room := { frames := 2, cells := 0, slots := 0, locals := 45 }
theorem hdX7_collision : yX7_collision.cls = RX7 ∧ yX7_collision.cls ≠ "java/lang/invoke/MethodHandle" ∧ yX7_collision.cls ≠ "java/lang/invoke/VarHandle" ∧ (parseMethodDescriptor yX7_collision.desc).map (fun d => d.parameters.length) = some 3 := by decide +kernel
set_option maxHeartbeats 4000000 in
set_option maxRecDepth 100000 in
theorem kX7_collision (l : Launch) (D : va_G) (cS : ClassId) (g : Nat → Nat) (cI : ClassId) (a : Nat → Nat) (V : Vn) (x1 : Int32) (x2 : Int32) (x3 : Int32) (r : Int32) (hF : fX7_collision V x1 x2 x3 = some r) : mI l yX7_collision vX7_collision rmX7_collision D cI cS g [.ref (a 0), .int x1, .int x2, .int x3] (wVn cI a V) r (wVn cI a V) := by
  refine st_I rfl (by decide) (Nat.le_of_ble_eq_true rfl) ?_
  intro p e s m args below meth c A ls hx hb hr hml hlocks hown hts hA hK hD0 hG hP hS hl
  have hown : s.vm.findClass RX7 = some m.cls := hown
  have hDa : ∀ V, va_D A (wVn cI a V) := fun V => hD0.adr rfl
  have htb : ∀ w ∈ BIG, w.before args s = true := fun w h => hts w (List.mem_cons_of_mem _ h)
  have hl : lv_has ls 8 [(0, .ref (a 0)), (1, .int x1), (2, .int x2), (3, .int x3)] := hl
  have l10 : ∀ (x1 : Int32) (x2 : Int32) (x3 : Int32) (x4 : Int32) (fu : Nat) (x5 : Int32) (H : Heap) (locs : List Loc) (ls : Array Slot), fX7_collision_l10 V x1 x2 x3 x4 fu x5 = some r → va_P D vwCl (wVn cI a V) H → va_S A s.heap H locs → lv_has ls 8 [(0, .ref (a 0)), (1, .int x1), (2, .int x2), (3, .int x3), (4, .int x4), (5, .int x5)] → W p l e rmX7_collision s m args below meth c H locs 0 0 (MQ below (qI D r (wVn cI a V) A) args s 0 0 A) (F0 m 10 ls []) := by
    intro x1 x2 x3 x4  fu
    induction fu with
    | zero => intro x5 H locs ls hF; exact nn_use hF
    | succ fu ihn =>
      intro x5 H locs ls hF hP hS hl 
      rw [fX7_collision_l10_s] at hF
      have j100 : ∀ (x5 : Int32) (H : Heap) (locs : List Loc) (ls : Array Slot), fX7_collision_j100 x1 x2 x3 x4  (fX7_collision_l10 V x1 x2 x3 x4 fu) V x5 = some r → va_P D vwCl (wVn cI a V) H → va_S A s.heap H locs → lv_has ls 8 [(0, .ref (a 0)), (1, .int x1), (2, .int x2), (3, .int x3), (4, .int x4), (5, .int x5)] → W p l e rmX7_collision s m args below meth c H locs 0 0 (MQ below (qI D r (wVn cI a V) A) args s 0 0 A) (F0 m 100 ls []) := by
        intro x5 H locs ls hF hP hS hl
        obtain ⟨v7, ev7⟩ : ∃ z : Int32, z = x5 + 1 := ⟨_, rfl⟩
        refine lv_iinc (v := v7) (lv' := [(5, .int v7), (0, .ref (a 0)), (1, .int x1), (2, .int x2), (3, .int x3), (4, .int x4)]) hx hb dX7_collision_100 hl (k := 5) rfl (by rw [ev7]; rfl) (by decide) rfl (fun ls hl => ?_)
        have hF := nm_use hF ev7
        refine lv_goto (tgt := 10) hx hb dX7_collision_103 (by decide) ?_
        exact ihn v7 _ _ _ hF hP hS (lv_sub hl [1, 2, 3, 4, 5, 0] rfl)
      have j70 : ∀ (x5 : Int32) (s0 : Int32) (H : Heap) (locs : List Loc) (ls : Array Slot), fX7_collision_j70 x1 x2 x3 x4  (fX7_collision_l10 V x1 x2 x3 x4 fu) V x5 s0 = some r → va_P D vwCl (wVn cI a V) H → va_S A s.heap H locs → lv_has ls 8 [(0, .ref (a 0)), (1, .int x1), (2, .int x2), (3, .int x3), (4, .int x4), (5, .int x5)] → W p l e rmX7_collision s m args below meth c H locs 0 0 (MQ below (qI D r (wVn cI a V) A) args s 0 0 A) (F0 m 70 ls [.int s0]) := by
        intro x5 s0 H locs ls hF hP hS hl
        refine lv_istore (lv' := [(7, .int s0), (0, .ref (a 0)), (1, .int x1), (2, .int x2), (3, .int x3), (4, .int x4), (5, .int x5)]) hx hb dX7_collision_70 hl (by decide) rfl (fun ls hl => ?_)
        refine lv_iload hx hb dX7_collision_72 (lv_at hl 0 rfl) ?_
        refine lv_if_eq (tgt := 100) hx hb dX7_collision_74 (by decide) (fun c6 => ?_) (fun c6 => ?_)
        · have hF := it_t hF c6
          exact j100 x5 _ _ _ hF hP hS (lv_sub hl [1, 2, 3, 4, 5, 6] rfl)
        · have hF := it_f hF c6
          refine lv_aload_n hx hb dX7_collision_77 rfl (lv_at hl 1 rfl) ?_
          refine va_get (ci := 7) (v := .ref (a 3)) (C := RX7) (T := TX7) (N := 6) hx hb htb kin7 hown hK hP 0 (pVn_0 cI a V) rfl 1 (by decide) (htb _ bw1_76) (fun _ h9 => h9) rfl dX7_collision_78 ?_
          refine lv_iload hx hb dX7_collision_81 (lv_at hl 6 rfl) ?_
          refine lv_iconst (v := 1) hx hb dX7_collision_83 (by decide) ?_
          obtain ⟨r8, hr8, hF⟩ := bd_use hF
          refine cl_VI ⟨hx, hb, hml, hown, htb⟩ (kX6_cell l D cS g cI (a 3) (a 4) 160 16 10 (V.2.1) x5 1 _ hr8) (cwV 2 htb (gX6_cell bw1_235) rfl rfl rfl hdX6_cell ⟨Nat.le_of_ble_eq_true rfl, Nat.le_of_ble_eq_true rfl⟩) hK (hDa _) hG hA hP hS (sr_Vn_bookings cI a V) hl.1 rfl 0 (pTb_0 _ _ _ _ _ _ _) rfl rfl (Nat.le_of_ble_eq_true rfl) dX7_collision_84 (fun H locs hP hS => ?_)
          refine lv_iload_n hx hb dX7_collision_87 rfl (lv_at hl 3 rfl) ?_
          refine lv_isub hx hb dX7_collision_88 ?_
          refine va_mabs hx hb (hml.trans hl.1.symm) hown (htb _ bw2_133) (htb _ bw2_134) (htb _ bw1_5) (htb _ bw2_135) (Nat.le_of_ble_eq_true rfl) (Nat.le_of_ble_eq_true rfl) (Nat.zero_le _) (Nat.zero_le _) dX7_collision_89 ?_
          refine lv_topi (fun v9 ev9 => ?_)
          have hF := nm_use hF ev9
          refine lv_iload hx hb dX7_collision_92 (lv_at hl 5 rfl) ?_
          refine lv_icmp_ge (tgt := 100) hx hb dX7_collision_94 (by decide) (fun c10 => ?_) (fun c10 => ?_)
          · have hF := it_t hF c10
            exact j100 x5 _ _ _ hF hP hS (lv_sub hl [1, 2, 3, 4, 5, 6] rfl)
          · have hF := it_f hF c10
            refine lv_iload hx hb dX7_collision_97 (lv_at hl 6 rfl) ?_
            exact rt_I hx hb hr hlocks hS hP (so_use hF) dX7_collision_99
      have j69 : ∀ (x5 : Int32) (H : Heap) (locs : List Loc) (ls : Array Slot), fX7_collision_j69 x1 x2 x3 x4  (fX7_collision_l10 V x1 x2 x3 x4 fu) V x5 = some r → va_P D vwCl (wVn cI a V) H → va_S A s.heap H locs → lv_has ls 8 [(0, .ref (a 0)), (1, .int x1), (2, .int x2), (3, .int x3), (4, .int x4), (5, .int x5)] → W p l e rmX7_collision s m args below meth c H locs 0 0 (MQ below (qI D r (wVn cI a V) A) args s 0 0 A) (F0 m 69 ls []) := by
        intro x5 H locs ls hF hP hS hl
        refine lv_iconst (v := 0) hx hb dX7_collision_69 (by decide) ?_
        exact j70 x5 0 _ _ _ hF hP hS (lv_sub hl [0, 1, 2, 3, 4, 5] rfl)
      have j65 : ∀ (x5 : Int32) (H : Heap) (locs : List Loc) (ls : Array Slot), fX7_collision_j65 x1 x2 x3 x4  (fX7_collision_l10 V x1 x2 x3 x4 fu) V x5 = some r → va_P D vwCl (wVn cI a V) H → va_S A s.heap H locs → lv_has ls 8 [(0, .ref (a 0)), (1, .int x1), (2, .int x2), (3, .int x3), (4, .int x4), (5, .int x5)] → W p l e rmX7_collision s m args below meth c H locs 0 0 (MQ below (qI D r (wVn cI a V) A) args s 0 0 A) (F0 m 65 ls []) := by
        intro x5 H locs ls hF hP hS hl
        refine lv_iconst (v := 1) hx hb dX7_collision_65 (by decide) ?_
        refine lv_goto (tgt := 70) hx hb dX7_collision_66 (by decide) ?_
        exact j70 x5 1 _ _ _ hF hP hS (lv_sub hl [0, 1, 2, 3, 4, 5] rfl)
      refine lv_iload hx hb dX7_collision_10 (lv_at hl 5 rfl) ?_
      refine lv_aload_n hx hb dX7_collision_12 rfl (lv_at hl 0 rfl) ?_
      refine va_get (ci := 7) (v := .ref (a 3)) (C := RX7) (T := TX7) (N := 6) hx hb htb kin7 hown hK hP 0 (pVn_0 cI a V) rfl 1 (by decide) (htb _ bw1_76) (fun _ h9 => h9) rfl dX7_collision_13 ?_
      obtain ⟨r2, hr2, hF⟩ := bd_use hF
      refine cl_VI ⟨hx, hb, hml, hown, htb⟩ (kX6_size l D cS g cI (a 3) (a 4) 160 16 10 (V.2.1)  _ hr2) (cwV 0 htb (gX6_size bw2_3) rfl rfl rfl hdX6_size ⟨Nat.le_of_ble_eq_true rfl, Nat.le_of_ble_eq_true rfl⟩) hK (hDa _) hG hA hP hS (sr_Vn_bookings cI a V) hl.1 rfl 0 (pTb_0 _ _ _ _ _ _ _) rfl rfl (Nat.le_of_ble_eq_true rfl) dX7_collision_16 (fun H locs hP hS => ?_)
      refine lv_icmp_ge (tgt := 106) hx hb dX7_collision_19 (by decide) (fun c3 => ?_) (fun c3 => ?_)
      · have hF := it_t hF c3
        refine lv_bipush (v := (-9)) hx hb dX7_collision_106 (by decide) ?_
        exact rt_I hx hb hr hlocks hS hP (so_use hF) dX7_collision_108
      · have hF := it_f hF c3
        refine lv_aload_n hx hb dX7_collision_22 rfl (lv_at hl 0 rfl) ?_
        refine va_get (ci := 7) (v := .ref (a 3)) (C := RX7) (T := TX7) (N := 6) hx hb htb kin7 hown hK hP 0 (pVn_0 cI a V) rfl 1 (by decide) (htb _ bw1_76) (fun _ h9 => h9) rfl dX7_collision_23 ?_
        refine lv_iload hx hb dX7_collision_26 (lv_at hl 5 rfl) ?_
        refine lv_iconst (v := 3) hx hb dX7_collision_28 (by decide) ?_
        obtain ⟨r4, hr4, hF⟩ := bd_use hF
        refine cl_VI ⟨hx, hb, hml, hown, htb⟩ (kX6_cell l D cS g cI (a 3) (a 4) 160 16 10 (V.2.1) x5 3 _ hr4) (cwV 2 htb (gX6_cell bw1_235) rfl rfl rfl hdX6_cell ⟨Nat.le_of_ble_eq_true rfl, Nat.le_of_ble_eq_true rfl⟩) hK (hDa _) hG hA hP hS (sr_Vn_bookings cI a V) hl.1 rfl 0 (pTb_0 _ _ _ _ _ _ _) rfl rfl (Nat.le_of_ble_eq_true rfl) dX7_collision_29 (fun H locs hP hS => ?_)
        refine lv_istore (lv' := [(6, .int r4), (0, .ref (a 0)), (1, .int x1), (2, .int x2), (3, .int x3), (4, .int x4), (5, .int x5)]) hx hb dX7_collision_32 hl (by decide) rfl (fun ls hl => ?_)
        refine lv_iload hx hb dX7_collision_34 (lv_at hl 6 rfl) ?_
        refine lv_iload_n hx hb dX7_collision_36 rfl (lv_at hl 4 rfl) ?_
        refine lv_icmp_eq (tgt := 69) hx hb dX7_collision_37 (by decide) (fun c5 => ?_) (fun c5 => ?_)
        · have hF := it_t hF c5
          exact j69 x5 _ _ _ hF hP hS (lv_sub hl [1, 2, 3, 4, 5, 6] rfl)
        · have hF := it_f hF c5
          refine lv_aload_n hx hb dX7_collision_40 rfl (lv_at hl 1 rfl) ?_
          refine va_get (ci := 7) (v := .ref (a 3)) (C := RX7) (T := TX7) (N := 6) hx hb htb kin7 hown hK hP 0 (pVn_0 cI a V) rfl 1 (by decide) (htb _ bw1_76) (fun _ h9 => h9) rfl dX7_collision_41 ?_
          refine lv_iload hx hb dX7_collision_44 (lv_at hl 6 rfl) ?_
          refine lv_iconst (v := 0) hx hb dX7_collision_46 (by decide) ?_
          obtain ⟨r11, hr11, hF⟩ := bd_use hF
          refine cl_VI ⟨hx, hb, hml, hown, htb⟩ (kX6_cell l D cS g cI (a 3) (a 4) 160 16 10 (V.2.1) x5 0 _ hr11) (cwV 2 htb (gX6_cell bw1_235) rfl rfl rfl hdX6_cell ⟨Nat.le_of_ble_eq_true rfl, Nat.le_of_ble_eq_true rfl⟩) hK (hDa _) hG hA hP hS (sr_Vn_bookings cI a V) hl.1 rfl 0 (pTb_0 _ _ _ _ _ _ _) rfl rfl (Nat.le_of_ble_eq_true rfl) dX7_collision_47 (fun H locs hP hS => ?_)
          refine lv_iload_n hx hb dX7_collision_50 rfl (lv_at hl 2 rfl) ?_
          refine lv_icmp_ne (tgt := 69) hx hb dX7_collision_51 (by decide) (fun c12 => ?_) (fun c12 => ?_)
          · have hF := it_f hF c12
            exact j69 x5 _ _ _ hF hP hS (lv_sub hl [1, 2, 3, 4, 5, 6] rfl)
          · have hF := it_t hF c12
            refine lv_iload hx hb dX7_collision_54 (lv_at hl 0 rfl) ?_
            refine lv_if_eq (tgt := 65) hx hb dX7_collision_56 (by decide) (fun c13 => ?_) (fun c13 => ?_)
            · have hF := it_t hF c13
              exact j65 x5 _ _ _ hF hP hS (lv_sub hl [1, 2, 3, 4, 5, 6] rfl)
            · have hF := it_f hF c13
              refine lv_iload hx hb dX7_collision_59 (lv_at hl 0 rfl) ?_
              refine lv_iconst (v := 1) hx hb dX7_collision_61 (by decide) ?_
              refine lv_icmp_ne (tgt := 69) hx hb dX7_collision_62 (by decide) (fun c14 => ?_) (fun c14 => ?_)
              · have hF := it_f hF c14
                exact j69 x5 _ _ _ hF hP hS (lv_sub hl [1, 2, 3, 4, 5, 6] rfl)
              · have hF := it_t hF c14
                exact j65 x5 _ _ _ hF hP hS (lv_sub hl [1, 2, 3, 4, 5, 6] rfl)
  refine lv_aload_n hx hb dX7_collision_0 rfl (lv_at hl 0 rfl) ?_
  refine lv_iload_n hx hb dX7_collision_1 rfl (lv_at hl 1 rfl) ?_
  obtain ⟨r1, hr1, hF⟩ := bd_use hF
  refine cl_VI ⟨hx, hb, hml, hown, htb⟩ (kX7_period l D cS g cI a V x1 _ hr1) (cwV 1 htb (gX7_period bw2_129) rfl rfl rfl hdX7_period ⟨Nat.le_of_ble_eq_true rfl, Nat.le_of_ble_eq_true rfl⟩) hK (hDa _) hG hA hP hS (sr_Vn_Vn cI a V) hl.1 rfl 0 (pVn_0 _ _ _) rfl rfl (Nat.le_of_ble_eq_true rfl) dX7_collision_2 (fun H locs hP hS => ?_)
  refine lv_istore (lv' := [(4, .int r1), (0, .ref (a 0)), (1, .int x1), (2, .int x2), (3, .int x3)]) hx hb dX7_collision_5 hl (by decide) rfl (fun ls hl => ?_)
  refine lv_iconst (v := 0) hx hb dX7_collision_7 (by decide) ?_
  refine lv_istore (lv' := [(5, .int 0), (4, .int r1), (0, .ref (a 0)), (1, .int x1), (2, .int x2), (3, .int x3)]) hx hb dX7_collision_8 hl (by decide) rfl (fun ls hl => ?_)
  refine l10 x1 x2 x3 r1  _ 0 _ _ _ hF hP hS (lv_sub hl [2, 3, 4, 5, 1, 0] rfl)
noncomputable def fX7_isPossible_j26  (V : Vn) (s0 : Int32) : Option (Int32) := Zb s0 (some s0)
noncomputable def fX7_isPossible_j25  (V : Vn) : Option (Int32) := fX7_isPossible_j26 V 0
noncomputable def fX7_isPossible  (V : Vn) (x1 : Int32) (x2 : Int32) (x3 : Int32) : Option (Int32) := (fX7_timeBehindPlays V x1).bind fun r1 => if x2 < r1 then (fX7_isPossible_j25 V) else ((fX7_collision V x1 x2 x3).bind fun r3 => if r3 = (-9) then (fX7_isPossible_j26 V 1) else (fX7_isPossible_j25 V))
abbrev vX7_isPossible : List Cond := Cond.code yX7_isPossible cX7_isPossible 4 (some .boolean) :: BIG
theorem gX7_isPossible {own : String} {idx : Nat} (h : (Cond.methodLink own idx yX7_isPossible) ∈ BIG) : GoodIn BIG (wsV own idx RX7 yX7_isPossible vX7_isPossible) := gdV h bw2_117 bw2_118 bw1_3 bw2_119
def rmX7_isPossible : Room := { frames := 3, cells := 0, slots := 0, locals := 72 }
theorem hdX7_isPossible : yX7_isPossible.cls = RX7 ∧ yX7_isPossible.cls ≠ "java/lang/invoke/MethodHandle" ∧ yX7_isPossible.cls ≠ "java/lang/invoke/VarHandle" ∧ (parseMethodDescriptor yX7_isPossible.desc).map (fun d => d.parameters.length) = some 3 := by decide +kernel
set_option maxHeartbeats 4000000 in
set_option maxRecDepth 100000 in
theorem kX7_isPossible (l : Launch) (D : va_G) (cS : ClassId) (g : Nat → Nat) (cI : ClassId) (a : Nat → Nat) (V : Vn) (x1 : Int32) (x2 : Int32) (x3 : Int32) (r : Int32) (hF : fX7_isPossible V x1 x2 x3 = some r) : mI l yX7_isPossible vX7_isPossible rmX7_isPossible D cI cS g [.ref (a 0), .int x1, .int x2, .int x3] (wVn cI a V) r (wVn cI a V) := by
  refine st_I rfl (by decide) (Nat.le_of_ble_eq_true rfl) ?_
  intro p e s m args below meth c A ls hx hb hr hml hlocks hown hts hA hK hD0 hG hP hS hl
  have hown : s.vm.findClass RX7 = some m.cls := hown
  have hDa : ∀ V, va_D A (wVn cI a V) := fun V => hD0.adr rfl
  have htb : ∀ w ∈ BIG, w.before args s = true := fun w h => hts w (List.mem_cons_of_mem _ h)
  have hl : lv_has ls 4 [(0, .ref (a 0)), (1, .int x1), (2, .int x2), (3, .int x3)] := hl
  have j26 : ∀ (s0 : Int32) (H : Heap) (locs : List Loc) (ls : Array Slot), fX7_isPossible_j26 V s0 = some r → va_P D vwCl (wVn cI a V) H → va_S A s.heap H locs → lv_has ls 4 [] → W p l e rmX7_isPossible s m args below meth c H locs 0 0 (MQ below (qI D r (wVn cI a V) A) args s 0 0 A) (F0 m 26 ls [.int s0]) := by
    intro s0 H locs ls hF hP hS hl
    obtain ⟨hz, hF⟩ := zb_use hF
    exact rt_Z hx hb hr hlocks hS hP hz (so_use hF) dX7_isPossible_26
  have j25 : ∀ (H : Heap) (locs : List Loc) (ls : Array Slot), fX7_isPossible_j25 V = some r → va_P D vwCl (wVn cI a V) H → va_S A s.heap H locs → lv_has ls 4 [] → W p l e rmX7_isPossible s m args below meth c H locs 0 0 (MQ below (qI D r (wVn cI a V) A) args s 0 0 A) (F0 m 25 ls []) := by
    intro H locs ls hF hP hS hl
    refine lv_iconst (v := 0) hx hb dX7_isPossible_25 (by decide) ?_
    exact j26 0 _ _ _ hF hP hS (lv_sub hl [] rfl)
  refine lv_iload_n hx hb dX7_isPossible_0 rfl (lv_at hl 2 rfl) ?_
  refine lv_aload_n hx hb dX7_isPossible_1 rfl (lv_at hl 0 rfl) ?_
  refine lv_iload_n hx hb dX7_isPossible_2 rfl (lv_at hl 1 rfl) ?_
  obtain ⟨r1, hr1, hF⟩ := bd_use hF
  refine cl_VI ⟨hx, hb, hml, hown, htb⟩ (kX7_timeBehindPlays l D cS g cI a V x1 _ hr1) (cwV 1 htb (gX7_timeBehindPlays bw2_120) rfl rfl rfl hdX7_timeBehindPlays ⟨Nat.le_of_ble_eq_true rfl, Nat.le_of_ble_eq_true rfl⟩) hK (hDa _) hG hA hP hS (sr_Vn_Vn cI a V) hl.1 rfl 0 (pVn_0 _ _ _) rfl rfl (Nat.le_of_ble_eq_true rfl) dX7_isPossible_3 (fun H locs hP hS => ?_)
  refine lv_icmp_lt (tgt := 25) hx hb dX7_isPossible_6 (by decide) (fun c2 => ?_) (fun c2 => ?_)
  · have hF := it_t hF c2
    exact j25  _ _ _ hF hP hS (lv_sub hl [] rfl)
  · have hF := it_f hF c2
    refine lv_aload_n hx hb dX7_isPossible_9 rfl (lv_at hl 0 rfl) ?_
    refine lv_iload_n hx hb dX7_isPossible_10 rfl (lv_at hl 1 rfl) ?_
    refine lv_iload_n hx hb dX7_isPossible_11 rfl (lv_at hl 2 rfl) ?_
    refine lv_iload_n hx hb dX7_isPossible_12 rfl (lv_at hl 3 rfl) ?_
    obtain ⟨r3, hr3, hF⟩ := bd_use hF
    refine cl_VI ⟨hx, hb, hml, hown, htb⟩ (kX7_collision l D cS g cI a V x1 x2 x3 _ hr3) (cwV 3 htb (gX7_collision bw2_125) rfl rfl rfl hdX7_collision ⟨Nat.le_of_ble_eq_true rfl, Nat.le_of_ble_eq_true rfl⟩) hK (hDa _) hG hA hP hS (sr_Vn_Vn cI a V) hl.1 rfl 0 (pVn_0 _ _ _) rfl rfl (Nat.le_of_ble_eq_true rfl) dX7_isPossible_13 (fun H locs hP hS => ?_)
    refine lv_bipush (v := (-9)) hx hb dX7_isPossible_16 (by decide) ?_
    refine lv_icmp_ne (tgt := 25) hx hb dX7_isPossible_18 (by decide) (fun c4 => ?_) (fun c4 => ?_)
    · have hF := it_f hF c4
      exact j25  _ _ _ hF hP hS (lv_sub hl [] rfl)
    · have hF := it_t hF c4
      refine lv_iconst (v := 1) hx hb dX7_isPossible_21 (by decide) ?_
      refine lv_goto (tgt := 26) hx hb dX7_isPossible_22 (by decide) ?_
      exact j26 1 _ _ _ hF hP hS (lv_sub hl [] rfl)
noncomputable def fX7_nextBooked_j98  (x1 : Int32) (x2 : Int32) (ih : Int32 → Int32 → Int32 → Option (Int32)) (V : Vn) (x3 : Int32) (x4 : Int32) (x5 : Int32) : Option (Int32) := nm (x5 + 1) fun v7 => ih x3 x4 v7
noncomputable def fX7_nextBooked_j91  (x1 : Int32) (x2 : Int32) (ih : Int32 → Int32 → Int32 → Option (Int32)) (V : Vn) (x5 : Int32) (x6 : Int32) : Option (Int32) := fX7_nextBooked_j98 x1 x2 ih V x5 x6 x5
noncomputable def fX7_nextBooked_j71  (x1 : Int32) (x2 : Int32) (ih : Int32 → Int32 → Int32 → Option (Int32)) (V : Vn) (x3 : Int32) (x4 : Int32) (x5 : Int32) (x6 : Int32) (s0 : Int32) : Option (Int32) := if s0 = 0 then (fX7_nextBooked_j98 x1 x2 ih V x3 x4 x5) else (if x3 = (-9) then (fX7_nextBooked_j91 x1 x2 ih V x5 x6) else (if x4 ≤ x6 then (fX7_nextBooked_j98 x1 x2 ih V x3 x4 x5) else (fX7_nextBooked_j91 x1 x2 ih V x5 x6)))
noncomputable def fX7_nextBooked_j70  (x1 : Int32) (x2 : Int32) (ih : Int32 → Int32 → Int32 → Option (Int32)) (V : Vn) (x3 : Int32) (x4 : Int32) (x5 : Int32) (x6 : Int32) : Option (Int32) := fX7_nextBooked_j71 x1 x2 ih V x3 x4 x5 x6 0
noncomputable def fX7_nextBooked_l9  (V : Vn) (x1 : Int32) (x2 : Int32) : Nat → Int32 → Int32 → Int32 → Option (Int32) := fun fu => Nat.rec (motive := fun _ => Int32 → Int32 → Int32 → Option (Int32)) (fun _ _ _ => none) (fun _ ih => fun x3 x4 x5 => (fX6_size 160 16 10 (V.2.1)).bind fun r1 => if r1 ≤ x5 then (some x3) else ((fX6_cell 160 16 10 (V.2.1) x5 1).bind fun r3 => (fX6_cell 160 16 10 (V.2.1) x5 3).bind fun r4 => if r4 = 0 then ((fX6_cell 160 16 10 (V.2.1) x5 0).bind fun r10 => if r10 = x1 then (if r3 ≤ x2 then (fX7_nextBooked_j70 x1 x2 ih V x3 x4 x5 r3) else (fX7_nextBooked_j71 x1 x2 ih V x3 x4 x5 r3 1)) else (fX7_nextBooked_j70 x1 x2 ih V x3 x4 x5 r3)) else (fX7_nextBooked_j70 x1 x2 ih V x3 x4 x5 r3))) fu
theorem fX7_nextBooked_l9_s  (V : Vn) (x1 : Int32) (x2 : Int32) (fu : Nat) (x3 : Int32) (x4 : Int32) (x5 : Int32) : fX7_nextBooked_l9 V x1 x2 (fu + 1) x3 x4 x5 = ((fX6_size 160 16 10 (V.2.1)).bind fun r1 => if r1 ≤ x5 then (some x3) else ((fX6_cell 160 16 10 (V.2.1) x5 1).bind fun r3 => (fX6_cell 160 16 10 (V.2.1) x5 3).bind fun r4 => if r4 = 0 then ((fX6_cell 160 16 10 (V.2.1) x5 0).bind fun r10 => if r10 = x1 then (if r3 ≤ x2 then (fX7_nextBooked_j70 x1 x2 (fX7_nextBooked_l9 V x1 x2 fu) V x3 x4 x5 r3) else (fX7_nextBooked_j71 x1 x2 (fX7_nextBooked_l9 V x1 x2 fu) V x3 x4 x5 r3 1)) else (fX7_nextBooked_j70 x1 x2 (fX7_nextBooked_l9 V x1 x2 fu) V x3 x4 x5 r3)) else (fX7_nextBooked_j70 x1 x2 (fX7_nextBooked_l9 V x1 x2 fu) V x3 x4 x5 r3))) := rfl
theorem fX7_nextBooked_l9_z  (V : Vn) (x1 : Int32) (x2 : Int32) (x3 : Int32) (x4 : Int32) (x5 : Int32) : fX7_nextBooked_l9 V x1 x2 0 x3 x4 x5 = none := rfl
noncomputable def fX7_nextBooked  (V : Vn) (x1 : Int32) (x2 : Int32) : Option (Int32) := fX7_nextBooked_l9 V x1 x2 FU (-9) 0 0
abbrev vX7_nextBooked : List Cond := Cond.code yX7_nextBooked cX7_nextBooked 8 (some .int) :: BIG
theorem gX7_nextBooked {own : String} {idx : Nat} (h : (Cond.methodLink own idx yX7_nextBooked) ∈ BIG) : GoodIn BIG (wsV own idx RX7 yX7_nextBooked vX7_nextBooked) := gdV h bw2_182 bw2_183 bw1_3 bw2_184
def rmX7_nextBooked : Room := { frames := 1, cells := 0, slots := 0, locals := 24 }
theorem hdX7_nextBooked : yX7_nextBooked.cls = RX7 ∧ yX7_nextBooked.cls ≠ "java/lang/invoke/MethodHandle" ∧ yX7_nextBooked.cls ≠ "java/lang/invoke/VarHandle" ∧ (parseMethodDescriptor yX7_nextBooked.desc).map (fun d => d.parameters.length) = some 2 := by decide +kernel
set_option maxHeartbeats 4000000 in
set_option maxRecDepth 100000 in
theorem kX7_nextBooked (l : Launch) (D : va_G) (cS : ClassId) (g : Nat → Nat) (cI : ClassId) (a : Nat → Nat) (V : Vn) (x1 : Int32) (x2 : Int32) (r : Int32) (hF : fX7_nextBooked V x1 x2 = some r) : mI l yX7_nextBooked vX7_nextBooked rmX7_nextBooked D cI cS g [.ref (a 0), .int x1, .int x2] (wVn cI a V) r (wVn cI a V) := by
  refine st_I rfl (by decide) (Nat.le_of_ble_eq_true rfl) ?_
  intro p e s m args below meth c A ls hx hb hr hml hlocks hown hts hA hK hD0 hG hP hS hl
  have hown : s.vm.findClass RX7 = some m.cls := hown
  have hDa : ∀ V, va_D A (wVn cI a V) := fun V => hD0.adr rfl
  have htb : ∀ w ∈ BIG, w.before args s = true := fun w h => hts w (List.mem_cons_of_mem _ h)
  have hl : lv_has ls 8 [(0, .ref (a 0)), (1, .int x1), (2, .int x2)] := hl
  have l9 : ∀ (x1 : Int32) (x2 : Int32) (fu : Nat) (x3 : Int32) (x4 : Int32) (x5 : Int32) (H : Heap) (locs : List Loc) (ls : Array Slot), fX7_nextBooked_l9 V x1 x2 fu x3 x4 x5 = some r → va_P D vwCl (wVn cI a V) H → va_S A s.heap H locs → lv_has ls 8 [(0, .ref (a 0)), (1, .int x1), (2, .int x2), (3, .int x3), (4, .int x4), (5, .int x5)] → W p l e rmX7_nextBooked s m args below meth c H locs 0 0 (MQ below (qI D r (wVn cI a V) A) args s 0 0 A) (F0 m 9 ls []) := by
    intro x1 x2  fu
    induction fu with
    | zero => intro x3 x4 x5 H locs ls hF; exact nn_use hF
    | succ fu ihn =>
      intro x3 x4 x5 H locs ls hF hP hS hl 
      rw [fX7_nextBooked_l9_s] at hF
      have j98 : ∀ (x3 : Int32) (x4 : Int32) (x5 : Int32) (H : Heap) (locs : List Loc) (ls : Array Slot), fX7_nextBooked_j98 x1 x2  (fX7_nextBooked_l9 V x1 x2 fu) V x3 x4 x5 = some r → va_P D vwCl (wVn cI a V) H → va_S A s.heap H locs → lv_has ls 8 [(0, .ref (a 0)), (1, .int x1), (2, .int x2), (3, .int x3), (4, .int x4), (5, .int x5)] → W p l e rmX7_nextBooked s m args below meth c H locs 0 0 (MQ below (qI D r (wVn cI a V) A) args s 0 0 A) (F0 m 98 ls []) := by
        intro x3 x4 x5 H locs ls hF hP hS hl
        obtain ⟨v7, ev7⟩ : ∃ z : Int32, z = x5 + 1 := ⟨_, rfl⟩
        refine lv_iinc (v := v7) (lv' := [(5, .int v7), (0, .ref (a 0)), (1, .int x1), (2, .int x2), (3, .int x3), (4, .int x4)]) hx hb dX7_nextBooked_98 hl (k := 5) rfl (by rw [ev7]; rfl) (by decide) rfl (fun ls hl => ?_)
        have hF := nm_use hF ev7
        refine lv_goto (tgt := 9) hx hb dX7_nextBooked_101 (by decide) ?_
        exact ihn x3 x4 v7 _ _ _ hF hP hS (lv_sub hl [1, 2, 3, 4, 5, 0] rfl)
      have j91 : ∀ (x5 : Int32) (x6 : Int32) (H : Heap) (locs : List Loc) (ls : Array Slot), fX7_nextBooked_j91 x1 x2  (fX7_nextBooked_l9 V x1 x2 fu) V x5 x6 = some r → va_P D vwCl (wVn cI a V) H → va_S A s.heap H locs → lv_has ls 8 [(0, .ref (a 0)), (1, .int x1), (2, .int x2), (5, .int x5), (6, .int x6)] → W p l e rmX7_nextBooked s m args below meth c H locs 0 0 (MQ below (qI D r (wVn cI a V) A) args s 0 0 A) (F0 m 91 ls []) := by
        intro x5 x6 H locs ls hF hP hS hl
        refine lv_iload hx hb dX7_nextBooked_91 (lv_at hl 3 rfl) ?_
        refine lv_istore_n (lv' := [(3, .int x5), (0, .ref (a 0)), (1, .int x1), (2, .int x2), (5, .int x5), (6, .int x6)]) hx hb dX7_nextBooked_93 rfl hl (by decide) rfl (fun ls hl => ?_)
        refine lv_iload hx hb dX7_nextBooked_94 (lv_at hl 5 rfl) ?_
        refine lv_istore (lv' := [(4, .int x6), (3, .int x5), (0, .ref (a 0)), (1, .int x1), (2, .int x2), (5, .int x5), (6, .int x6)]) hx hb dX7_nextBooked_96 hl (by decide) rfl (fun ls hl => ?_)
        exact j98 x5 x6 x5 _ _ _ hF hP hS (lv_sub hl [2, 3, 4, 1, 0, 5] rfl)
      have j71 : ∀ (x3 : Int32) (x4 : Int32) (x5 : Int32) (x6 : Int32) (s0 : Int32) (H : Heap) (locs : List Loc) (ls : Array Slot), fX7_nextBooked_j71 x1 x2  (fX7_nextBooked_l9 V x1 x2 fu) V x3 x4 x5 x6 s0 = some r → va_P D vwCl (wVn cI a V) H → va_S A s.heap H locs → lv_has ls 8 [(0, .ref (a 0)), (1, .int x1), (2, .int x2), (3, .int x3), (4, .int x4), (5, .int x5), (6, .int x6)] → W p l e rmX7_nextBooked s m args below meth c H locs 0 0 (MQ below (qI D r (wVn cI a V) A) args s 0 0 A) (F0 m 71 ls [.int s0]) := by
        intro x3 x4 x5 x6 s0 H locs ls hF hP hS hl
        refine lv_istore (lv' := [(7, .int s0), (0, .ref (a 0)), (1, .int x1), (2, .int x2), (3, .int x3), (4, .int x4), (5, .int x5), (6, .int x6)]) hx hb dX7_nextBooked_71 hl (by decide) rfl (fun ls hl => ?_)
        refine lv_iload hx hb dX7_nextBooked_73 (lv_at hl 0 rfl) ?_
        refine lv_if_eq (tgt := 98) hx hb dX7_nextBooked_75 (by decide) (fun c6 => ?_) (fun c6 => ?_)
        · have hF := it_t hF c6
          exact j98 x3 x4 x5 _ _ _ hF hP hS (lv_sub hl [1, 2, 3, 4, 5, 6] rfl)
        · have hF := it_f hF c6
          refine lv_iload_n hx hb dX7_nextBooked_78 rfl (lv_at hl 4 rfl) ?_
          refine lv_bipush (v := (-9)) hx hb dX7_nextBooked_79 (by decide) ?_
          refine lv_icmp_eq (tgt := 91) hx hb dX7_nextBooked_81 (by decide) (fun c8 => ?_) (fun c8 => ?_)
          · have hF := it_t hF c8
            exact j91 x5 x6 _ _ _ hF hP hS (lv_sub hl [1, 2, 3, 6, 7] rfl)
          · have hF := it_f hF c8
            refine lv_iload hx hb dX7_nextBooked_84 (lv_at hl 7 rfl) ?_
            refine lv_iload hx hb dX7_nextBooked_86 (lv_at hl 5 rfl) ?_
            refine lv_icmp_ge (tgt := 98) hx hb dX7_nextBooked_88 (by decide) (fun c9 => ?_) (fun c9 => ?_)
            · have hF := it_t hF c9
              exact j98 x3 x4 x5 _ _ _ hF hP hS (lv_sub hl [1, 2, 3, 4, 5, 6] rfl)
            · have hF := it_f hF c9
              exact j91 x5 x6 _ _ _ hF hP hS (lv_sub hl [1, 2, 3, 6, 7] rfl)
      have j70 : ∀ (x3 : Int32) (x4 : Int32) (x5 : Int32) (x6 : Int32) (H : Heap) (locs : List Loc) (ls : Array Slot), fX7_nextBooked_j70 x1 x2  (fX7_nextBooked_l9 V x1 x2 fu) V x3 x4 x5 x6 = some r → va_P D vwCl (wVn cI a V) H → va_S A s.heap H locs → lv_has ls 8 [(0, .ref (a 0)), (1, .int x1), (2, .int x2), (3, .int x3), (4, .int x4), (5, .int x5), (6, .int x6)] → W p l e rmX7_nextBooked s m args below meth c H locs 0 0 (MQ below (qI D r (wVn cI a V) A) args s 0 0 A) (F0 m 70 ls []) := by
        intro x3 x4 x5 x6 H locs ls hF hP hS hl
        refine lv_iconst (v := 0) hx hb dX7_nextBooked_70 (by decide) ?_
        exact j71 x3 x4 x5 x6 0 _ _ _ hF hP hS (lv_sub hl [0, 1, 2, 3, 4, 5, 6] rfl)
      refine lv_iload hx hb dX7_nextBooked_9 (lv_at hl 5 rfl) ?_
      refine lv_aload_n hx hb dX7_nextBooked_11 rfl (lv_at hl 0 rfl) ?_
      refine va_get (ci := 7) (v := .ref (a 3)) (C := RX7) (T := TX7) (N := 6) hx hb htb kin7 hown hK hP 0 (pVn_0 cI a V) rfl 1 (by decide) (htb _ bw1_76) (fun _ h9 => h9) rfl dX7_nextBooked_12 ?_
      obtain ⟨r1, hr1, hF⟩ := bd_use hF
      refine cl_VI ⟨hx, hb, hml, hown, htb⟩ (kX6_size l D cS g cI (a 3) (a 4) 160 16 10 (V.2.1)  _ hr1) (cwV 0 htb (gX6_size bw2_3) rfl rfl rfl hdX6_size ⟨Nat.le_of_ble_eq_true rfl, Nat.le_of_ble_eq_true rfl⟩) hK (hDa _) hG hA hP hS (sr_Vn_bookings cI a V) hl.1 rfl 0 (pTb_0 _ _ _ _ _ _ _) rfl rfl (Nat.le_of_ble_eq_true rfl) dX7_nextBooked_15 (fun H locs hP hS => ?_)
      refine lv_icmp_ge (tgt := 104) hx hb dX7_nextBooked_18 (by decide) (fun c2 => ?_) (fun c2 => ?_)
      · have hF := it_t hF c2
        refine lv_iload_n hx hb dX7_nextBooked_104 rfl (lv_at hl 3 rfl) ?_
        exact rt_I hx hb hr hlocks hS hP (so_use hF) dX7_nextBooked_105
      · have hF := it_f hF c2
        refine lv_aload_n hx hb dX7_nextBooked_21 rfl (lv_at hl 0 rfl) ?_
        refine va_get (ci := 7) (v := .ref (a 3)) (C := RX7) (T := TX7) (N := 6) hx hb htb kin7 hown hK hP 0 (pVn_0 cI a V) rfl 1 (by decide) (htb _ bw1_76) (fun _ h9 => h9) rfl dX7_nextBooked_22 ?_
        refine lv_iload hx hb dX7_nextBooked_25 (lv_at hl 5 rfl) ?_
        refine lv_iconst (v := 1) hx hb dX7_nextBooked_27 (by decide) ?_
        obtain ⟨r3, hr3, hF⟩ := bd_use hF
        refine cl_VI ⟨hx, hb, hml, hown, htb⟩ (kX6_cell l D cS g cI (a 3) (a 4) 160 16 10 (V.2.1) x5 1 _ hr3) (cwV 2 htb (gX6_cell bw1_235) rfl rfl rfl hdX6_cell ⟨Nat.le_of_ble_eq_true rfl, Nat.le_of_ble_eq_true rfl⟩) hK (hDa _) hG hA hP hS (sr_Vn_bookings cI a V) hl.1 rfl 0 (pTb_0 _ _ _ _ _ _ _) rfl rfl (Nat.le_of_ble_eq_true rfl) dX7_nextBooked_28 (fun H locs hP hS => ?_)
        refine lv_istore (lv' := [(6, .int r3), (0, .ref (a 0)), (1, .int x1), (2, .int x2), (3, .int x3), (4, .int x4), (5, .int x5)]) hx hb dX7_nextBooked_31 hl (by decide) rfl (fun ls hl => ?_)
        refine lv_aload_n hx hb dX7_nextBooked_33 rfl (lv_at hl 1 rfl) ?_
        refine va_get (ci := 7) (v := .ref (a 3)) (C := RX7) (T := TX7) (N := 6) hx hb htb kin7 hown hK hP 0 (pVn_0 cI a V) rfl 1 (by decide) (htb _ bw1_76) (fun _ h9 => h9) rfl dX7_nextBooked_34 ?_
        refine lv_iload hx hb dX7_nextBooked_37 (lv_at hl 6 rfl) ?_
        refine lv_iconst (v := 3) hx hb dX7_nextBooked_39 (by decide) ?_
        obtain ⟨r4, hr4, hF⟩ := bd_use hF
        refine cl_VI ⟨hx, hb, hml, hown, htb⟩ (kX6_cell l D cS g cI (a 3) (a 4) 160 16 10 (V.2.1) x5 3 _ hr4) (cwV 2 htb (gX6_cell bw1_235) rfl rfl rfl hdX6_cell ⟨Nat.le_of_ble_eq_true rfl, Nat.le_of_ble_eq_true rfl⟩) hK (hDa _) hG hA hP hS (sr_Vn_bookings cI a V) hl.1 rfl 0 (pTb_0 _ _ _ _ _ _ _) rfl rfl (Nat.le_of_ble_eq_true rfl) dX7_nextBooked_40 (fun H locs hP hS => ?_)
        refine lv_if_ne (tgt := 70) hx hb dX7_nextBooked_43 (by decide) (fun c5 => ?_) (fun c5 => ?_)
        · have hF := it_f hF c5
          exact j70 x3 x4 x5 r3 _ _ _ hF hP hS (lv_sub hl [1, 2, 3, 4, 5, 6, 0] rfl)
        · have hF := it_t hF c5
          refine lv_aload_n hx hb dX7_nextBooked_46 rfl (lv_at hl 1 rfl) ?_
          refine va_get (ci := 7) (v := .ref (a 3)) (C := RX7) (T := TX7) (N := 6) hx hb htb kin7 hown hK hP 0 (pVn_0 cI a V) rfl 1 (by decide) (htb _ bw1_76) (fun _ h9 => h9) rfl dX7_nextBooked_47 ?_
          refine lv_iload hx hb dX7_nextBooked_50 (lv_at hl 6 rfl) ?_
          refine lv_iconst (v := 0) hx hb dX7_nextBooked_52 (by decide) ?_
          obtain ⟨r10, hr10, hF⟩ := bd_use hF
          refine cl_VI ⟨hx, hb, hml, hown, htb⟩ (kX6_cell l D cS g cI (a 3) (a 4) 160 16 10 (V.2.1) x5 0 _ hr10) (cwV 2 htb (gX6_cell bw1_235) rfl rfl rfl hdX6_cell ⟨Nat.le_of_ble_eq_true rfl, Nat.le_of_ble_eq_true rfl⟩) hK (hDa _) hG hA hP hS (sr_Vn_bookings cI a V) hl.1 rfl 0 (pTb_0 _ _ _ _ _ _ _) rfl rfl (Nat.le_of_ble_eq_true rfl) dX7_nextBooked_53 (fun H locs hP hS => ?_)
          refine lv_iload_n hx hb dX7_nextBooked_56 rfl (lv_at hl 2 rfl) ?_
          refine lv_icmp_ne (tgt := 70) hx hb dX7_nextBooked_57 (by decide) (fun c11 => ?_) (fun c11 => ?_)
          · have hF := it_f hF c11
            exact j70 x3 x4 x5 r3 _ _ _ hF hP hS (lv_sub hl [1, 2, 3, 4, 5, 6, 0] rfl)
          · have hF := it_t hF c11
            refine lv_iload hx hb dX7_nextBooked_60 (lv_at hl 0 rfl) ?_
            refine lv_iload_n hx hb dX7_nextBooked_62 rfl (lv_at hl 3 rfl) ?_
            refine lv_icmp_le (tgt := 70) hx hb dX7_nextBooked_63 (by decide) (fun c12 => ?_) (fun c12 => ?_)
            · have hF := it_t hF c12
              exact j70 x3 x4 x5 r3 _ _ _ hF hP hS (lv_sub hl [1, 2, 3, 4, 5, 6, 0] rfl)
            · have hF := it_f hF c12
              refine lv_iconst (v := 1) hx hb dX7_nextBooked_66 (by decide) ?_
              refine lv_goto (tgt := 71) hx hb dX7_nextBooked_67 (by decide) ?_
              exact j71 x3 x4 x5 r3 1 _ _ _ hF hP hS (lv_sub hl [1, 2, 3, 4, 5, 6, 0] rfl)
  refine lv_bipush (v := (-9)) hx hb dX7_nextBooked_0 (by decide) ?_
  refine lv_istore_n (lv' := [(3, .int (-9)), (0, .ref (a 0)), (1, .int x1), (2, .int x2)]) hx hb dX7_nextBooked_2 rfl hl (by decide) rfl (fun ls hl => ?_)
  refine lv_iconst (v := 0) hx hb dX7_nextBooked_3 (by decide) ?_
  refine lv_istore (lv' := [(4, .int 0), (3, .int (-9)), (0, .ref (a 0)), (1, .int x1), (2, .int x2)]) hx hb dX7_nextBooked_4 hl (by decide) rfl (fun ls hl => ?_)
  refine lv_iconst (v := 0) hx hb dX7_nextBooked_6 (by decide) ?_
  refine lv_istore (lv' := [(5, .int 0), (4, .int 0), (3, .int (-9)), (0, .ref (a 0)), (1, .int x1), (2, .int x2)]) hx hb dX7_nextBooked_7 hl (by decide) rfl (fun ls hl => ?_)
  refine l9 x1 x2  _ (-9) 0 0 _ _ _ hF hP hS (lv_sub hl [3, 4, 5, 2, 1, 0] rfl)
noncomputable def fX7_forecastStart_l31  (V : Vn) (x1 : Int32) (x2 : Int32) (kk : Int32 → Option (Int32)) : Nat → Int32 → Int32 → Int32 → Option (Int32) := fun fu => Nat.rec (motive := fun _ => Int32 → Int32 → Int32 → Option (Int32)) (fun _ _ _ => none) (fun _ ih => fun x3 x4 x5 => if 16 ≤ x5 then (kk x3) else (if x4 = (-9) then (kk x3) else (if x4 = x1 then (kk x3) else ((fX6_cell 160 16 10 (V.2.1) x4 1).bind fun r7 => nm (jmax r7 x3) fun v8 => (fX7_period V x2).bind fun r9 => nm (v8 + r9) fun v10 => (fX7_nextBooked V x2 r7).bind fun r11 => nm (x5 + 1) fun v12 => ih v10 r11 v12)))) fu
theorem fX7_forecastStart_l31_s  (V : Vn) (x1 : Int32) (x2 : Int32) (kk : Int32 → Option (Int32)) (fu : Nat) (x3 : Int32) (x4 : Int32) (x5 : Int32) : fX7_forecastStart_l31 V x1 x2 kk (fu + 1) x3 x4 x5 = (if 16 ≤ x5 then (kk x3) else (if x4 = (-9) then (kk x3) else (if x4 = x1 then (kk x3) else ((fX6_cell 160 16 10 (V.2.1) x4 1).bind fun r7 => nm (jmax r7 x3) fun v8 => (fX7_period V x2).bind fun r9 => nm (v8 + r9) fun v10 => (fX7_nextBooked V x2 r7).bind fun r11 => nm (x5 + 1) fun v12 => (fX7_forecastStart_l31 V x1 x2 kk fu) v10 r11 v12)))) := rfl
theorem fX7_forecastStart_l31_z  (V : Vn) (x1 : Int32) (x2 : Int32) (kk : Int32 → Option (Int32)) (x3 : Int32) (x4 : Int32) (x5 : Int32) : fX7_forecastStart_l31 V x1 x2 kk 0 x3 x4 x5 = none := rfl
noncomputable def fX7_forecastStart  (V : Vn) (x1 : Int32) : Option (Int32) := (fX6_cell 160 16 10 (V.2.1) x1 0).bind fun r1 => (fX6_cell 44 4 11 (V.1) r1 4).bind fun r2 => (fX7_nextBooked V r1 (-1)).bind fun r3 => fX7_forecastStart_l31 V x1 r1 (fun y13 => (fX6_cell 160 16 10 (V.2.1) x1 1).bind fun r14 => nm (jmax r14 y13) fun v15 => some v15) FU r2 r3 0
abbrev vX7_forecastStart : List Cond := Cond.code yX7_forecastStart cX7_forecastStart 7 (some .int) :: BIG
theorem gX7_forecastStart {own : String} {idx : Nat} (h : (Cond.methodLink own idx yX7_forecastStart) ∈ BIG) : GoodIn BIG (wsV own idx RX7 yX7_forecastStart vX7_forecastStart) := gdV h bw2_178 bw2_179 bw1_3 bw2_180
def rmX7_forecastStart : Room := { frames := 2, cells := 0, slots := 0, locals := 51 }
theorem hdX7_forecastStart : yX7_forecastStart.cls = RX7 ∧ yX7_forecastStart.cls ≠ "java/lang/invoke/MethodHandle" ∧ yX7_forecastStart.cls ≠ "java/lang/invoke/VarHandle" ∧ (parseMethodDescriptor yX7_forecastStart.desc).map (fun d => d.parameters.length) = some 1 := by decide +kernel
set_option maxHeartbeats 4000000 in
set_option maxRecDepth 100000 in
theorem kX7_forecastStart (l : Launch) (D : va_G) (cS : ClassId) (g : Nat → Nat) (cI : ClassId) (a : Nat → Nat) (V : Vn) (x1 : Int32) (r : Int32) (hF : fX7_forecastStart V x1 = some r) : mI l yX7_forecastStart vX7_forecastStart rmX7_forecastStart D cI cS g [.ref (a 0), .int x1] (wVn cI a V) r (wVn cI a V) := by
  refine st_I rfl (by decide) (Nat.le_of_ble_eq_true rfl) ?_
  intro p e s m args below meth c A ls hx hb hr hml hlocks hown hts hA hK hD0 hG hP hS hl
  have hown : s.vm.findClass RX7 = some m.cls := hown
  have hDa : ∀ V, va_D A (wVn cI a V) := fun V => hD0.adr rfl
  have htb : ∀ w ∈ BIG, w.before args s = true := fun w h => hts w (List.mem_cons_of_mem _ h)
  have hl : lv_has ls 7 [(0, .ref (a 0)), (1, .int x1)] := hl
  have l31 : ∀ (x1 : Int32) (x2 : Int32) (kk : Int32 → Option (Int32)) (fu : Nat) (x3 : Int32) (x4 : Int32) (x5 : Int32) (H : Heap) (locs : List Loc) (ls : Array Slot), fX7_forecastStart_l31 V x1 x2 kk fu x3 x4 x5 = some r → va_P D vwCl (wVn cI a V) H → va_S A s.heap H locs → lv_has ls 7 [(0, .ref (a 0)), (1, .int x1), (2, .int x2), (3, .int x3), (4, .int x4), (5, .int x5)] → (∀ (x3 : Int32) (H : Heap) (locs : List Loc) (ls : Array Slot), kk x3 = some r → va_P D vwCl (wVn cI a V) H → va_S A s.heap H locs → lv_has ls 7 [(0, .ref (a 0)), (1, .int x1), (3, .int x3)] → W p l e rmX7_forecastStart s m args below meth c H locs 0 0 (MQ below (qI D r (wVn cI a V) A) args s 0 0 A) (F0 m 91 ls [])) → W p l e rmX7_forecastStart s m args below meth c H locs 0 0 (MQ below (qI D r (wVn cI a V) A) args s 0 0 A) (F0 m 31 ls []) := by
    intro x1 x2 kk fu
    induction fu with
    | zero => intro x3 x4 x5 H locs ls hF; exact nn_use hF
    | succ fu ihn =>
      intro x3 x4 x5 H locs ls hF hP hS hl after
      rw [fX7_forecastStart_l31_s] at hF
      refine lv_iload hx hb dX7_forecastStart_31 (lv_at hl 5 rfl) ?_
      refine lv_bipush (v := 16) hx hb dX7_forecastStart_33 (by decide) ?_
      refine lv_icmp_ge (tgt := 91) hx hb dX7_forecastStart_35 (by decide) (fun c4 => ?_) (fun c4 => ?_)
      · have hF := it_t hF c4
        exact after x3 _ _ _ hF hP hS (lv_sub hl [0, 1, 3] rfl)
      · have hF := it_f hF c4
        refine lv_iload hx hb dX7_forecastStart_38 (lv_at hl 4 rfl) ?_
        refine lv_bipush (v := (-9)) hx hb dX7_forecastStart_40 (by decide) ?_
        refine lv_icmp_eq (tgt := 91) hx hb dX7_forecastStart_42 (by decide) (fun c5 => ?_) (fun c5 => ?_)
        · have hF := it_t hF c5
          exact after x3 _ _ _ hF hP hS (lv_sub hl [0, 1, 3] rfl)
        · have hF := it_f hF c5
          refine lv_iload hx hb dX7_forecastStart_45 (lv_at hl 4 rfl) ?_
          refine lv_iload_n hx hb dX7_forecastStart_47 rfl (lv_at hl 1 rfl) ?_
          refine lv_icmp_eq (tgt := 91) hx hb dX7_forecastStart_48 (by decide) (fun c6 => ?_) (fun c6 => ?_)
          · have hF := it_t hF c6
            exact after x3 _ _ _ hF hP hS (lv_sub hl [0, 1, 3] rfl)
          · have hF := it_f hF c6
            refine lv_aload_n hx hb dX7_forecastStart_51 rfl (lv_at hl 0 rfl) ?_
            refine va_get (ci := 7) (v := .ref (a 3)) (C := RX7) (T := TX7) (N := 6) hx hb htb kin7 hown hK hP 0 (pVn_0 cI a V) rfl 1 (by decide) (htb _ bw1_76) (fun _ h9 => h9) rfl dX7_forecastStart_52 ?_
            refine lv_iload hx hb dX7_forecastStart_55 (lv_at hl 4 rfl) ?_
            refine lv_iconst (v := 1) hx hb dX7_forecastStart_57 (by decide) ?_
            obtain ⟨r7, hr7, hF⟩ := bd_use hF
            refine cl_VI ⟨hx, hb, hml, hown, htb⟩ (kX6_cell l D cS g cI (a 3) (a 4) 160 16 10 (V.2.1) x4 1 _ hr7) (cwV 2 htb (gX6_cell bw1_235) rfl rfl rfl hdX6_cell ⟨Nat.le_of_ble_eq_true rfl, Nat.le_of_ble_eq_true rfl⟩) hK (hDa _) hG hA hP hS (sr_Vn_bookings cI a V) hl.1 rfl 0 (pTb_0 _ _ _ _ _ _ _) rfl rfl (Nat.le_of_ble_eq_true rfl) dX7_forecastStart_58 (fun H locs hP hS => ?_)
            refine lv_istore (lv' := [(6, .int r7), (0, .ref (a 0)), (1, .int x1), (2, .int x2), (3, .int x3), (4, .int x4), (5, .int x5)]) hx hb dX7_forecastStart_61 hl (by decide) rfl (fun ls hl => ?_)
            refine lv_iload hx hb dX7_forecastStart_63 (lv_at hl 0 rfl) ?_
            refine lv_iload_n hx hb dX7_forecastStart_65 rfl (lv_at hl 4 rfl) ?_
            refine va_mmax hx hb (hml.trans hl.1.symm) hown (htb _ bw2_124) (htb _ bw1_39) (htb _ bw1_5) (htb _ bw1_40) (Nat.le_of_ble_eq_true rfl) (Nat.le_of_ble_eq_true rfl) (Nat.zero_le _) (Nat.zero_le _) dX7_forecastStart_66 ?_
            refine lv_topi (fun v8 ev8 => ?_)
            have hF := nm_use hF ev8
            refine lv_aload_n hx hb dX7_forecastStart_69 rfl (lv_at hl 1 rfl) ?_
            refine lv_iload_n hx hb dX7_forecastStart_70 rfl (lv_at hl 3 rfl) ?_
            obtain ⟨r9, hr9, hF⟩ := bd_use hF
            refine cl_VI ⟨hx, hb, hml, hown, htb⟩ (kX7_period l D cS g cI a V x2 _ hr9) (cwV 1 htb (gX7_period bw2_129) rfl rfl rfl hdX7_period ⟨Nat.le_of_ble_eq_true rfl, Nat.le_of_ble_eq_true rfl⟩) hK (hDa _) hG hA hP hS (sr_Vn_Vn cI a V) hl.1 rfl 0 (pVn_0 _ _ _) rfl rfl (Nat.le_of_ble_eq_true rfl) dX7_forecastStart_71 (fun H locs hP hS => ?_)
            refine lv_iadd hx hb dX7_forecastStart_74 ?_
            refine lv_topi (fun v10 ev10 => ?_)
            have hF := nm_use hF ev10
            refine lv_istore_n (lv' := [(3, .int v10), (6, .int r7), (0, .ref (a 0)), (1, .int x1), (2, .int x2), (4, .int x4), (5, .int x5)]) hx hb dX7_forecastStart_75 rfl hl (by decide) rfl (fun ls hl => ?_)
            refine lv_aload_n hx hb dX7_forecastStart_76 rfl (lv_at hl 2 rfl) ?_
            refine lv_iload_n hx hb dX7_forecastStart_77 rfl (lv_at hl 4 rfl) ?_
            refine lv_iload hx hb dX7_forecastStart_78 (lv_at hl 1 rfl) ?_
            obtain ⟨r11, hr11, hF⟩ := bd_use hF
            refine cl_VI ⟨hx, hb, hml, hown, htb⟩ (kX7_nextBooked l D cS g cI a V x2 r7 _ hr11) (cwV 2 htb (gX7_nextBooked bw2_181) rfl rfl rfl hdX7_nextBooked ⟨Nat.le_of_ble_eq_true rfl, Nat.le_of_ble_eq_true rfl⟩) hK (hDa _) hG hA hP hS (sr_Vn_Vn cI a V) hl.1 rfl 0 (pVn_0 _ _ _) rfl rfl (Nat.le_of_ble_eq_true rfl) dX7_forecastStart_80 (fun H locs hP hS => ?_)
            refine lv_istore (lv' := [(4, .int r11), (3, .int v10), (6, .int r7), (0, .ref (a 0)), (1, .int x1), (2, .int x2), (5, .int x5)]) hx hb dX7_forecastStart_83 hl (by decide) rfl (fun ls hl => ?_)
            obtain ⟨v12, ev12⟩ : ∃ z : Int32, z = x5 + 1 := ⟨_, rfl⟩
            refine lv_iinc (v := v12) (lv' := [(5, .int v12), (4, .int r11), (3, .int v10), (6, .int r7), (0, .ref (a 0)), (1, .int x1), (2, .int x2)]) hx hb dX7_forecastStart_85 hl (k := 6) rfl (by rw [ev12]; rfl) (by decide) rfl (fun ls hl => ?_)
            have hF := nm_use hF ev12
            refine lv_goto (tgt := 31) hx hb dX7_forecastStart_88 (by decide) ?_
            exact ihn v10 r11 v12 _ _ _ hF hP hS (lv_sub hl [4, 5, 6, 2, 1, 0] rfl) after
  refine lv_aload_n hx hb dX7_forecastStart_0 rfl (lv_at hl 0 rfl) ?_
  refine va_get (ci := 7) (v := .ref (a 3)) (C := RX7) (T := TX7) (N := 6) hx hb htb kin7 hown hK hP 0 (pVn_0 cI a V) rfl 1 (by decide) (htb _ bw1_76) (fun _ h9 => h9) rfl dX7_forecastStart_1 ?_
  refine lv_iload_n hx hb dX7_forecastStart_4 rfl (lv_at hl 1 rfl) ?_
  refine lv_iconst (v := 0) hx hb dX7_forecastStart_5 (by decide) ?_
  obtain ⟨r1, hr1, hF⟩ := bd_use hF
  refine cl_VI ⟨hx, hb, hml, hown, htb⟩ (kX6_cell l D cS g cI (a 3) (a 4) 160 16 10 (V.2.1) x1 0 _ hr1) (cwV 2 htb (gX6_cell bw1_235) rfl rfl rfl hdX6_cell ⟨Nat.le_of_ble_eq_true rfl, Nat.le_of_ble_eq_true rfl⟩) hK (hDa _) hG hA hP hS (sr_Vn_bookings cI a V) hl.1 rfl 0 (pTb_0 _ _ _ _ _ _ _) rfl rfl (Nat.le_of_ble_eq_true rfl) dX7_forecastStart_6 (fun H locs hP hS => ?_)
  refine lv_istore_n (lv' := [(2, .int r1), (0, .ref (a 0)), (1, .int x1)]) hx hb dX7_forecastStart_9 rfl hl (by decide) rfl (fun ls hl => ?_)
  refine lv_aload_n hx hb dX7_forecastStart_10 rfl (lv_at hl 1 rfl) ?_
  refine va_get (ci := 7) (v := .ref (a 1)) (C := RX7) (T := TX7) (N := 6) hx hb htb kin7 hown hK hP 0 (pVn_0 cI a V) rfl 0 (by decide) (htb _ bw1_72) (fun _ h9 => h9) rfl dX7_forecastStart_11 ?_
  refine lv_iload_n hx hb dX7_forecastStart_14 rfl (lv_at hl 0 rfl) ?_
  refine lv_iconst (v := 4) hx hb dX7_forecastStart_15 (by decide) ?_
  obtain ⟨r2, hr2, hF⟩ := bd_use hF
  refine cl_VI ⟨hx, hb, hml, hown, htb⟩ (kX6_cell l D cS g cI (a 1) (a 2) 44 4 11 (V.1) r1 4 _ hr2) (cwV 2 htb (gX6_cell bw1_235) rfl rfl rfl hdX6_cell ⟨Nat.le_of_ble_eq_true rfl, Nat.le_of_ble_eq_true rfl⟩) hK (hDa _) hG hA hP hS (sr_Vn_rooms cI a V) hl.1 rfl 0 (pTb_0 _ _ _ _ _ _ _) rfl rfl (Nat.le_of_ble_eq_true rfl) dX7_forecastStart_16 (fun H locs hP hS => ?_)
  refine lv_istore_n (lv' := [(3, .int r2), (2, .int r1), (0, .ref (a 0)), (1, .int x1)]) hx hb dX7_forecastStart_19 rfl hl (by decide) rfl (fun ls hl => ?_)
  refine lv_aload_n hx hb dX7_forecastStart_20 rfl (lv_at hl 2 rfl) ?_
  refine lv_iload_n hx hb dX7_forecastStart_21 rfl (lv_at hl 1 rfl) ?_
  refine lv_iconst (v := (-1)) hx hb dX7_forecastStart_22 (by decide) ?_
  obtain ⟨r3, hr3, hF⟩ := bd_use hF
  refine cl_VI ⟨hx, hb, hml, hown, htb⟩ (kX7_nextBooked l D cS g cI a V r1 (-1) _ hr3) (cwV 2 htb (gX7_nextBooked bw2_181) rfl rfl rfl hdX7_nextBooked ⟨Nat.le_of_ble_eq_true rfl, Nat.le_of_ble_eq_true rfl⟩) hK (hDa _) hG hA hP hS (sr_Vn_Vn cI a V) hl.1 rfl 0 (pVn_0 _ _ _) rfl rfl (Nat.le_of_ble_eq_true rfl) dX7_forecastStart_23 (fun H locs hP hS => ?_)
  refine lv_istore (lv' := [(4, .int r3), (3, .int r2), (2, .int r1), (0, .ref (a 0)), (1, .int x1)]) hx hb dX7_forecastStart_26 hl (by decide) rfl (fun ls hl => ?_)
  refine lv_iconst (v := 0) hx hb dX7_forecastStart_28 (by decide) ?_
  refine lv_istore (lv' := [(5, .int 0), (4, .int r3), (3, .int r2), (2, .int r1), (0, .ref (a 0)), (1, .int x1)]) hx hb dX7_forecastStart_29 hl (by decide) rfl (fun ls hl => ?_)
  refine l31 x1 r1 _ _ r2 r3 0 _ _ _ hF hP hS (lv_sub hl [4, 5, 3, 2, 1, 0] rfl) ?_
  · intro y13 H locs ls hF hP hS hl
    refine lv_aload_n hx hb dX7_forecastStart_91 rfl (lv_at hl 0 rfl) ?_
    refine va_get (ci := 7) (v := .ref (a 3)) (C := RX7) (T := TX7) (N := 6) hx hb htb kin7 hown hK hP 0 (pVn_0 cI a V) rfl 1 (by decide) (htb _ bw1_76) (fun _ h9 => h9) rfl dX7_forecastStart_92 ?_
    refine lv_iload_n hx hb dX7_forecastStart_95 rfl (lv_at hl 1 rfl) ?_
    refine lv_iconst (v := 1) hx hb dX7_forecastStart_96 (by decide) ?_
    obtain ⟨r14, hr14, hF⟩ := bd_use hF
    refine cl_VI ⟨hx, hb, hml, hown, htb⟩ (kX6_cell l D cS g cI (a 3) (a 4) 160 16 10 (V.2.1) x1 1 _ hr14) (cwV 2 htb (gX6_cell bw1_235) rfl rfl rfl hdX6_cell ⟨Nat.le_of_ble_eq_true rfl, Nat.le_of_ble_eq_true rfl⟩) hK (hDa _) hG hA hP hS (sr_Vn_bookings cI a V) hl.1 rfl 0 (pTb_0 _ _ _ _ _ _ _) rfl rfl (Nat.le_of_ble_eq_true rfl) dX7_forecastStart_97 (fun H locs hP hS => ?_)
    refine lv_iload_n hx hb dX7_forecastStart_100 rfl (lv_at hl 2 rfl) ?_
    refine va_mmax hx hb (hml.trans hl.1.symm) hown (htb _ bw2_124) (htb _ bw1_39) (htb _ bw1_5) (htb _ bw1_40) (Nat.le_of_ble_eq_true rfl) (Nat.le_of_ble_eq_true rfl) (Nat.zero_le _) (Nat.zero_le _) dX7_forecastStart_101 ?_
    refine lv_topi (fun v15 ev15 => ?_)
    have hF := nm_use hF ev15
    exact rt_I hx hb hr hlocks hS hP (so_use hF) dX7_forecastStart_104
noncomputable def fX7_refundForDelay  (V : Vn) (x1 : Int32) (x2 : Int32) : Option (Int32) := (fX7_setting V 3).bind fun r1 => nm (x2 - r1) fun v2 => if 0 < v2 then (Dv (v2 + 9) 10 fun v4 => (fX7_setting V 4).bind fun r5 => nm (jmin 100 (v4 * r5)) fun v6 => (fX6_cell 160 16 10 (V.2.1) x1 4).bind fun r7 => Dv (r7 * v6) 100 fun v8 => some v8) else (some 0)
abbrev vX7_refundForDelay : List Cond := Cond.code yX7_refundForDelay cX7_refundForDelay 5 (some .int) :: BIG
theorem gX7_refundForDelay {own : String} {idx : Nat} (h : (Cond.methodLink own idx yX7_refundForDelay) ∈ BIG) : GoodIn BIG (wsV own idx RX7 yX7_refundForDelay vX7_refundForDelay) := gdV h bw3_5 bw3_6 bw1_3 bw3_7
def rmX7_refundForDelay : Room := { frames := 2, cells := 0, slots := 0, locals := 45 }
theorem hdX7_refundForDelay : yX7_refundForDelay.cls = RX7 ∧ yX7_refundForDelay.cls ≠ "java/lang/invoke/MethodHandle" ∧ yX7_refundForDelay.cls ≠ "java/lang/invoke/VarHandle" ∧ (parseMethodDescriptor yX7_refundForDelay.desc).map (fun d => d.parameters.length) = some 2 := by decide +kernel
set_option maxHeartbeats 4000000 in
set_option maxRecDepth 100000 in
theorem kX7_refundForDelay (l : Launch) (D : va_G) (cS : ClassId) (g : Nat → Nat) (cI : ClassId) (a : Nat → Nat) (V : Vn) (x1 : Int32) (x2 : Int32) (r : Int32) (hF : fX7_refundForDelay V x1 x2 = some r) : mI l yX7_refundForDelay vX7_refundForDelay rmX7_refundForDelay D cI cS g [.ref (a 0), .int x1, .int x2] (wVn cI a V) r (wVn cI a V) := by
  refine st_I rfl (by decide) (Nat.le_of_ble_eq_true rfl) ?_
  intro p e s m args below meth c A ls hx hb hr hml hlocks hown hts hA hK hD0 hG hP hS hl
  have hown : s.vm.findClass RX7 = some m.cls := hown
  have hDa : ∀ V, va_D A (wVn cI a V) := fun V => hD0.adr rfl
  have htb : ∀ w ∈ BIG, w.before args s = true := fun w h => hts w (List.mem_cons_of_mem _ h)
  have hl : lv_has ls 5 [(0, .ref (a 0)), (1, .int x1), (2, .int x2)] := hl
  refine lv_iload_n hx hb dX7_refundForDelay_0 rfl (lv_at hl 2 rfl) ?_
  refine lv_aload_n hx hb dX7_refundForDelay_1 rfl (lv_at hl 0 rfl) ?_
  refine lv_iconst (v := 3) hx hb dX7_refundForDelay_2 (by decide) ?_
  obtain ⟨r1, hr1, hF⟩ := bd_use hF
  refine cl_VI ⟨hx, hb, hml, hown, htb⟩ (kX7_setting l D cS g cI a V 3 _ hr1) (cwV 1 htb (gX7_setting bw3_8) rfl rfl rfl hdX7_setting ⟨Nat.le_of_ble_eq_true rfl, Nat.le_of_ble_eq_true rfl⟩) hK (hDa _) hG hA hP hS (sr_Vn_Vn cI a V) hl.1 rfl 0 (pVn_0 _ _ _) rfl rfl (Nat.le_of_ble_eq_true rfl) dX7_refundForDelay_3 (fun H locs hP hS => ?_)
  refine lv_isub hx hb dX7_refundForDelay_6 ?_
  refine lv_topi (fun v2 ev2 => ?_)
  have hF := nm_use hF ev2
  refine lv_istore_n (lv' := [(3, .int v2), (0, .ref (a 0)), (1, .int x1), (2, .int x2)]) hx hb dX7_refundForDelay_7 rfl hl (by decide) rfl (fun ls hl => ?_)
  refine lv_iload_n hx hb dX7_refundForDelay_8 rfl (lv_at hl 0 rfl) ?_
  refine lv_if_gt (tgt := 14) hx hb dX7_refundForDelay_9 (by decide) (fun c3 => ?_) (fun c3 => ?_)
  · have hF := it_t hF c3
    refine lv_bipush (v := 100) hx hb dX7_refundForDelay_14 (by decide) ?_
    refine lv_iload_n hx hb dX7_refundForDelay_16 rfl (lv_at hl 0 rfl) ?_
    refine lv_bipush (v := 9) hx hb dX7_refundForDelay_17 (by decide) ?_
    refine lv_iadd hx hb dX7_refundForDelay_19 ?_
    refine lv_bipush (v := 10) hx hb dX7_refundForDelay_20 (by decide) ?_
    obtain ⟨hd, hF⟩ := dv_use hF
    refine lv_idiv hx hb dX7_refundForDelay_22 hd ?_
    refine lv_topi (fun v4 ev4 => ?_)
    have hF := hF v4 ev4
    refine lv_aload_n hx hb dX7_refundForDelay_23 rfl (lv_at hl 1 rfl) ?_
    refine lv_iconst (v := 4) hx hb dX7_refundForDelay_24 (by decide) ?_
    obtain ⟨r5, hr5, hF⟩ := bd_use hF
    refine cl_VI ⟨hx, hb, hml, hown, htb⟩ (kX7_setting l D cS g cI a V 4 _ hr5) (cwV 1 htb (gX7_setting bw3_8) rfl rfl rfl hdX7_setting ⟨Nat.le_of_ble_eq_true rfl, Nat.le_of_ble_eq_true rfl⟩) hK (hDa _) hG hA hP hS (sr_Vn_Vn cI a V) hl.1 rfl 0 (pVn_0 _ _ _) rfl rfl (Nat.le_of_ble_eq_true rfl) dX7_refundForDelay_25 (fun H locs hP hS => ?_)
    refine lv_imul hx hb dX7_refundForDelay_28 ?_
    refine va_mmin hx hb (hml.trans hl.1.symm) hown (htb _ bw3_9) (htb _ bw2_66) (htb _ bw1_5) (htb _ bw2_67) (Nat.le_of_ble_eq_true rfl) (Nat.le_of_ble_eq_true rfl) (Nat.zero_le _) (Nat.zero_le _) dX7_refundForDelay_29 ?_
    refine lv_topi (fun v6 ev6 => ?_)
    have hF := nm_use hF ev6
    refine lv_istore (lv' := [(4, .int v6), (3, .int v2), (0, .ref (a 0)), (1, .int x1), (2, .int x2)]) hx hb dX7_refundForDelay_32 hl (by decide) rfl (fun ls hl => ?_)
    refine lv_aload_n hx hb dX7_refundForDelay_34 rfl (lv_at hl 2 rfl) ?_
    refine va_get (ci := 7) (v := .ref (a 3)) (C := RX7) (T := TX7) (N := 6) hx hb htb kin7 hown hK hP 0 (pVn_0 cI a V) rfl 1 (by decide) (htb _ bw1_76) (fun _ h9 => h9) rfl dX7_refundForDelay_35 ?_
    refine lv_iload_n hx hb dX7_refundForDelay_38 rfl (lv_at hl 3 rfl) ?_
    refine lv_iconst (v := 4) hx hb dX7_refundForDelay_39 (by decide) ?_
    obtain ⟨r7, hr7, hF⟩ := bd_use hF
    refine cl_VI ⟨hx, hb, hml, hown, htb⟩ (kX6_cell l D cS g cI (a 3) (a 4) 160 16 10 (V.2.1) x1 4 _ hr7) (cwV 2 htb (gX6_cell bw1_235) rfl rfl rfl hdX6_cell ⟨Nat.le_of_ble_eq_true rfl, Nat.le_of_ble_eq_true rfl⟩) hK (hDa _) hG hA hP hS (sr_Vn_bookings cI a V) hl.1 rfl 0 (pTb_0 _ _ _ _ _ _ _) rfl rfl (Nat.le_of_ble_eq_true rfl) dX7_refundForDelay_40 (fun H locs hP hS => ?_)
    refine lv_iload hx hb dX7_refundForDelay_43 (lv_at hl 0 rfl) ?_
    refine lv_imul hx hb dX7_refundForDelay_45 ?_
    refine lv_bipush (v := 100) hx hb dX7_refundForDelay_46 (by decide) ?_
    obtain ⟨hd, hF⟩ := dv_use hF
    refine lv_idiv hx hb dX7_refundForDelay_48 hd ?_
    refine lv_topi (fun v8 ev8 => ?_)
    have hF := hF v8 ev8
    exact rt_I hx hb hr hlocks hS hP (so_use hF) dX7_refundForDelay_49
  · have hF := it_f hF c3
    refine lv_iconst (v := 0) hx hb dX7_refundForDelay_12 (by decide) ?_
    exact rt_I hx hb hr hlocks hS hP (so_use hF) dX7_refundForDelay_13
noncomputable def fX7_paidByVouchers_j40  (x1 : Int32) (ih : Int32 → Int32 → Option (Int32)) (V : Vn) (x2 : Int32) (x3 : Int32) : Option (Int32) := nm (x3 + 1) fun v5 => ih x2 v5
noncomputable def fX7_paidByVouchers_l4  (V : Vn) (x1 : Int32) : Nat → Int32 → Int32 → Option (Int32) := fun fu => Nat.rec (motive := fun _ => Int32 → Int32 → Option (Int32)) (fun _ _ => none) (fun _ ih => fun x2 x3 => (fX6_size 64 16 4 (V.2.2.2.1)).bind fun r1 => if r1 ≤ x3 then (some x2) else ((fX6_cell 64 16 4 (V.2.2.2.1) x3 0).bind fun r3 => if r3 = x1 then ((fX6_cell 64 16 4 (V.2.2.2.1) x3 2).bind fun r6 => nm (x2 + r6) fun v7 => fX7_paidByVouchers_j40 x1 ih V v7 x3) else (fX7_paidByVouchers_j40 x1 ih V x2 x3))) fu
theorem fX7_paidByVouchers_l4_s  (V : Vn) (x1 : Int32) (fu : Nat) (x2 : Int32) (x3 : Int32) : fX7_paidByVouchers_l4 V x1 (fu + 1) x2 x3 = ((fX6_size 64 16 4 (V.2.2.2.1)).bind fun r1 => if r1 ≤ x3 then (some x2) else ((fX6_cell 64 16 4 (V.2.2.2.1) x3 0).bind fun r3 => if r3 = x1 then ((fX6_cell 64 16 4 (V.2.2.2.1) x3 2).bind fun r6 => nm (x2 + r6) fun v7 => fX7_paidByVouchers_j40 x1 (fX7_paidByVouchers_l4 V x1 fu) V v7 x3) else (fX7_paidByVouchers_j40 x1 (fX7_paidByVouchers_l4 V x1 fu) V x2 x3))) := rfl
theorem fX7_paidByVouchers_l4_z  (V : Vn) (x1 : Int32) (x2 : Int32) (x3 : Int32) : fX7_paidByVouchers_l4 V x1 0 x2 x3 = none := rfl
noncomputable def fX7_paidByVouchers  (V : Vn) (x1 : Int32) : Option (Int32) := fX7_paidByVouchers_l4 V x1 FU 0 0
abbrev vX7_paidByVouchers : List Cond := Cond.code yX7_paidByVouchers cX7_paidByVouchers 4 (some .int) :: BIG
theorem gX7_paidByVouchers {own : String} {idx : Nat} (h : (Cond.methodLink own idx yX7_paidByVouchers) ∈ BIG) : GoodIn BIG (wsV own idx RX7 yX7_paidByVouchers vX7_paidByVouchers) := gdV h bw2_186 bw2_187 bw1_3 bw2_188
def rmX7_paidByVouchers : Room := { frames := 1, cells := 0, slots := 0, locals := 24 }
theorem hdX7_paidByVouchers : yX7_paidByVouchers.cls = RX7 ∧ yX7_paidByVouchers.cls ≠ "java/lang/invoke/MethodHandle" ∧ yX7_paidByVouchers.cls ≠ "java/lang/invoke/VarHandle" ∧ (parseMethodDescriptor yX7_paidByVouchers.desc).map (fun d => d.parameters.length) = some 1 := by decide +kernel
set_option maxHeartbeats 4000000 in
set_option maxRecDepth 100000 in
theorem kX7_paidByVouchers (l : Launch) (D : va_G) (cS : ClassId) (g : Nat → Nat) (cI : ClassId) (a : Nat → Nat) (V : Vn) (x1 : Int32) (r : Int32) (hF : fX7_paidByVouchers V x1 = some r) : mI l yX7_paidByVouchers vX7_paidByVouchers rmX7_paidByVouchers D cI cS g [.ref (a 0), .int x1] (wVn cI a V) r (wVn cI a V) := by
  refine st_I rfl (by decide) (Nat.le_of_ble_eq_true rfl) ?_
  intro p e s m args below meth c A ls hx hb hr hml hlocks hown hts hA hK hD0 hG hP hS hl
  have hown : s.vm.findClass RX7 = some m.cls := hown
  have hDa : ∀ V, va_D A (wVn cI a V) := fun V => hD0.adr rfl
  have htb : ∀ w ∈ BIG, w.before args s = true := fun w h => hts w (List.mem_cons_of_mem _ h)
  have hl : lv_has ls 4 [(0, .ref (a 0)), (1, .int x1)] := hl
  have l4 : ∀ (x1 : Int32) (fu : Nat) (x2 : Int32) (x3 : Int32) (H : Heap) (locs : List Loc) (ls : Array Slot), fX7_paidByVouchers_l4 V x1 fu x2 x3 = some r → va_P D vwCl (wVn cI a V) H → va_S A s.heap H locs → lv_has ls 4 [(0, .ref (a 0)), (1, .int x1), (2, .int x2), (3, .int x3)] → W p l e rmX7_paidByVouchers s m args below meth c H locs 0 0 (MQ below (qI D r (wVn cI a V) A) args s 0 0 A) (F0 m 4 ls []) := by
    intro x1  fu
    induction fu with
    | zero => intro x2 x3 H locs ls hF; exact nn_use hF
    | succ fu ihn =>
      intro x2 x3 H locs ls hF hP hS hl 
      rw [fX7_paidByVouchers_l4_s] at hF
      have j40 : ∀ (x2 : Int32) (x3 : Int32) (H : Heap) (locs : List Loc) (ls : Array Slot), fX7_paidByVouchers_j40 x1  (fX7_paidByVouchers_l4 V x1 fu) V x2 x3 = some r → va_P D vwCl (wVn cI a V) H → va_S A s.heap H locs → lv_has ls 4 [(0, .ref (a 0)), (1, .int x1), (2, .int x2), (3, .int x3)] → W p l e rmX7_paidByVouchers s m args below meth c H locs 0 0 (MQ below (qI D r (wVn cI a V) A) args s 0 0 A) (F0 m 40 ls []) := by
        intro x2 x3 H locs ls hF hP hS hl
        obtain ⟨v5, ev5⟩ : ∃ z : Int32, z = x3 + 1 := ⟨_, rfl⟩
        refine lv_iinc (v := v5) (lv' := [(3, .int v5), (0, .ref (a 0)), (1, .int x1), (2, .int x2)]) hx hb dX7_paidByVouchers_40 hl (k := 3) rfl (by rw [ev5]; rfl) (by decide) rfl (fun ls hl => ?_)
        have hF := nm_use hF ev5
        refine lv_goto (tgt := 4) hx hb dX7_paidByVouchers_43 (by decide) ?_
        exact ihn x2 v5 _ _ _ hF hP hS (lv_sub hl [1, 2, 3, 0] rfl)
      refine lv_iload_n hx hb dX7_paidByVouchers_4 rfl (lv_at hl 3 rfl) ?_
      refine lv_aload_n hx hb dX7_paidByVouchers_5 rfl (lv_at hl 0 rfl) ?_
      refine va_get (ci := 7) (v := .ref (a 7)) (C := RX7) (T := TX7) (N := 6) hx hb htb kin7 hown hK hP 0 (pVn_0 cI a V) rfl 3 (by decide) (htb _ bw1_82) (fun _ h9 => h9) rfl dX7_paidByVouchers_6 ?_
      obtain ⟨r1, hr1, hF⟩ := bd_use hF
      refine cl_VI ⟨hx, hb, hml, hown, htb⟩ (kX6_size l D cS g cI (a 7) (a 8) 64 16 4 (V.2.2.2.1)  _ hr1) (cwV 0 htb (gX6_size bw2_3) rfl rfl rfl hdX6_size ⟨Nat.le_of_ble_eq_true rfl, Nat.le_of_ble_eq_true rfl⟩) hK (hDa _) hG hA hP hS (sr_Vn_payments cI a V) hl.1 rfl 0 (pTb_0 _ _ _ _ _ _ _) rfl rfl (Nat.le_of_ble_eq_true rfl) dX7_paidByVouchers_9 (fun H locs hP hS => ?_)
      refine lv_icmp_ge (tgt := 46) hx hb dX7_paidByVouchers_12 (by decide) (fun c2 => ?_) (fun c2 => ?_)
      · have hF := it_t hF c2
        refine lv_iload_n hx hb dX7_paidByVouchers_46 rfl (lv_at hl 2 rfl) ?_
        exact rt_I hx hb hr hlocks hS hP (so_use hF) dX7_paidByVouchers_47
      · have hF := it_f hF c2
        refine lv_aload_n hx hb dX7_paidByVouchers_15 rfl (lv_at hl 0 rfl) ?_
        refine va_get (ci := 7) (v := .ref (a 7)) (C := RX7) (T := TX7) (N := 6) hx hb htb kin7 hown hK hP 0 (pVn_0 cI a V) rfl 3 (by decide) (htb _ bw1_82) (fun _ h9 => h9) rfl dX7_paidByVouchers_16 ?_
        refine lv_iload_n hx hb dX7_paidByVouchers_19 rfl (lv_at hl 3 rfl) ?_
        refine lv_iconst (v := 0) hx hb dX7_paidByVouchers_20 (by decide) ?_
        obtain ⟨r3, hr3, hF⟩ := bd_use hF
        refine cl_VI ⟨hx, hb, hml, hown, htb⟩ (kX6_cell l D cS g cI (a 7) (a 8) 64 16 4 (V.2.2.2.1) x3 0 _ hr3) (cwV 2 htb (gX6_cell bw1_235) rfl rfl rfl hdX6_cell ⟨Nat.le_of_ble_eq_true rfl, Nat.le_of_ble_eq_true rfl⟩) hK (hDa _) hG hA hP hS (sr_Vn_payments cI a V) hl.1 rfl 0 (pTb_0 _ _ _ _ _ _ _) rfl rfl (Nat.le_of_ble_eq_true rfl) dX7_paidByVouchers_21 (fun H locs hP hS => ?_)
        refine lv_iload_n hx hb dX7_paidByVouchers_24 rfl (lv_at hl 1 rfl) ?_
        refine lv_icmp_ne (tgt := 40) hx hb dX7_paidByVouchers_25 (by decide) (fun c4 => ?_) (fun c4 => ?_)
        · have hF := it_f hF c4
          exact j40 x2 x3 _ _ _ hF hP hS (lv_sub hl [0, 1, 2, 3] rfl)
        · have hF := it_t hF c4
          refine lv_iload_n hx hb dX7_paidByVouchers_28 rfl (lv_at hl 2 rfl) ?_
          refine lv_aload_n hx hb dX7_paidByVouchers_29 rfl (lv_at hl 0 rfl) ?_
          refine va_get (ci := 7) (v := .ref (a 7)) (C := RX7) (T := TX7) (N := 6) hx hb htb kin7 hown hK hP 0 (pVn_0 cI a V) rfl 3 (by decide) (htb _ bw1_82) (fun _ h9 => h9) rfl dX7_paidByVouchers_30 ?_
          refine lv_iload_n hx hb dX7_paidByVouchers_33 rfl (lv_at hl 3 rfl) ?_
          refine lv_iconst (v := 2) hx hb dX7_paidByVouchers_34 (by decide) ?_
          obtain ⟨r6, hr6, hF⟩ := bd_use hF
          refine cl_VI ⟨hx, hb, hml, hown, htb⟩ (kX6_cell l D cS g cI (a 7) (a 8) 64 16 4 (V.2.2.2.1) x3 2 _ hr6) (cwV 2 htb (gX6_cell bw1_235) rfl rfl rfl hdX6_cell ⟨Nat.le_of_ble_eq_true rfl, Nat.le_of_ble_eq_true rfl⟩) hK (hDa _) hG hA hP hS (sr_Vn_payments cI a V) hl.1 rfl 0 (pTb_0 _ _ _ _ _ _ _) rfl rfl (Nat.le_of_ble_eq_true rfl) dX7_paidByVouchers_35 (fun H locs hP hS => ?_)
          refine lv_iadd hx hb dX7_paidByVouchers_38 ?_
          refine lv_topi (fun v7 ev7 => ?_)
          have hF := nm_use hF ev7
          refine lv_istore_n (lv' := [(2, .int v7), (0, .ref (a 0)), (1, .int x1), (3, .int x3)]) hx hb dX7_paidByVouchers_39 rfl hl (by decide) rfl (fun ls hl => ?_)
          exact j40 v7 x3 _ _ _ hF hP hS (lv_sub hl [1, 2, 0, 3] rfl)
  refine lv_iconst (v := 0) hx hb dX7_paidByVouchers_0 (by decide) ?_
  refine lv_istore_n (lv' := [(2, .int 0), (0, .ref (a 0)), (1, .int x1)]) hx hb dX7_paidByVouchers_1 rfl hl (by decide) rfl (fun ls hl => ?_)
  refine lv_iconst (v := 0) hx hb dX7_paidByVouchers_2 (by decide) ?_
  refine lv_istore_n (lv' := [(3, .int 0), (2, .int 0), (0, .ref (a 0)), (1, .int x1)]) hx hb dX7_paidByVouchers_3 rfl hl (by decide) rfl (fun ls hl => ?_)
  refine l4 x1  _ 0 0 _ _ _ hF hP hS (lv_sub hl [2, 3, 1, 0] rfl)
noncomputable def fX7_paymentsLeft_j43  (x1 : Int32) (ih : Int32 → Int32 → Option (Int32)) (V : Vn) (x2 : Int32) (x3 : Int32) : Option (Int32) := nm (x3 + 1) fun v5 => ih x2 v5
noncomputable def fX7_paymentsLeft_l4  (V : Vn) (x1 : Int32) : Nat → Int32 → Int32 → Option (Int32) := fun fu => Nat.rec (motive := fun _ => Int32 → Int32 → Option (Int32)) (fun _ _ => none) (fun _ ih => fun x2 x3 => (fX6_size 64 16 4 (V.2.2.2.1)).bind fun r1 => if r1 ≤ x3 then (some x2) else ((fX6_cell 64 16 4 (V.2.2.2.1) x3 0).bind fun r3 => if r3 = x1 then ((fX6_cell 64 16 4 (V.2.2.2.1) x3 2).bind fun r6 => if r6 ≤ 0 then (fX7_paymentsLeft_j43 x1 ih V x2 x3) else (nm (x2 + 1) fun v8 => fX7_paymentsLeft_j43 x1 ih V v8 x3)) else (fX7_paymentsLeft_j43 x1 ih V x2 x3))) fu
theorem fX7_paymentsLeft_l4_s  (V : Vn) (x1 : Int32) (fu : Nat) (x2 : Int32) (x3 : Int32) : fX7_paymentsLeft_l4 V x1 (fu + 1) x2 x3 = ((fX6_size 64 16 4 (V.2.2.2.1)).bind fun r1 => if r1 ≤ x3 then (some x2) else ((fX6_cell 64 16 4 (V.2.2.2.1) x3 0).bind fun r3 => if r3 = x1 then ((fX6_cell 64 16 4 (V.2.2.2.1) x3 2).bind fun r6 => if r6 ≤ 0 then (fX7_paymentsLeft_j43 x1 (fX7_paymentsLeft_l4 V x1 fu) V x2 x3) else (nm (x2 + 1) fun v8 => fX7_paymentsLeft_j43 x1 (fX7_paymentsLeft_l4 V x1 fu) V v8 x3)) else (fX7_paymentsLeft_j43 x1 (fX7_paymentsLeft_l4 V x1 fu) V x2 x3))) := rfl
theorem fX7_paymentsLeft_l4_z  (V : Vn) (x1 : Int32) (x2 : Int32) (x3 : Int32) : fX7_paymentsLeft_l4 V x1 0 x2 x3 = none := rfl
noncomputable def fX7_paymentsLeft  (V : Vn) (x1 : Int32) : Option (Int32) := fX7_paymentsLeft_l4 V x1 FU 0 0
abbrev vX7_paymentsLeft : List Cond := Cond.code yX7_paymentsLeft cX7_paymentsLeft 4 (some .int) :: BIG
theorem gX7_paymentsLeft {own : String} {idx : Nat} (h : (Cond.methodLink own idx yX7_paymentsLeft) ∈ BIG) : GoodIn BIG (wsV own idx RX7 yX7_paymentsLeft vX7_paymentsLeft) := gdV h bw2_226 bw2_227 bw1_3 bw2_228
def rmX7_paymentsLeft : Room := { frames := 1, cells := 0, slots := 0, locals := 24 }
theorem hdX7_paymentsLeft : yX7_paymentsLeft.cls = RX7 ∧ yX7_paymentsLeft.cls ≠ "java/lang/invoke/MethodHandle" ∧ yX7_paymentsLeft.cls ≠ "java/lang/invoke/VarHandle" ∧ (parseMethodDescriptor yX7_paymentsLeft.desc).map (fun d => d.parameters.length) = some 1 := by decide +kernel
set_option maxHeartbeats 4000000 in
set_option maxRecDepth 100000 in
theorem kX7_paymentsLeft (l : Launch) (D : va_G) (cS : ClassId) (g : Nat → Nat) (cI : ClassId) (a : Nat → Nat) (V : Vn) (x1 : Int32) (r : Int32) (hF : fX7_paymentsLeft V x1 = some r) : mI l yX7_paymentsLeft vX7_paymentsLeft rmX7_paymentsLeft D cI cS g [.ref (a 0), .int x1] (wVn cI a V) r (wVn cI a V) := by
  refine st_I rfl (by decide) (Nat.le_of_ble_eq_true rfl) ?_
  intro p e s m args below meth c A ls hx hb hr hml hlocks hown hts hA hK hD0 hG hP hS hl
  have hown : s.vm.findClass RX7 = some m.cls := hown
  have hDa : ∀ V, va_D A (wVn cI a V) := fun V => hD0.adr rfl
  have htb : ∀ w ∈ BIG, w.before args s = true := fun w h => hts w (List.mem_cons_of_mem _ h)
  have hl : lv_has ls 4 [(0, .ref (a 0)), (1, .int x1)] := hl
  have l4 : ∀ (x1 : Int32) (fu : Nat) (x2 : Int32) (x3 : Int32) (H : Heap) (locs : List Loc) (ls : Array Slot), fX7_paymentsLeft_l4 V x1 fu x2 x3 = some r → va_P D vwCl (wVn cI a V) H → va_S A s.heap H locs → lv_has ls 4 [(0, .ref (a 0)), (1, .int x1), (2, .int x2), (3, .int x3)] → W p l e rmX7_paymentsLeft s m args below meth c H locs 0 0 (MQ below (qI D r (wVn cI a V) A) args s 0 0 A) (F0 m 4 ls []) := by
    intro x1  fu
    induction fu with
    | zero => intro x2 x3 H locs ls hF; exact nn_use hF
    | succ fu ihn =>
      intro x2 x3 H locs ls hF hP hS hl 
      rw [fX7_paymentsLeft_l4_s] at hF
      have j43 : ∀ (x2 : Int32) (x3 : Int32) (H : Heap) (locs : List Loc) (ls : Array Slot), fX7_paymentsLeft_j43 x1  (fX7_paymentsLeft_l4 V x1 fu) V x2 x3 = some r → va_P D vwCl (wVn cI a V) H → va_S A s.heap H locs → lv_has ls 4 [(0, .ref (a 0)), (1, .int x1), (2, .int x2), (3, .int x3)] → W p l e rmX7_paymentsLeft s m args below meth c H locs 0 0 (MQ below (qI D r (wVn cI a V) A) args s 0 0 A) (F0 m 43 ls []) := by
        intro x2 x3 H locs ls hF hP hS hl
        obtain ⟨v5, ev5⟩ : ∃ z : Int32, z = x3 + 1 := ⟨_, rfl⟩
        refine lv_iinc (v := v5) (lv' := [(3, .int v5), (0, .ref (a 0)), (1, .int x1), (2, .int x2)]) hx hb dX7_paymentsLeft_43 hl (k := 3) rfl (by rw [ev5]; rfl) (by decide) rfl (fun ls hl => ?_)
        have hF := nm_use hF ev5
        refine lv_goto (tgt := 4) hx hb dX7_paymentsLeft_46 (by decide) ?_
        exact ihn x2 v5 _ _ _ hF hP hS (lv_sub hl [1, 2, 3, 0] rfl)
      refine lv_iload_n hx hb dX7_paymentsLeft_4 rfl (lv_at hl 3 rfl) ?_
      refine lv_aload_n hx hb dX7_paymentsLeft_5 rfl (lv_at hl 0 rfl) ?_
      refine va_get (ci := 7) (v := .ref (a 7)) (C := RX7) (T := TX7) (N := 6) hx hb htb kin7 hown hK hP 0 (pVn_0 cI a V) rfl 3 (by decide) (htb _ bw1_82) (fun _ h9 => h9) rfl dX7_paymentsLeft_6 ?_
      obtain ⟨r1, hr1, hF⟩ := bd_use hF
      refine cl_VI ⟨hx, hb, hml, hown, htb⟩ (kX6_size l D cS g cI (a 7) (a 8) 64 16 4 (V.2.2.2.1)  _ hr1) (cwV 0 htb (gX6_size bw2_3) rfl rfl rfl hdX6_size ⟨Nat.le_of_ble_eq_true rfl, Nat.le_of_ble_eq_true rfl⟩) hK (hDa _) hG hA hP hS (sr_Vn_payments cI a V) hl.1 rfl 0 (pTb_0 _ _ _ _ _ _ _) rfl rfl (Nat.le_of_ble_eq_true rfl) dX7_paymentsLeft_9 (fun H locs hP hS => ?_)
      refine lv_icmp_ge (tgt := 49) hx hb dX7_paymentsLeft_12 (by decide) (fun c2 => ?_) (fun c2 => ?_)
      · have hF := it_t hF c2
        refine lv_iload_n hx hb dX7_paymentsLeft_49 rfl (lv_at hl 2 rfl) ?_
        exact rt_I hx hb hr hlocks hS hP (so_use hF) dX7_paymentsLeft_50
      · have hF := it_f hF c2
        refine lv_aload_n hx hb dX7_paymentsLeft_15 rfl (lv_at hl 0 rfl) ?_
        refine va_get (ci := 7) (v := .ref (a 7)) (C := RX7) (T := TX7) (N := 6) hx hb htb kin7 hown hK hP 0 (pVn_0 cI a V) rfl 3 (by decide) (htb _ bw1_82) (fun _ h9 => h9) rfl dX7_paymentsLeft_16 ?_
        refine lv_iload_n hx hb dX7_paymentsLeft_19 rfl (lv_at hl 3 rfl) ?_
        refine lv_iconst (v := 0) hx hb dX7_paymentsLeft_20 (by decide) ?_
        obtain ⟨r3, hr3, hF⟩ := bd_use hF
        refine cl_VI ⟨hx, hb, hml, hown, htb⟩ (kX6_cell l D cS g cI (a 7) (a 8) 64 16 4 (V.2.2.2.1) x3 0 _ hr3) (cwV 2 htb (gX6_cell bw1_235) rfl rfl rfl hdX6_cell ⟨Nat.le_of_ble_eq_true rfl, Nat.le_of_ble_eq_true rfl⟩) hK (hDa _) hG hA hP hS (sr_Vn_payments cI a V) hl.1 rfl 0 (pTb_0 _ _ _ _ _ _ _) rfl rfl (Nat.le_of_ble_eq_true rfl) dX7_paymentsLeft_21 (fun H locs hP hS => ?_)
        refine lv_iload_n hx hb dX7_paymentsLeft_24 rfl (lv_at hl 1 rfl) ?_
        refine lv_icmp_ne (tgt := 43) hx hb dX7_paymentsLeft_25 (by decide) (fun c4 => ?_) (fun c4 => ?_)
        · have hF := it_f hF c4
          exact j43 x2 x3 _ _ _ hF hP hS (lv_sub hl [0, 1, 2, 3] rfl)
        · have hF := it_t hF c4
          refine lv_aload_n hx hb dX7_paymentsLeft_28 rfl (lv_at hl 0 rfl) ?_
          refine va_get (ci := 7) (v := .ref (a 7)) (C := RX7) (T := TX7) (N := 6) hx hb htb kin7 hown hK hP 0 (pVn_0 cI a V) rfl 3 (by decide) (htb _ bw1_82) (fun _ h9 => h9) rfl dX7_paymentsLeft_29 ?_
          refine lv_iload_n hx hb dX7_paymentsLeft_32 rfl (lv_at hl 3 rfl) ?_
          refine lv_iconst (v := 2) hx hb dX7_paymentsLeft_33 (by decide) ?_
          obtain ⟨r6, hr6, hF⟩ := bd_use hF
          refine cl_VI ⟨hx, hb, hml, hown, htb⟩ (kX6_cell l D cS g cI (a 7) (a 8) 64 16 4 (V.2.2.2.1) x3 2 _ hr6) (cwV 2 htb (gX6_cell bw1_235) rfl rfl rfl hdX6_cell ⟨Nat.le_of_ble_eq_true rfl, Nat.le_of_ble_eq_true rfl⟩) hK (hDa _) hG hA hP hS (sr_Vn_payments cI a V) hl.1 rfl 0 (pTb_0 _ _ _ _ _ _ _) rfl rfl (Nat.le_of_ble_eq_true rfl) dX7_paymentsLeft_34 (fun H locs hP hS => ?_)
          refine lv_if_le (tgt := 43) hx hb dX7_paymentsLeft_37 (by decide) (fun c7 => ?_) (fun c7 => ?_)
          · have hF := it_t hF c7
            exact j43 x2 x3 _ _ _ hF hP hS (lv_sub hl [0, 1, 2, 3] rfl)
          · have hF := it_f hF c7
            obtain ⟨v8, ev8⟩ : ∃ z : Int32, z = x2 + 1 := ⟨_, rfl⟩
            refine lv_iinc (v := v8) (lv' := [(2, .int v8), (0, .ref (a 0)), (1, .int x1), (3, .int x3)]) hx hb dX7_paymentsLeft_40 hl (k := 2) rfl (by rw [ev8]; rfl) (by decide) rfl (fun ls hl => ?_)
            have hF := nm_use hF ev8
            exact j43 v8 x3 _ _ _ hF hP hS (lv_sub hl [1, 2, 0, 3] rfl)
  refine lv_iconst (v := 0) hx hb dX7_paymentsLeft_0 (by decide) ?_
  refine lv_istore_n (lv' := [(2, .int 0), (0, .ref (a 0)), (1, .int x1)]) hx hb dX7_paymentsLeft_1 rfl hl (by decide) rfl (fun ls hl => ?_)
  refine lv_iconst (v := 0) hx hb dX7_paymentsLeft_2 (by decide) ?_
  refine lv_istore_n (lv' := [(3, .int 0), (2, .int 0), (0, .ref (a 0)), (1, .int x1)]) hx hb dX7_paymentsLeft_3 rfl hl (by decide) rfl (fun ls hl => ?_)
  refine l4 x1  _ 0 0 _ _ _ hF hP hS (lv_sub hl [2, 3, 1, 0] rfl)
noncomputable def fX7_isPaidWith_j53  (x1 : Int32) (x2 : Int32) (ih : Int32 → Option (Int32)) (V : Vn) (x3 : Int32) : Option (Int32) := nm (x3 + 1) fun v5 => ih v5
noncomputable def fX7_isPaidWith_l2  (V : Vn) (x1 : Int32) (x2 : Int32) : Nat → Int32 → Option (Int32) := fun fu => Nat.rec (motive := fun _ => Int32 → Option (Int32)) (fun _ => none) (fun _ ih => fun x3 => (fX6_size 64 16 4 (V.2.2.2.1)).bind fun r1 => if r1 ≤ x3 then (Zb 0 (some 0)) else ((fX6_cell 64 16 4 (V.2.2.2.1) x3 0).bind fun r3 => if r3 = x1 then ((fX6_cell 64 16 4 (V.2.2.2.1) x3 1).bind fun r6 => if r6 = x2 then ((fX6_cell 64 16 4 (V.2.2.2.1) x3 2).bind fun r8 => if r8 ≤ 0 then (fX7_isPaidWith_j53 x1 x2 ih V x3) else (Zb 1 (some 1))) else (fX7_isPaidWith_j53 x1 x2 ih V x3)) else (fX7_isPaidWith_j53 x1 x2 ih V x3))) fu
theorem fX7_isPaidWith_l2_s  (V : Vn) (x1 : Int32) (x2 : Int32) (fu : Nat) (x3 : Int32) : fX7_isPaidWith_l2 V x1 x2 (fu + 1) x3 = ((fX6_size 64 16 4 (V.2.2.2.1)).bind fun r1 => if r1 ≤ x3 then (Zb 0 (some 0)) else ((fX6_cell 64 16 4 (V.2.2.2.1) x3 0).bind fun r3 => if r3 = x1 then ((fX6_cell 64 16 4 (V.2.2.2.1) x3 1).bind fun r6 => if r6 = x2 then ((fX6_cell 64 16 4 (V.2.2.2.1) x3 2).bind fun r8 => if r8 ≤ 0 then (fX7_isPaidWith_j53 x1 x2 (fX7_isPaidWith_l2 V x1 x2 fu) V x3) else (Zb 1 (some 1))) else (fX7_isPaidWith_j53 x1 x2 (fX7_isPaidWith_l2 V x1 x2 fu) V x3)) else (fX7_isPaidWith_j53 x1 x2 (fX7_isPaidWith_l2 V x1 x2 fu) V x3))) := rfl
theorem fX7_isPaidWith_l2_z  (V : Vn) (x1 : Int32) (x2 : Int32) (x3 : Int32) : fX7_isPaidWith_l2 V x1 x2 0 x3 = none := rfl
noncomputable def fX7_isPaidWith  (V : Vn) (x1 : Int32) (x2 : Int32) : Option (Int32) := fX7_isPaidWith_l2 V x1 x2 FU 0
abbrev vX7_isPaidWith : List Cond := Cond.code yX7_isPaidWith cX7_isPaidWith 4 (some .boolean) :: BIG
theorem gX7_isPaidWith {own : String} {idx : Nat} (h : (Cond.methodLink own idx yX7_isPaidWith) ∈ BIG) : GoodIn BIG (wsV own idx RX7 yX7_isPaidWith vX7_isPaidWith) := gdV h bw3_51 bs8 bw1_3 bw3_52
def rmX7_isPaidWith : Room := { frames := 1, cells := 0, slots := 0, locals := 24 }
theorem hdX7_isPaidWith : yX7_isPaidWith.cls = RX7 ∧ yX7_isPaidWith.cls ≠ "java/lang/invoke/MethodHandle" ∧ yX7_isPaidWith.cls ≠ "java/lang/invoke/VarHandle" ∧ (parseMethodDescriptor yX7_isPaidWith.desc).map (fun d => d.parameters.length) = some 2 := by decide +kernel
set_option maxHeartbeats 4000000 in
set_option maxRecDepth 100000 in
theorem kX7_isPaidWith (l : Launch) (D : va_G) (cS : ClassId) (g : Nat → Nat) (cI : ClassId) (a : Nat → Nat) (V : Vn) (x1 : Int32) (x2 : Int32) (r : Int32) (hF : fX7_isPaidWith V x1 x2 = some r) : mI l yX7_isPaidWith vX7_isPaidWith rmX7_isPaidWith D cI cS g [.ref (a 0), .int x1, .int x2] (wVn cI a V) r (wVn cI a V) := by
  refine st_I rfl (by decide) (Nat.le_of_ble_eq_true rfl) ?_
  intro p e s m args below meth c A ls hx hb hr hml hlocks hown hts hA hK hD0 hG hP hS hl
  have hown : s.vm.findClass RX7 = some m.cls := hown
  have hDa : ∀ V, va_D A (wVn cI a V) := fun V => hD0.adr rfl
  have htb : ∀ w ∈ BIG, w.before args s = true := fun w h => hts w (List.mem_cons_of_mem _ h)
  have hl : lv_has ls 4 [(0, .ref (a 0)), (1, .int x1), (2, .int x2)] := hl
  have l2 : ∀ (x1 : Int32) (x2 : Int32) (fu : Nat) (x3 : Int32) (H : Heap) (locs : List Loc) (ls : Array Slot), fX7_isPaidWith_l2 V x1 x2 fu x3 = some r → va_P D vwCl (wVn cI a V) H → va_S A s.heap H locs → lv_has ls 4 [(0, .ref (a 0)), (1, .int x1), (2, .int x2), (3, .int x3)] → W p l e rmX7_isPaidWith s m args below meth c H locs 0 0 (MQ below (qI D r (wVn cI a V) A) args s 0 0 A) (F0 m 2 ls []) := by
    intro x1 x2  fu
    induction fu with
    | zero => intro x3 H locs ls hF; exact nn_use hF
    | succ fu ihn =>
      intro x3 H locs ls hF hP hS hl 
      rw [fX7_isPaidWith_l2_s] at hF
      have j53 : ∀ (x3 : Int32) (H : Heap) (locs : List Loc) (ls : Array Slot), fX7_isPaidWith_j53 x1 x2  (fX7_isPaidWith_l2 V x1 x2 fu) V x3 = some r → va_P D vwCl (wVn cI a V) H → va_S A s.heap H locs → lv_has ls 4 [(0, .ref (a 0)), (1, .int x1), (2, .int x2), (3, .int x3)] → W p l e rmX7_isPaidWith s m args below meth c H locs 0 0 (MQ below (qI D r (wVn cI a V) A) args s 0 0 A) (F0 m 53 ls []) := by
        intro x3 H locs ls hF hP hS hl
        obtain ⟨v5, ev5⟩ : ∃ z : Int32, z = x3 + 1 := ⟨_, rfl⟩
        refine lv_iinc (v := v5) (lv' := [(3, .int v5), (0, .ref (a 0)), (1, .int x1), (2, .int x2)]) hx hb dX7_isPaidWith_53 hl (k := 3) rfl (by rw [ev5]; rfl) (by decide) rfl (fun ls hl => ?_)
        have hF := nm_use hF ev5
        refine lv_goto (tgt := 2) hx hb dX7_isPaidWith_56 (by decide) ?_
        exact ihn v5 _ _ _ hF hP hS (lv_sub hl [1, 2, 3, 0] rfl)
      refine lv_iload_n hx hb dX7_isPaidWith_2 rfl (lv_at hl 3 rfl) ?_
      refine lv_aload_n hx hb dX7_isPaidWith_3 rfl (lv_at hl 0 rfl) ?_
      refine va_get (ci := 7) (v := .ref (a 7)) (C := RX7) (T := TX7) (N := 6) hx hb htb kin7 hown hK hP 0 (pVn_0 cI a V) rfl 3 (by decide) (htb _ bw1_82) (fun _ h9 => h9) rfl dX7_isPaidWith_4 ?_
      obtain ⟨r1, hr1, hF⟩ := bd_use hF
      refine cl_VI ⟨hx, hb, hml, hown, htb⟩ (kX6_size l D cS g cI (a 7) (a 8) 64 16 4 (V.2.2.2.1)  _ hr1) (cwV 0 htb (gX6_size bw2_3) rfl rfl rfl hdX6_size ⟨Nat.le_of_ble_eq_true rfl, Nat.le_of_ble_eq_true rfl⟩) hK (hDa _) hG hA hP hS (sr_Vn_payments cI a V) hl.1 rfl 0 (pTb_0 _ _ _ _ _ _ _) rfl rfl (Nat.le_of_ble_eq_true rfl) dX7_isPaidWith_7 (fun H locs hP hS => ?_)
      refine lv_icmp_ge (tgt := 59) hx hb dX7_isPaidWith_10 (by decide) (fun c2 => ?_) (fun c2 => ?_)
      · have hF := it_t hF c2
        refine lv_iconst (v := 0) hx hb dX7_isPaidWith_59 (by decide) ?_
        obtain ⟨hz, hF⟩ := zb_use hF
        exact rt_Z hx hb hr hlocks hS hP hz (so_use hF) dX7_isPaidWith_60
      · have hF := it_f hF c2
        refine lv_aload_n hx hb dX7_isPaidWith_13 rfl (lv_at hl 0 rfl) ?_
        refine va_get (ci := 7) (v := .ref (a 7)) (C := RX7) (T := TX7) (N := 6) hx hb htb kin7 hown hK hP 0 (pVn_0 cI a V) rfl 3 (by decide) (htb _ bw1_82) (fun _ h9 => h9) rfl dX7_isPaidWith_14 ?_
        refine lv_iload_n hx hb dX7_isPaidWith_17 rfl (lv_at hl 3 rfl) ?_
        refine lv_iconst (v := 0) hx hb dX7_isPaidWith_18 (by decide) ?_
        obtain ⟨r3, hr3, hF⟩ := bd_use hF
        refine cl_VI ⟨hx, hb, hml, hown, htb⟩ (kX6_cell l D cS g cI (a 7) (a 8) 64 16 4 (V.2.2.2.1) x3 0 _ hr3) (cwV 2 htb (gX6_cell bw1_235) rfl rfl rfl hdX6_cell ⟨Nat.le_of_ble_eq_true rfl, Nat.le_of_ble_eq_true rfl⟩) hK (hDa _) hG hA hP hS (sr_Vn_payments cI a V) hl.1 rfl 0 (pTb_0 _ _ _ _ _ _ _) rfl rfl (Nat.le_of_ble_eq_true rfl) dX7_isPaidWith_19 (fun H locs hP hS => ?_)
        refine lv_iload_n hx hb dX7_isPaidWith_22 rfl (lv_at hl 1 rfl) ?_
        refine lv_icmp_ne (tgt := 53) hx hb dX7_isPaidWith_23 (by decide) (fun c4 => ?_) (fun c4 => ?_)
        · have hF := it_f hF c4
          exact j53 x3 _ _ _ hF hP hS (lv_sub hl [0, 1, 2, 3] rfl)
        · have hF := it_t hF c4
          refine lv_aload_n hx hb dX7_isPaidWith_26 rfl (lv_at hl 0 rfl) ?_
          refine va_get (ci := 7) (v := .ref (a 7)) (C := RX7) (T := TX7) (N := 6) hx hb htb kin7 hown hK hP 0 (pVn_0 cI a V) rfl 3 (by decide) (htb _ bw1_82) (fun _ h9 => h9) rfl dX7_isPaidWith_27 ?_
          refine lv_iload_n hx hb dX7_isPaidWith_30 rfl (lv_at hl 3 rfl) ?_
          refine lv_iconst (v := 1) hx hb dX7_isPaidWith_31 (by decide) ?_
          obtain ⟨r6, hr6, hF⟩ := bd_use hF
          refine cl_VI ⟨hx, hb, hml, hown, htb⟩ (kX6_cell l D cS g cI (a 7) (a 8) 64 16 4 (V.2.2.2.1) x3 1 _ hr6) (cwV 2 htb (gX6_cell bw1_235) rfl rfl rfl hdX6_cell ⟨Nat.le_of_ble_eq_true rfl, Nat.le_of_ble_eq_true rfl⟩) hK (hDa _) hG hA hP hS (sr_Vn_payments cI a V) hl.1 rfl 0 (pTb_0 _ _ _ _ _ _ _) rfl rfl (Nat.le_of_ble_eq_true rfl) dX7_isPaidWith_32 (fun H locs hP hS => ?_)
          refine lv_iload_n hx hb dX7_isPaidWith_35 rfl (lv_at hl 2 rfl) ?_
          refine lv_icmp_ne (tgt := 53) hx hb dX7_isPaidWith_36 (by decide) (fun c7 => ?_) (fun c7 => ?_)
          · have hF := it_f hF c7
            exact j53 x3 _ _ _ hF hP hS (lv_sub hl [0, 1, 2, 3] rfl)
          · have hF := it_t hF c7
            refine lv_aload_n hx hb dX7_isPaidWith_39 rfl (lv_at hl 0 rfl) ?_
            refine va_get (ci := 7) (v := .ref (a 7)) (C := RX7) (T := TX7) (N := 6) hx hb htb kin7 hown hK hP 0 (pVn_0 cI a V) rfl 3 (by decide) (htb _ bw1_82) (fun _ h9 => h9) rfl dX7_isPaidWith_40 ?_
            refine lv_iload_n hx hb dX7_isPaidWith_43 rfl (lv_at hl 3 rfl) ?_
            refine lv_iconst (v := 2) hx hb dX7_isPaidWith_44 (by decide) ?_
            obtain ⟨r8, hr8, hF⟩ := bd_use hF
            refine cl_VI ⟨hx, hb, hml, hown, htb⟩ (kX6_cell l D cS g cI (a 7) (a 8) 64 16 4 (V.2.2.2.1) x3 2 _ hr8) (cwV 2 htb (gX6_cell bw1_235) rfl rfl rfl hdX6_cell ⟨Nat.le_of_ble_eq_true rfl, Nat.le_of_ble_eq_true rfl⟩) hK (hDa _) hG hA hP hS (sr_Vn_payments cI a V) hl.1 rfl 0 (pTb_0 _ _ _ _ _ _ _) rfl rfl (Nat.le_of_ble_eq_true rfl) dX7_isPaidWith_45 (fun H locs hP hS => ?_)
            refine lv_if_le (tgt := 53) hx hb dX7_isPaidWith_48 (by decide) (fun c9 => ?_) (fun c9 => ?_)
            · have hF := it_t hF c9
              exact j53 x3 _ _ _ hF hP hS (lv_sub hl [0, 1, 2, 3] rfl)
            · have hF := it_f hF c9
              refine lv_iconst (v := 1) hx hb dX7_isPaidWith_51 (by decide) ?_
              obtain ⟨hz, hF⟩ := zb_use hF
              exact rt_Z hx hb hr hlocks hS hP hz (so_use hF) dX7_isPaidWith_52
  refine lv_iconst (v := 0) hx hb dX7_isPaidWith_0 (by decide) ?_
  refine lv_istore_n (lv' := [(3, .int 0), (0, .ref (a 0)), (1, .int x1), (2, .int x2)]) hx hb dX7_isPaidWith_1 rfl hl (by decide) rfl (fun ls hl => ?_)
  refine l2 x1 x2  _ 0 _ _ _ hF hP hS (lv_sub hl [1, 2, 3, 0] rfl)
noncomputable def fX7_bookingsPaidWith_j27  (x1 : Int32) (ih : Int32 → Int32 → Option (Int32)) (V : Vn) (x2 : Int32) (x3 : Int32) : Option (Int32) := nm (x3 + 1) fun v5 => ih x2 v5
noncomputable def fX7_bookingsPaidWith_l4  (V : Vn) (x1 : Int32) : Nat → Int32 → Int32 → Option (Int32) := fun fu => Nat.rec (motive := fun _ => Int32 → Int32 → Option (Int32)) (fun _ _ => none) (fun _ ih => fun x2 x3 => (fX6_size 160 16 10 (V.2.1)).bind fun r1 => if r1 ≤ x3 then (some x2) else ((fX7_isPaidWith V x3 x1).bind fun r3 => if r3 = 0 then (fX7_bookingsPaidWith_j27 x1 ih V x2 x3) else (nm (x2 + 1) fun v6 => fX7_bookingsPaidWith_j27 x1 ih V v6 x3))) fu
theorem fX7_bookingsPaidWith_l4_s  (V : Vn) (x1 : Int32) (fu : Nat) (x2 : Int32) (x3 : Int32) : fX7_bookingsPaidWith_l4 V x1 (fu + 1) x2 x3 = ((fX6_size 160 16 10 (V.2.1)).bind fun r1 => if r1 ≤ x3 then (some x2) else ((fX7_isPaidWith V x3 x1).bind fun r3 => if r3 = 0 then (fX7_bookingsPaidWith_j27 x1 (fX7_bookingsPaidWith_l4 V x1 fu) V x2 x3) else (nm (x2 + 1) fun v6 => fX7_bookingsPaidWith_j27 x1 (fX7_bookingsPaidWith_l4 V x1 fu) V v6 x3))) := rfl
theorem fX7_bookingsPaidWith_l4_z  (V : Vn) (x1 : Int32) (x2 : Int32) (x3 : Int32) : fX7_bookingsPaidWith_l4 V x1 0 x2 x3 = none := rfl
noncomputable def fX7_bookingsPaidWith  (V : Vn) (x1 : Int32) : Option (Int32) := fX7_bookingsPaidWith_l4 V x1 FU 0 0
abbrev vX7_bookingsPaidWith : List Cond := Cond.code yX7_bookingsPaidWith cX7_bookingsPaidWith 4 (some .int) :: BIG
theorem gX7_bookingsPaidWith {own : String} {idx : Nat} (h : (Cond.methodLink own idx yX7_bookingsPaidWith) ∈ BIG) : GoodIn BIG (wsV own idx RX7 yX7_bookingsPaidWith vX7_bookingsPaidWith) := gdV h bw3_46 bw3_47 bw1_3 bw3_48
def rmX7_bookingsPaidWith : Room := { frames := 2, cells := 0, slots := 0, locals := 47 }
theorem hdX7_bookingsPaidWith : yX7_bookingsPaidWith.cls = RX7 ∧ yX7_bookingsPaidWith.cls ≠ "java/lang/invoke/MethodHandle" ∧ yX7_bookingsPaidWith.cls ≠ "java/lang/invoke/VarHandle" ∧ (parseMethodDescriptor yX7_bookingsPaidWith.desc).map (fun d => d.parameters.length) = some 1 := by decide +kernel
set_option maxHeartbeats 4000000 in
set_option maxRecDepth 100000 in
theorem kX7_bookingsPaidWith (l : Launch) (D : va_G) (cS : ClassId) (g : Nat → Nat) (cI : ClassId) (a : Nat → Nat) (V : Vn) (x1 : Int32) (r : Int32) (hF : fX7_bookingsPaidWith V x1 = some r) : mI l yX7_bookingsPaidWith vX7_bookingsPaidWith rmX7_bookingsPaidWith D cI cS g [.ref (a 0), .int x1] (wVn cI a V) r (wVn cI a V) := by
  refine st_I rfl (by decide) (Nat.le_of_ble_eq_true rfl) ?_
  intro p e s m args below meth c A ls hx hb hr hml hlocks hown hts hA hK hD0 hG hP hS hl
  have hown : s.vm.findClass RX7 = some m.cls := hown
  have hDa : ∀ V, va_D A (wVn cI a V) := fun V => hD0.adr rfl
  have htb : ∀ w ∈ BIG, w.before args s = true := fun w h => hts w (List.mem_cons_of_mem _ h)
  have hl : lv_has ls 4 [(0, .ref (a 0)), (1, .int x1)] := hl
  have l4 : ∀ (x1 : Int32) (fu : Nat) (x2 : Int32) (x3 : Int32) (H : Heap) (locs : List Loc) (ls : Array Slot), fX7_bookingsPaidWith_l4 V x1 fu x2 x3 = some r → va_P D vwCl (wVn cI a V) H → va_S A s.heap H locs → lv_has ls 4 [(0, .ref (a 0)), (1, .int x1), (2, .int x2), (3, .int x3)] → W p l e rmX7_bookingsPaidWith s m args below meth c H locs 0 0 (MQ below (qI D r (wVn cI a V) A) args s 0 0 A) (F0 m 4 ls []) := by
    intro x1  fu
    induction fu with
    | zero => intro x2 x3 H locs ls hF; exact nn_use hF
    | succ fu ihn =>
      intro x2 x3 H locs ls hF hP hS hl 
      rw [fX7_bookingsPaidWith_l4_s] at hF
      have j27 : ∀ (x2 : Int32) (x3 : Int32) (H : Heap) (locs : List Loc) (ls : Array Slot), fX7_bookingsPaidWith_j27 x1  (fX7_bookingsPaidWith_l4 V x1 fu) V x2 x3 = some r → va_P D vwCl (wVn cI a V) H → va_S A s.heap H locs → lv_has ls 4 [(0, .ref (a 0)), (1, .int x1), (2, .int x2), (3, .int x3)] → W p l e rmX7_bookingsPaidWith s m args below meth c H locs 0 0 (MQ below (qI D r (wVn cI a V) A) args s 0 0 A) (F0 m 27 ls []) := by
        intro x2 x3 H locs ls hF hP hS hl
        obtain ⟨v5, ev5⟩ : ∃ z : Int32, z = x3 + 1 := ⟨_, rfl⟩
        refine lv_iinc (v := v5) (lv' := [(3, .int v5), (0, .ref (a 0)), (1, .int x1), (2, .int x2)]) hx hb dX7_bookingsPaidWith_27 hl (k := 3) rfl (by rw [ev5]; rfl) (by decide) rfl (fun ls hl => ?_)
        have hF := nm_use hF ev5
        refine lv_goto (tgt := 4) hx hb dX7_bookingsPaidWith_30 (by decide) ?_
        exact ihn x2 v5 _ _ _ hF hP hS (lv_sub hl [1, 2, 3, 0] rfl)
      refine lv_iload_n hx hb dX7_bookingsPaidWith_4 rfl (lv_at hl 3 rfl) ?_
      refine lv_aload_n hx hb dX7_bookingsPaidWith_5 rfl (lv_at hl 0 rfl) ?_
      refine va_get (ci := 7) (v := .ref (a 3)) (C := RX7) (T := TX7) (N := 6) hx hb htb kin7 hown hK hP 0 (pVn_0 cI a V) rfl 1 (by decide) (htb _ bw1_76) (fun _ h9 => h9) rfl dX7_bookingsPaidWith_6 ?_
      obtain ⟨r1, hr1, hF⟩ := bd_use hF
      refine cl_VI ⟨hx, hb, hml, hown, htb⟩ (kX6_size l D cS g cI (a 3) (a 4) 160 16 10 (V.2.1)  _ hr1) (cwV 0 htb (gX6_size bw2_3) rfl rfl rfl hdX6_size ⟨Nat.le_of_ble_eq_true rfl, Nat.le_of_ble_eq_true rfl⟩) hK (hDa _) hG hA hP hS (sr_Vn_bookings cI a V) hl.1 rfl 0 (pTb_0 _ _ _ _ _ _ _) rfl rfl (Nat.le_of_ble_eq_true rfl) dX7_bookingsPaidWith_9 (fun H locs hP hS => ?_)
      refine lv_icmp_ge (tgt := 33) hx hb dX7_bookingsPaidWith_12 (by decide) (fun c2 => ?_) (fun c2 => ?_)
      · have hF := it_t hF c2
        refine lv_iload_n hx hb dX7_bookingsPaidWith_33 rfl (lv_at hl 2 rfl) ?_
        exact rt_I hx hb hr hlocks hS hP (so_use hF) dX7_bookingsPaidWith_34
      · have hF := it_f hF c2
        refine lv_aload_n hx hb dX7_bookingsPaidWith_15 rfl (lv_at hl 0 rfl) ?_
        refine lv_iload_n hx hb dX7_bookingsPaidWith_16 rfl (lv_at hl 3 rfl) ?_
        refine lv_iload_n hx hb dX7_bookingsPaidWith_17 rfl (lv_at hl 1 rfl) ?_
        obtain ⟨r3, hr3, hF⟩ := bd_use hF
        refine cl_VI ⟨hx, hb, hml, hown, htb⟩ (kX7_isPaidWith l D cS g cI a V x3 x1 _ hr3) (cwV 2 htb (gX7_isPaidWith bw3_49) rfl rfl rfl hdX7_isPaidWith ⟨Nat.le_of_ble_eq_true rfl, Nat.le_of_ble_eq_true rfl⟩) hK (hDa _) hG hA hP hS (sr_Vn_Vn cI a V) hl.1 rfl 0 (pVn_0 _ _ _) rfl rfl (Nat.le_of_ble_eq_true rfl) dX7_bookingsPaidWith_18 (fun H locs hP hS => ?_)
        refine lv_if_eq (tgt := 27) hx hb dX7_bookingsPaidWith_21 (by decide) (fun c4 => ?_) (fun c4 => ?_)
        · have hF := it_t hF c4
          exact j27 x2 x3 _ _ _ hF hP hS (lv_sub hl [0, 1, 2, 3] rfl)
        · have hF := it_f hF c4
          obtain ⟨v6, ev6⟩ : ∃ z : Int32, z = x2 + 1 := ⟨_, rfl⟩
          refine lv_iinc (v := v6) (lv' := [(2, .int v6), (0, .ref (a 0)), (1, .int x1), (3, .int x3)]) hx hb dX7_bookingsPaidWith_24 hl (k := 2) rfl (by rw [ev6]; rfl) (by decide) rfl (fun ls hl => ?_)
          have hF := nm_use hF ev6
          exact j27 v6 x3 _ _ _ hF hP hS (lv_sub hl [1, 2, 0, 3] rfl)
  refine lv_iconst (v := 0) hx hb dX7_bookingsPaidWith_0 (by decide) ?_
  refine lv_istore_n (lv' := [(2, .int 0), (0, .ref (a 0)), (1, .int x1)]) hx hb dX7_bookingsPaidWith_1 rfl hl (by decide) rfl (fun ls hl => ?_)
  refine lv_iconst (v := 0) hx hb dX7_bookingsPaidWith_2 (by decide) ?_
  refine lv_istore_n (lv' := [(3, .int 0), (2, .int 0), (0, .ref (a 0)), (1, .int x1)]) hx hb dX7_bookingsPaidWith_3 rfl hl (by decide) rfl (fun ls hl => ?_)
  refine l4 x1  _ 0 0 _ _ _ hF hP hS (lv_sub hl [2, 3, 1, 0] rfl)
noncomputable def fX7_paymentAt_j41  (x1 : Int32) (x2 : Int32) (ih : Int32 → Option (Int32)) (V : Vn) (x3 : Int32) : Option (Int32) := nm (x3 + 1) fun v5 => ih v5
noncomputable def fX7_paymentAt_l2  (V : Vn) (x1 : Int32) (x2 : Int32) : Nat → Int32 → Option (Int32) := fun fu => Nat.rec (motive := fun _ => Int32 → Option (Int32)) (fun _ => none) (fun _ ih => fun x3 => (fX6_size 64 16 4 (V.2.2.2.1)).bind fun r1 => if r1 ≤ x3 then (some (-9)) else ((fX6_cell 64 16 4 (V.2.2.2.1) x3 0).bind fun r3 => if r3 = x1 then ((fX6_cell 64 16 4 (V.2.2.2.1) x3 3).bind fun r6 => if r6 = x2 then (some x3) else (fX7_paymentAt_j41 x1 x2 ih V x3)) else (fX7_paymentAt_j41 x1 x2 ih V x3))) fu
theorem fX7_paymentAt_l2_s  (V : Vn) (x1 : Int32) (x2 : Int32) (fu : Nat) (x3 : Int32) : fX7_paymentAt_l2 V x1 x2 (fu + 1) x3 = ((fX6_size 64 16 4 (V.2.2.2.1)).bind fun r1 => if r1 ≤ x3 then (some (-9)) else ((fX6_cell 64 16 4 (V.2.2.2.1) x3 0).bind fun r3 => if r3 = x1 then ((fX6_cell 64 16 4 (V.2.2.2.1) x3 3).bind fun r6 => if r6 = x2 then (some x3) else (fX7_paymentAt_j41 x1 x2 (fX7_paymentAt_l2 V x1 x2 fu) V x3)) else (fX7_paymentAt_j41 x1 x2 (fX7_paymentAt_l2 V x1 x2 fu) V x3))) := rfl
theorem fX7_paymentAt_l2_z  (V : Vn) (x1 : Int32) (x2 : Int32) (x3 : Int32) : fX7_paymentAt_l2 V x1 x2 0 x3 = none := rfl
noncomputable def fX7_paymentAt  (V : Vn) (x1 : Int32) (x2 : Int32) : Option (Int32) := fX7_paymentAt_l2 V x1 x2 FU 0
abbrev vX7_paymentAt : List Cond := Cond.code yX7_paymentAt cX7_paymentAt 4 (some .int) :: BIG
theorem gX7_paymentAt {own : String} {idx : Nat} (h : (Cond.methodLink own idx yX7_paymentAt) ∈ BIG) : GoodIn BIG (wsV own idx RX7 yX7_paymentAt vX7_paymentAt) := gdV h bw2_194 bw2_195 bw1_3 bw2_196
def rmX7_paymentAt : Room := { frames := 1, cells := 0, slots := 0, locals := 24 }
theorem hdX7_paymentAt : yX7_paymentAt.cls = RX7 ∧ yX7_paymentAt.cls ≠ "java/lang/invoke/MethodHandle" ∧ yX7_paymentAt.cls ≠ "java/lang/invoke/VarHandle" ∧ (parseMethodDescriptor yX7_paymentAt.desc).map (fun d => d.parameters.length) = some 2 := by decide +kernel
set_option maxHeartbeats 4000000 in
set_option maxRecDepth 100000 in
theorem kX7_paymentAt (l : Launch) (D : va_G) (cS : ClassId) (g : Nat → Nat) (cI : ClassId) (a : Nat → Nat) (V : Vn) (x1 : Int32) (x2 : Int32) (r : Int32) (hF : fX7_paymentAt V x1 x2 = some r) : mI l yX7_paymentAt vX7_paymentAt rmX7_paymentAt D cI cS g [.ref (a 0), .int x1, .int x2] (wVn cI a V) r (wVn cI a V) := by
  refine st_I rfl (by decide) (Nat.le_of_ble_eq_true rfl) ?_
  intro p e s m args below meth c A ls hx hb hr hml hlocks hown hts hA hK hD0 hG hP hS hl
  have hown : s.vm.findClass RX7 = some m.cls := hown
  have hDa : ∀ V, va_D A (wVn cI a V) := fun V => hD0.adr rfl
  have htb : ∀ w ∈ BIG, w.before args s = true := fun w h => hts w (List.mem_cons_of_mem _ h)
  have hl : lv_has ls 4 [(0, .ref (a 0)), (1, .int x1), (2, .int x2)] := hl
  have l2 : ∀ (x1 : Int32) (x2 : Int32) (fu : Nat) (x3 : Int32) (H : Heap) (locs : List Loc) (ls : Array Slot), fX7_paymentAt_l2 V x1 x2 fu x3 = some r → va_P D vwCl (wVn cI a V) H → va_S A s.heap H locs → lv_has ls 4 [(0, .ref (a 0)), (1, .int x1), (2, .int x2), (3, .int x3)] → W p l e rmX7_paymentAt s m args below meth c H locs 0 0 (MQ below (qI D r (wVn cI a V) A) args s 0 0 A) (F0 m 2 ls []) := by
    intro x1 x2  fu
    induction fu with
    | zero => intro x3 H locs ls hF; exact nn_use hF
    | succ fu ihn =>
      intro x3 H locs ls hF hP hS hl 
      rw [fX7_paymentAt_l2_s] at hF
      have j41 : ∀ (x3 : Int32) (H : Heap) (locs : List Loc) (ls : Array Slot), fX7_paymentAt_j41 x1 x2  (fX7_paymentAt_l2 V x1 x2 fu) V x3 = some r → va_P D vwCl (wVn cI a V) H → va_S A s.heap H locs → lv_has ls 4 [(0, .ref (a 0)), (1, .int x1), (2, .int x2), (3, .int x3)] → W p l e rmX7_paymentAt s m args below meth c H locs 0 0 (MQ below (qI D r (wVn cI a V) A) args s 0 0 A) (F0 m 41 ls []) := by
        intro x3 H locs ls hF hP hS hl
        obtain ⟨v5, ev5⟩ : ∃ z : Int32, z = x3 + 1 := ⟨_, rfl⟩
        refine lv_iinc (v := v5) (lv' := [(3, .int v5), (0, .ref (a 0)), (1, .int x1), (2, .int x2)]) hx hb dX7_paymentAt_41 hl (k := 3) rfl (by rw [ev5]; rfl) (by decide) rfl (fun ls hl => ?_)
        have hF := nm_use hF ev5
        refine lv_goto (tgt := 2) hx hb dX7_paymentAt_44 (by decide) ?_
        exact ihn v5 _ _ _ hF hP hS (lv_sub hl [1, 2, 3, 0] rfl)
      refine lv_iload_n hx hb dX7_paymentAt_2 rfl (lv_at hl 3 rfl) ?_
      refine lv_aload_n hx hb dX7_paymentAt_3 rfl (lv_at hl 0 rfl) ?_
      refine va_get (ci := 7) (v := .ref (a 7)) (C := RX7) (T := TX7) (N := 6) hx hb htb kin7 hown hK hP 0 (pVn_0 cI a V) rfl 3 (by decide) (htb _ bw1_82) (fun _ h9 => h9) rfl dX7_paymentAt_4 ?_
      obtain ⟨r1, hr1, hF⟩ := bd_use hF
      refine cl_VI ⟨hx, hb, hml, hown, htb⟩ (kX6_size l D cS g cI (a 7) (a 8) 64 16 4 (V.2.2.2.1)  _ hr1) (cwV 0 htb (gX6_size bw2_3) rfl rfl rfl hdX6_size ⟨Nat.le_of_ble_eq_true rfl, Nat.le_of_ble_eq_true rfl⟩) hK (hDa _) hG hA hP hS (sr_Vn_payments cI a V) hl.1 rfl 0 (pTb_0 _ _ _ _ _ _ _) rfl rfl (Nat.le_of_ble_eq_true rfl) dX7_paymentAt_7 (fun H locs hP hS => ?_)
      refine lv_icmp_ge (tgt := 47) hx hb dX7_paymentAt_10 (by decide) (fun c2 => ?_) (fun c2 => ?_)
      · have hF := it_t hF c2
        refine lv_bipush (v := (-9)) hx hb dX7_paymentAt_47 (by decide) ?_
        exact rt_I hx hb hr hlocks hS hP (so_use hF) dX7_paymentAt_49
      · have hF := it_f hF c2
        refine lv_aload_n hx hb dX7_paymentAt_13 rfl (lv_at hl 0 rfl) ?_
        refine va_get (ci := 7) (v := .ref (a 7)) (C := RX7) (T := TX7) (N := 6) hx hb htb kin7 hown hK hP 0 (pVn_0 cI a V) rfl 3 (by decide) (htb _ bw1_82) (fun _ h9 => h9) rfl dX7_paymentAt_14 ?_
        refine lv_iload_n hx hb dX7_paymentAt_17 rfl (lv_at hl 3 rfl) ?_
        refine lv_iconst (v := 0) hx hb dX7_paymentAt_18 (by decide) ?_
        obtain ⟨r3, hr3, hF⟩ := bd_use hF
        refine cl_VI ⟨hx, hb, hml, hown, htb⟩ (kX6_cell l D cS g cI (a 7) (a 8) 64 16 4 (V.2.2.2.1) x3 0 _ hr3) (cwV 2 htb (gX6_cell bw1_235) rfl rfl rfl hdX6_cell ⟨Nat.le_of_ble_eq_true rfl, Nat.le_of_ble_eq_true rfl⟩) hK (hDa _) hG hA hP hS (sr_Vn_payments cI a V) hl.1 rfl 0 (pTb_0 _ _ _ _ _ _ _) rfl rfl (Nat.le_of_ble_eq_true rfl) dX7_paymentAt_19 (fun H locs hP hS => ?_)
        refine lv_iload_n hx hb dX7_paymentAt_22 rfl (lv_at hl 1 rfl) ?_
        refine lv_icmp_ne (tgt := 41) hx hb dX7_paymentAt_23 (by decide) (fun c4 => ?_) (fun c4 => ?_)
        · have hF := it_f hF c4
          exact j41 x3 _ _ _ hF hP hS (lv_sub hl [0, 1, 2, 3] rfl)
        · have hF := it_t hF c4
          refine lv_aload_n hx hb dX7_paymentAt_26 rfl (lv_at hl 0 rfl) ?_
          refine va_get (ci := 7) (v := .ref (a 7)) (C := RX7) (T := TX7) (N := 6) hx hb htb kin7 hown hK hP 0 (pVn_0 cI a V) rfl 3 (by decide) (htb _ bw1_82) (fun _ h9 => h9) rfl dX7_paymentAt_27 ?_
          refine lv_iload_n hx hb dX7_paymentAt_30 rfl (lv_at hl 3 rfl) ?_
          refine lv_iconst (v := 3) hx hb dX7_paymentAt_31 (by decide) ?_
          obtain ⟨r6, hr6, hF⟩ := bd_use hF
          refine cl_VI ⟨hx, hb, hml, hown, htb⟩ (kX6_cell l D cS g cI (a 7) (a 8) 64 16 4 (V.2.2.2.1) x3 3 _ hr6) (cwV 2 htb (gX6_cell bw1_235) rfl rfl rfl hdX6_cell ⟨Nat.le_of_ble_eq_true rfl, Nat.le_of_ble_eq_true rfl⟩) hK (hDa _) hG hA hP hS (sr_Vn_payments cI a V) hl.1 rfl 0 (pTb_0 _ _ _ _ _ _ _) rfl rfl (Nat.le_of_ble_eq_true rfl) dX7_paymentAt_32 (fun H locs hP hS => ?_)
          refine lv_iload_n hx hb dX7_paymentAt_35 rfl (lv_at hl 2 rfl) ?_
          refine lv_icmp_ne (tgt := 41) hx hb dX7_paymentAt_36 (by decide) (fun c7 => ?_) (fun c7 => ?_)
          · have hF := it_f hF c7
            exact j41 x3 _ _ _ hF hP hS (lv_sub hl [0, 1, 2, 3] rfl)
          · have hF := it_t hF c7
            refine lv_iload_n hx hb dX7_paymentAt_39 rfl (lv_at hl 3 rfl) ?_
            exact rt_I hx hb hr hlocks hS hP (so_use hF) dX7_paymentAt_40
  refine lv_iconst (v := 0) hx hb dX7_paymentAt_0 (by decide) ?_
  refine lv_istore_n (lv' := [(3, .int 0), (0, .ref (a 0)), (1, .int x1), (2, .int x2)]) hx hb dX7_paymentAt_1 rfl hl (by decide) rfl (fun ls hl => ?_)
  refine l2 x1 x2  _ 0 _ _ _ hF hP hS (lv_sub hl [1, 2, 3, 0] rfl)

noncomputable def fX2_partOfForecast  (V : Vn) (x1 : Int32) (x2 : Int32) : Option (Int32) := (fX6_has 160 16 10 (V.2.1) x1).bind fun r1 => if r1 = 0 then (some (-1)) else ((fX8_inRange x2 0 2).bind fun r3 => if r3 = 0 then (some (-1)) else ((fX7_isBooked V x1).bind fun r5 => if r5 = 0 then (some (-9)) else ((fX7_forecastStart V x1).bind fun r7 => (fX6_cell 160 16 10 (V.2.1) x1 1).bind fun r8 => nm (r7 - r8) fun v9 => if x2 = 0 then (some r7) else (if x2 = 1 then (some v9) else ((fX7_refundForDelay V x1 v9).bind fun r12 => some r12)))))
abbrev vX2_partOfForecast : List Cond := Cond.code yX2_partOfForecast cX2_partOfForecast 5 (some .int) :: BIG
theorem gX2_partOfForecast {own : String} {idx : Nat} (h : (Cond.methodLink own idx yX2_partOfForecast) ∈ BIG) : GoodIn BIG (wsV own idx RX2 yX2_partOfForecast vX2_partOfForecast) := gdV h bw3_194 bw3_195 bw1_8 bw3_196
def rmX2_partOfForecast : Room := { frames := 3, cells := 0, slots := 0, locals := 77 }
theorem hdX2_partOfForecast : yX2_partOfForecast.cls = RX2 ∧ yX2_partOfForecast.cls ≠ "java/lang/invoke/MethodHandle" ∧ yX2_partOfForecast.cls ≠ "java/lang/invoke/VarHandle" ∧ (parseMethodDescriptor yX2_partOfForecast.desc).map (fun d => d.parameters.length) = some 2 := by decide +kernel
set_option maxHeartbeats 4000000 in
set_option maxRecDepth 100000 in
theorem kX2_partOfForecast (l : Launch) (D : va_G) (cS : ClassId) (g : Nat → Nat) (cI : ClassId) (d : Nat) (a : Nat → Nat) (V : Vn) (x1 : Int32) (x2 : Int32) (r : Int32) (hF : fX2_partOfForecast V x1 x2 = some r) : mI l yX2_partOfForecast vX2_partOfForecast rmX2_partOfForecast D cI cS g [.ref d, .int x1, .int x2] (wOl cI d a V) r (wOl cI d a V) := by
  refine st_I rfl (by decide) (Nat.le_of_ble_eq_true rfl) ?_
  intro p e s m args below meth c A ls hx hb hr hml hlocks hown hts hA hK hD0 hG hP hS hl
  have hown : s.vm.findClass RX2 = some m.cls := hown
  have hDa : ∀ V, va_D A (wOl cI d a V) := fun V => hD0.adr rfl
  have htb : ∀ w ∈ BIG, w.before args s = true := fun w h => hts w (List.mem_cons_of_mem _ h)
  have hl : lv_has ls 5 [(0, .ref d), (1, .int x1), (2, .int x2)] := hl
  refine lv_aload_n hx hb dX2_partOfForecast_0 rfl (lv_at hl 0 rfl) ?_
  refine va_get (ci := 2) (v := .ref (a 3)) (C := RX2) (T := TX2) (N := 3) hx hb htb kin2 hown hK hP 0 (pOl_0 cI d a V) rfl 2 (by decide) (htb _ bw1_166) (fun _ h9 => h9) rfl dX2_partOfForecast_1 ?_
  refine lv_iload_n hx hb dX2_partOfForecast_4 rfl (lv_at hl 1 rfl) ?_
  obtain ⟨r1, hr1, hF⟩ := bd_use hF
  refine cl_VI ⟨hx, hb, hml, hown, htb⟩ (kX6_has l D cS g cI (a 3) (a 4) 160 16 10 (V.2.1) x1 _ hr1) (cwV 1 htb (gX6_has bw3_197) rfl rfl rfl hdX6_has ⟨Nat.le_of_ble_eq_true rfl, Nat.le_of_ble_eq_true rfl⟩) hK (hDa _) hG hA hP hS (sr_Ol_bookings cI d a V) hl.1 rfl 0 (pTb_0 _ _ _ _ _ _ _) rfl rfl (Nat.le_of_ble_eq_true rfl) dX2_partOfForecast_5 (fun H locs hP hS => ?_)
  refine lv_if_eq (tgt := 20) hx hb dX2_partOfForecast_8 (by decide) (fun c2 => ?_) (fun c2 => ?_)
  · have hF := it_t hF c2
    refine lv_iconst (v := (-1)) hx hb dX2_partOfForecast_20 (by decide) ?_
    exact rt_I hx hb hr hlocks hS hP (so_use hF) dX2_partOfForecast_21
  · have hF := it_f hF c2
    refine lv_iload_n hx hb dX2_partOfForecast_11 rfl (lv_at hl 2 rfl) ?_
    refine lv_iconst (v := 0) hx hb dX2_partOfForecast_12 (by decide) ?_
    refine lv_iconst (v := 2) hx hb dX2_partOfForecast_13 (by decide) ?_
    obtain ⟨r3, hr3, hF⟩ := bd_use hF
    refine cl_SNI ⟨hx, hb, hml, hown, htb⟩ (kX8_inRange l D cS g cI x2 0 2 _ hr3) ⟨va_cnB 3 htb gX8_inRange_n rfl rfl rfl hG.2.2.2.2.2.2.1.2.1 (htb _ bw1_1) hdX8_inRange ⟨Nat.le_of_ble_eq_true rfl, Nat.le_of_ble_eq_true rfl⟩, (htb _ bw2_34), trivial⟩ hK (hDa _) hG hA hP hS sg_nil hl.1 rfl rfl (Nat.le_of_ble_eq_true rfl) dX2_partOfForecast_14 (fun H locs hP hS => ?_)
    refine lv_if_ne (tgt := 22) hx hb dX2_partOfForecast_17 (by decide) (fun c4 => ?_) (fun c4 => ?_)
    · have hF := it_f hF c4
      refine lv_aload_n hx hb dX2_partOfForecast_22 rfl (lv_at hl 0 rfl) ?_
      refine va_get (ci := 2) (v := .ref (a 0)) (C := RX2) (T := TX2) (N := 3) hx hb htb kin2 hown hK hP 0 (pOl_0 cI d a V) rfl 0 (by decide) (htb _ bw1_164) (fun _ h9 => h9) rfl dX2_partOfForecast_23 ?_
      refine lv_iload_n hx hb dX2_partOfForecast_26 rfl (lv_at hl 1 rfl) ?_
      obtain ⟨r5, hr5, hF⟩ := bd_use hF
      refine cl_VI ⟨hx, hb, hml, hown, htb⟩ (kX7_isBooked l D cS g cI a V x1 _ hr5) (cwV 1 htb (gX7_isBooked bw3_199) rfl rfl rfl hdX7_isBooked ⟨Nat.le_of_ble_eq_true rfl, Nat.le_of_ble_eq_true rfl⟩) hK (hDa _) hG hA hP hS (sr_Ol_Vn cI d a V) hl.1 rfl 0 (pVn_0 _ _ _) rfl rfl (Nat.le_of_ble_eq_true rfl) dX2_partOfForecast_27 (fun H locs hP hS => ?_)
      refine lv_if_ne (tgt := 36) hx hb dX2_partOfForecast_30 (by decide) (fun c6 => ?_) (fun c6 => ?_)
      · have hF := it_f hF c6
        refine lv_aload_n hx hb dX2_partOfForecast_36 rfl (lv_at hl 0 rfl) ?_
        refine va_get (ci := 2) (v := .ref (a 0)) (C := RX2) (T := TX2) (N := 3) hx hb htb kin2 hown hK hP 0 (pOl_0 cI d a V) rfl 0 (by decide) (htb _ bw1_164) (fun _ h9 => h9) rfl dX2_partOfForecast_37 ?_
        refine lv_iload_n hx hb dX2_partOfForecast_40 rfl (lv_at hl 1 rfl) ?_
        obtain ⟨r7, hr7, hF⟩ := bd_use hF
        refine cl_VI ⟨hx, hb, hml, hown, htb⟩ (kX7_forecastStart l D cS g cI a V x1 _ hr7) (cwV 1 htb (gX7_forecastStart bw3_200) rfl rfl rfl hdX7_forecastStart ⟨Nat.le_of_ble_eq_true rfl, Nat.le_of_ble_eq_true rfl⟩) hK (hDa _) hG hA hP hS (sr_Ol_Vn cI d a V) hl.1 rfl 0 (pVn_0 _ _ _) rfl rfl (Nat.le_of_ble_eq_true rfl) dX2_partOfForecast_41 (fun H locs hP hS => ?_)
        refine lv_istore_n (lv' := [(3, .int r7), (0, .ref d), (1, .int x1), (2, .int x2)]) hx hb dX2_partOfForecast_44 rfl hl (by decide) rfl (fun ls hl => ?_)
        refine lv_iload_n hx hb dX2_partOfForecast_45 rfl (lv_at hl 0 rfl) ?_
        refine lv_aload_n hx hb dX2_partOfForecast_46 rfl (lv_at hl 1 rfl) ?_
        refine va_get (ci := 2) (v := .ref (a 3)) (C := RX2) (T := TX2) (N := 3) hx hb htb kin2 hown hK hP 0 (pOl_0 cI d a V) rfl 2 (by decide) (htb _ bw1_166) (fun _ h9 => h9) rfl dX2_partOfForecast_47 ?_
        refine lv_iload_n hx hb dX2_partOfForecast_50 rfl (lv_at hl 2 rfl) ?_
        refine lv_iconst (v := 1) hx hb dX2_partOfForecast_51 (by decide) ?_
        obtain ⟨r8, hr8, hF⟩ := bd_use hF
        refine cl_VI ⟨hx, hb, hml, hown, htb⟩ (kX6_cell l D cS g cI (a 3) (a 4) 160 16 10 (V.2.1) x1 1 _ hr8) (cwV 2 htb (gX6_cell bw3_201) rfl rfl rfl hdX6_cell ⟨Nat.le_of_ble_eq_true rfl, Nat.le_of_ble_eq_true rfl⟩) hK (hDa _) hG hA hP hS (sr_Ol_bookings cI d a V) hl.1 rfl 0 (pTb_0 _ _ _ _ _ _ _) rfl rfl (Nat.le_of_ble_eq_true rfl) dX2_partOfForecast_52 (fun H locs hP hS => ?_)
        refine lv_isub hx hb dX2_partOfForecast_55 ?_
        refine lv_topi (fun v9 ev9 => ?_)
        have hF := nm_use hF ev9
        refine lv_istore (lv' := [(4, .int v9), (3, .int r7), (0, .ref d), (1, .int x1), (2, .int x2)]) hx hb dX2_partOfForecast_56 hl (by decide) rfl (fun ls hl => ?_)
        refine lv_iload_n hx hb dX2_partOfForecast_58 rfl (lv_at hl 4 rfl) ?_
        by_cases c10 : x2 = 0
        · have hF := it_t hF c10
          refine lv_lookup (x := x2) (off := 25) (tgt := 84) hx hb dX2_partOfForecast_59 (by decide) (by rw [c10]; decide) (by decide) ?_
          refine lv_iload_n hx hb dX2_partOfForecast_84 rfl (lv_at hl 1 rfl) ?_
          exact rt_I hx hb hr hlocks hS hP (so_use hF) dX2_partOfForecast_85
        · have hF := it_f hF c10
          by_cases c11 : x2 = 1
          · have hF := it_t hF c11
            refine lv_lookup (x := x2) (off := 27) (tgt := 86) hx hb dX2_partOfForecast_59 (by decide) (by rw [c11]; decide) (by decide) ?_
            refine lv_iload hx hb dX2_partOfForecast_86 (lv_at hl 0 rfl) ?_
            exact rt_I hx hb hr hlocks hS hP (so_use hF) dX2_partOfForecast_88
          · have hF := it_f hF c11
            refine lv_lookup (x := x2) (off := 30) (tgt := 89) hx hb dX2_partOfForecast_59 (by decide) (sw_lk2 (by decide) (by decide) c10 c11) (by decide) ?_
            refine lv_aload_n hx hb dX2_partOfForecast_89 rfl (lv_at hl 2 rfl) ?_
            refine va_get (ci := 2) (v := .ref (a 0)) (C := RX2) (T := TX2) (N := 3) hx hb htb kin2 hown hK hP 0 (pOl_0 cI d a V) rfl 0 (by decide) (htb _ bw1_164) (fun _ h9 => h9) rfl dX2_partOfForecast_90 ?_
            refine lv_iload_n hx hb dX2_partOfForecast_93 rfl (lv_at hl 3 rfl) ?_
            refine lv_iload hx hb dX2_partOfForecast_94 (lv_at hl 0 rfl) ?_
            obtain ⟨r12, hr12, hF⟩ := bd_use hF
            refine cl_VI ⟨hx, hb, hml, hown, htb⟩ (kX7_refundForDelay l D cS g cI a V x1 v9 _ hr12) (cwV 2 htb (gX7_refundForDelay bw3_202) rfl rfl rfl hdX7_refundForDelay ⟨Nat.le_of_ble_eq_true rfl, Nat.le_of_ble_eq_true rfl⟩) hK (hDa _) hG hA hP hS (sr_Ol_Vn cI d a V) hl.1 rfl 0 (pVn_0 _ _ _) rfl rfl (Nat.le_of_ble_eq_true rfl) dX2_partOfForecast_96 (fun H locs hP hS => ?_)
            exact rt_I hx hb hr hlocks hS hP (so_use hF) dX2_partOfForecast_99
      · have hF := it_t hF c6
        refine lv_bipush (v := (-9)) hx hb dX2_partOfForecast_33 (by decide) ?_
        exact rt_I hx hb hr hlocks hS hP (so_use hF) dX2_partOfForecast_35
    · have hF := it_t hF c4
      refine lv_iconst (v := (-1)) hx hb dX2_partOfForecast_20 (by decide) ?_
      exact rt_I hx hb hr hlocks hS hP (so_use hF) dX2_partOfForecast_21
noncomputable def fX2_earliestTime_l53  (V : Vn) (x1 : Int32) (kk : Int32 → Option (Int32)) : Nat → Int32 → Int32 → Int32 → Option (Int32) := fun fu => Nat.rec (motive := fun _ => Int32 → Int32 → Int32 → Option (Int32)) (fun _ _ _ => none) (fun _ ih => fun x3 x4 x5 => if 16 ≤ x5 then (kk x3) else (if x4 = (-9) then (kk x3) else ((fX6_cell 160 16 10 (V.2.1) x4 1).bind fun r10 => (fX7_period V x1).bind fun r11 => nm (r10 + r11) fun v12 => (fX7_collision V x1 v12 (-9)).bind fun r13 => nm (x5 + 1) fun v14 => ih v12 r13 v14))) fu
theorem fX2_earliestTime_l53_s  (V : Vn) (x1 : Int32) (kk : Int32 → Option (Int32)) (fu : Nat) (x3 : Int32) (x4 : Int32) (x5 : Int32) : fX2_earliestTime_l53 V x1 kk (fu + 1) x3 x4 x5 = (if 16 ≤ x5 then (kk x3) else (if x4 = (-9) then (kk x3) else ((fX6_cell 160 16 10 (V.2.1) x4 1).bind fun r10 => (fX7_period V x1).bind fun r11 => nm (r10 + r11) fun v12 => (fX7_collision V x1 v12 (-9)).bind fun r13 => nm (x5 + 1) fun v14 => (fX2_earliestTime_l53 V x1 kk fu) v12 r13 v14))) := rfl
theorem fX2_earliestTime_l53_z  (V : Vn) (x1 : Int32) (kk : Int32 → Option (Int32)) (x3 : Int32) (x4 : Int32) (x5 : Int32) : fX2_earliestTime_l53 V x1 kk 0 x3 x4 x5 = none := rfl
noncomputable def fX2_earliestTime_j119  (V : Vn) (s0 : Int32) : Option (Int32) := some s0
noncomputable def fX2_earliestTime  (V : Vn) (x1 : Int32) (x2 : Int32) : Option (Int32) := (fX6_has 44 4 11 (V.1) x1).bind fun r1 => if r1 = 0 then (some (-1)) else ((fX8_inRange x2 0 720).bind fun r3 => if r3 = 0 then (some (-1)) else ((fX7_timeBehindPlays V x1).bind fun r5 => nm (jmax x2 r5) fun v6 => (fX7_collision V x1 v6 (-9)).bind fun r7 => fX2_earliestTime_l53 V x1 (fun y15 => if 720 < y15 then (fX2_earliestTime_j119 V (-9)) else (fX2_earliestTime_j119 V y15)) FU v6 r7 0))
abbrev vX2_earliestTime : List Cond := Cond.code yX2_earliestTime cX2_earliestTime 6 (some .int) :: BIG
theorem gX2_earliestTime {own : String} {idx : Nat} (h : (Cond.methodLink own idx yX2_earliestTime) ∈ BIG) : GoodIn BIG (wsV own idx RX2 yX2_earliestTime vX2_earliestTime) := gdV h bw3_208 bw3_209 bw1_8 bw3_210
def rmX2_earliestTime : Room := { frames := 3, cells := 0, slots := 0, locals := 72 }
theorem hdX2_earliestTime : yX2_earliestTime.cls = RX2 ∧ yX2_earliestTime.cls ≠ "java/lang/invoke/MethodHandle" ∧ yX2_earliestTime.cls ≠ "java/lang/invoke/VarHandle" ∧ (parseMethodDescriptor yX2_earliestTime.desc).map (fun d => d.parameters.length) = some 2 := by decide +kernel
set_option maxHeartbeats 4000000 in
set_option maxRecDepth 100000 in
theorem kX2_earliestTime (l : Launch) (D : va_G) (cS : ClassId) (g : Nat → Nat) (cI : ClassId) (d : Nat) (a : Nat → Nat) (V : Vn) (x1 : Int32) (x2 : Int32) (r : Int32) (hF : fX2_earliestTime V x1 x2 = some r) : mI l yX2_earliestTime vX2_earliestTime rmX2_earliestTime D cI cS g [.ref d, .int x1, .int x2] (wOl cI d a V) r (wOl cI d a V) := by
  refine st_I rfl (by decide) (Nat.le_of_ble_eq_true rfl) ?_
  intro p e s m args below meth c A ls hx hb hr hml hlocks hown hts hA hK hD0 hG hP hS hl
  have hown : s.vm.findClass RX2 = some m.cls := hown
  have hDa : ∀ V, va_D A (wOl cI d a V) := fun V => hD0.adr rfl
  have htb : ∀ w ∈ BIG, w.before args s = true := fun w h => hts w (List.mem_cons_of_mem _ h)
  have hl : lv_has ls 6 [(0, .ref d), (1, .int x1), (2, .int x2)] := hl
  have l53 : ∀ (x1 : Int32) (kk : Int32 → Option (Int32)) (fu : Nat) (x3 : Int32) (x4 : Int32) (x5 : Int32) (H : Heap) (locs : List Loc) (ls : Array Slot), fX2_earliestTime_l53 V x1 kk fu x3 x4 x5 = some r → va_P D vwCl (wOl cI d a V) H → va_S A s.heap H locs → lv_has ls 6 [(0, .ref d), (1, .int x1), (3, .int x3), (4, .int x4), (5, .int x5)] → (∀ (x3 : Int32) (H : Heap) (locs : List Loc) (ls : Array Slot), kk x3 = some r → va_P D vwCl (wOl cI d a V) H → va_S A s.heap H locs → lv_has ls 6 [(3, .int x3)] → W p l e rmX2_earliestTime s m args below meth c H locs 0 0 (MQ below (qI D r (wOl cI d a V) A) args s 0 0 A) (F0 m 106 ls [])) → W p l e rmX2_earliestTime s m args below meth c H locs 0 0 (MQ below (qI D r (wOl cI d a V) A) args s 0 0 A) (F0 m 53 ls []) := by
    intro x1 kk fu
    induction fu with
    | zero => intro x3 x4 x5 H locs ls hF; exact nn_use hF
    | succ fu ihn =>
      intro x3 x4 x5 H locs ls hF hP hS hl after
      rw [fX2_earliestTime_l53_s] at hF
      refine lv_iload hx hb dX2_earliestTime_53 (lv_at hl 4 rfl) ?_
      refine lv_bipush (v := 16) hx hb dX2_earliestTime_55 (by decide) ?_
      refine lv_icmp_ge (tgt := 106) hx hb dX2_earliestTime_57 (by decide) (fun c8 => ?_) (fun c8 => ?_)
      · have hF := it_t hF c8
        exact after x3 _ _ _ hF hP hS (lv_sub hl [2] rfl)
      · have hF := it_f hF c8
        refine lv_iload hx hb dX2_earliestTime_60 (lv_at hl 3 rfl) ?_
        refine lv_bipush (v := (-9)) hx hb dX2_earliestTime_62 (by decide) ?_
        refine lv_icmp_eq (tgt := 106) hx hb dX2_earliestTime_64 (by decide) (fun c9 => ?_) (fun c9 => ?_)
        · have hF := it_t hF c9
          exact after x3 _ _ _ hF hP hS (lv_sub hl [2] rfl)
        · have hF := it_f hF c9
          refine lv_aload_n hx hb dX2_earliestTime_67 rfl (lv_at hl 0 rfl) ?_
          refine va_get (ci := 2) (v := .ref (a 3)) (C := RX2) (T := TX2) (N := 3) hx hb htb kin2 hown hK hP 0 (pOl_0 cI d a V) rfl 2 (by decide) (htb _ bw1_166) (fun _ h9 => h9) rfl dX2_earliestTime_68 ?_
          refine lv_iload hx hb dX2_earliestTime_71 (lv_at hl 3 rfl) ?_
          refine lv_iconst (v := 1) hx hb dX2_earliestTime_73 (by decide) ?_
          obtain ⟨r10, hr10, hF⟩ := bd_use hF
          refine cl_VI ⟨hx, hb, hml, hown, htb⟩ (kX6_cell l D cS g cI (a 3) (a 4) 160 16 10 (V.2.1) x4 1 _ hr10) (cwV 2 htb (gX6_cell bw3_201) rfl rfl rfl hdX6_cell ⟨Nat.le_of_ble_eq_true rfl, Nat.le_of_ble_eq_true rfl⟩) hK (hDa _) hG hA hP hS (sr_Ol_bookings cI d a V) hl.1 rfl 0 (pTb_0 _ _ _ _ _ _ _) rfl rfl (Nat.le_of_ble_eq_true rfl) dX2_earliestTime_74 (fun H locs hP hS => ?_)
          refine lv_aload_n hx hb dX2_earliestTime_77 rfl (lv_at hl 0 rfl) ?_
          refine va_get (ci := 2) (v := .ref (a 0)) (C := RX2) (T := TX2) (N := 3) hx hb htb kin2 hown hK hP 0 (pOl_0 cI d a V) rfl 0 (by decide) (htb _ bw1_164) (fun _ h9 => h9) rfl dX2_earliestTime_78 ?_
          refine lv_iload_n hx hb dX2_earliestTime_81 rfl (lv_at hl 1 rfl) ?_
          obtain ⟨r11, hr11, hF⟩ := bd_use hF
          refine cl_VI ⟨hx, hb, hml, hown, htb⟩ (kX7_period l D cS g cI a V x1 _ hr11) (cwV 1 htb (gX7_period bw3_214) rfl rfl rfl hdX7_period ⟨Nat.le_of_ble_eq_true rfl, Nat.le_of_ble_eq_true rfl⟩) hK (hDa _) hG hA hP hS (sr_Ol_Vn cI d a V) hl.1 rfl 0 (pVn_0 _ _ _) rfl rfl (Nat.le_of_ble_eq_true rfl) dX2_earliestTime_82 (fun H locs hP hS => ?_)
          refine lv_iadd hx hb dX2_earliestTime_85 ?_
          refine lv_topi (fun v12 ev12 => ?_)
          have hF := nm_use hF ev12
          refine lv_istore_n (lv' := [(3, .int v12), (0, .ref d), (1, .int x1), (4, .int x4), (5, .int x5)]) hx hb dX2_earliestTime_86 rfl hl (by decide) rfl (fun ls hl => ?_)
          refine lv_aload_n hx hb dX2_earliestTime_87 rfl (lv_at hl 1 rfl) ?_
          refine va_get (ci := 2) (v := .ref (a 0)) (C := RX2) (T := TX2) (N := 3) hx hb htb kin2 hown hK hP 0 (pOl_0 cI d a V) rfl 0 (by decide) (htb _ bw1_164) (fun _ h9 => h9) rfl dX2_earliestTime_88 ?_
          refine lv_iload_n hx hb dX2_earliestTime_91 rfl (lv_at hl 2 rfl) ?_
          refine lv_iload_n hx hb dX2_earliestTime_92 rfl (lv_at hl 0 rfl) ?_
          refine lv_bipush (v := (-9)) hx hb dX2_earliestTime_93 (by decide) ?_
          obtain ⟨r13, hr13, hF⟩ := bd_use hF
          refine cl_VI ⟨hx, hb, hml, hown, htb⟩ (kX7_collision l D cS g cI a V x1 v12 (-9) _ hr13) (cwV 3 htb (gX7_collision bw3_213) rfl rfl rfl hdX7_collision ⟨Nat.le_of_ble_eq_true rfl, Nat.le_of_ble_eq_true rfl⟩) hK (hDa _) hG hA hP hS (sr_Ol_Vn cI d a V) hl.1 rfl 0 (pVn_0 _ _ _) rfl rfl (Nat.le_of_ble_eq_true rfl) dX2_earliestTime_95 (fun H locs hP hS => ?_)
          refine lv_istore (lv' := [(4, .int r13), (3, .int v12), (0, .ref d), (1, .int x1), (5, .int x5)]) hx hb dX2_earliestTime_98 hl (by decide) rfl (fun ls hl => ?_)
          obtain ⟨v14, ev14⟩ : ∃ z : Int32, z = x5 + 1 := ⟨_, rfl⟩
          refine lv_iinc (v := v14) (lv' := [(5, .int v14), (4, .int r13), (3, .int v12), (0, .ref d), (1, .int x1)]) hx hb dX2_earliestTime_100 hl (k := 4) rfl (by rw [ev14]; rfl) (by decide) rfl (fun ls hl => ?_)
          have hF := nm_use hF ev14
          refine lv_goto (tgt := 53) hx hb dX2_earliestTime_103 (by decide) ?_
          exact ihn v12 r13 v14 _ _ _ hF hP hS (lv_sub hl [3, 4, 2, 1, 0] rfl) after
  have j119 : ∀ (s0 : Int32) (H : Heap) (locs : List Loc) (ls : Array Slot), fX2_earliestTime_j119 V s0 = some r → va_P D vwCl (wOl cI d a V) H → va_S A s.heap H locs → lv_has ls 6 [] → W p l e rmX2_earliestTime s m args below meth c H locs 0 0 (MQ below (qI D r (wOl cI d a V) A) args s 0 0 A) (F0 m 119 ls [.int s0]) := by
    intro s0 H locs ls hF hP hS hl
    exact rt_I hx hb hr hlocks hS hP (so_use hF) dX2_earliestTime_119
  refine lv_aload_n hx hb dX2_earliestTime_0 rfl (lv_at hl 0 rfl) ?_
  refine va_get (ci := 2) (v := .ref (a 1)) (C := RX2) (T := TX2) (N := 3) hx hb htb kin2 hown hK hP 0 (pOl_0 cI d a V) rfl 1 (by decide) (htb _ bw1_165) (fun _ h9 => h9) rfl dX2_earliestTime_1 ?_
  refine lv_iload_n hx hb dX2_earliestTime_4 rfl (lv_at hl 1 rfl) ?_
  obtain ⟨r1, hr1, hF⟩ := bd_use hF
  refine cl_VI ⟨hx, hb, hml, hown, htb⟩ (kX6_has l D cS g cI (a 1) (a 2) 44 4 11 (V.1) x1 _ hr1) (cwV 1 htb (gX6_has bw3_197) rfl rfl rfl hdX6_has ⟨Nat.le_of_ble_eq_true rfl, Nat.le_of_ble_eq_true rfl⟩) hK (hDa _) hG hA hP hS (sr_Ol_rooms cI d a V) hl.1 rfl 0 (pTb_0 _ _ _ _ _ _ _) rfl rfl (Nat.le_of_ble_eq_true rfl) dX2_earliestTime_5 (fun H locs hP hS => ?_)
  refine lv_if_eq (tgt := 22) hx hb dX2_earliestTime_8 (by decide) (fun c2 => ?_) (fun c2 => ?_)
  · have hF := it_t hF c2
    refine lv_iconst (v := (-1)) hx hb dX2_earliestTime_22 (by decide) ?_
    exact rt_I hx hb hr hlocks hS hP (so_use hF) dX2_earliestTime_23
  · have hF := it_f hF c2
    refine lv_iload_n hx hb dX2_earliestTime_11 rfl (lv_at hl 2 rfl) ?_
    refine lv_iconst (v := 0) hx hb dX2_earliestTime_12 (by decide) ?_
    refine lv_sipush (v := 720) hx hb dX2_earliestTime_13 (by decide) ?_
    obtain ⟨r3, hr3, hF⟩ := bd_use hF
    refine cl_SNI ⟨hx, hb, hml, hown, htb⟩ (kX8_inRange l D cS g cI x2 0 720 _ hr3) ⟨va_cnB 3 htb gX8_inRange_n rfl rfl rfl hG.2.2.2.2.2.2.1.2.1 (htb _ bw1_1) hdX8_inRange ⟨Nat.le_of_ble_eq_true rfl, Nat.le_of_ble_eq_true rfl⟩, (htb _ bw2_34), trivial⟩ hK (hDa _) hG hA hP hS sg_nil hl.1 rfl rfl (Nat.le_of_ble_eq_true rfl) dX2_earliestTime_16 (fun H locs hP hS => ?_)
    refine lv_if_ne (tgt := 24) hx hb dX2_earliestTime_19 (by decide) (fun c4 => ?_) (fun c4 => ?_)
    · have hF := it_f hF c4
      refine lv_iload_n hx hb dX2_earliestTime_24 rfl (lv_at hl 2 rfl) ?_
      refine lv_aload_n hx hb dX2_earliestTime_25 rfl (lv_at hl 0 rfl) ?_
      refine va_get (ci := 2) (v := .ref (a 0)) (C := RX2) (T := TX2) (N := 3) hx hb htb kin2 hown hK hP 0 (pOl_0 cI d a V) rfl 0 (by decide) (htb _ bw1_164) (fun _ h9 => h9) rfl dX2_earliestTime_26 ?_
      refine lv_iload_n hx hb dX2_earliestTime_29 rfl (lv_at hl 1 rfl) ?_
      obtain ⟨r5, hr5, hF⟩ := bd_use hF
      refine cl_VI ⟨hx, hb, hml, hown, htb⟩ (kX7_timeBehindPlays l D cS g cI a V x1 _ hr5) (cwV 1 htb (gX7_timeBehindPlays bw3_211) rfl rfl rfl hdX7_timeBehindPlays ⟨Nat.le_of_ble_eq_true rfl, Nat.le_of_ble_eq_true rfl⟩) hK (hDa _) hG hA hP hS (sr_Ol_Vn cI d a V) hl.1 rfl 0 (pVn_0 _ _ _) rfl rfl (Nat.le_of_ble_eq_true rfl) dX2_earliestTime_30 (fun H locs hP hS => ?_)
      refine va_mmax hx hb (hml.trans hl.1.symm) hown (htb _ bw3_212) (htb _ bw1_44) (htb _ bw1_5) (htb _ bw1_45) (Nat.le_of_ble_eq_true rfl) (Nat.le_of_ble_eq_true rfl) (Nat.zero_le _) (Nat.zero_le _) dX2_earliestTime_33 ?_
      refine lv_topi (fun v6 ev6 => ?_)
      have hF := nm_use hF ev6
      refine lv_istore_n (lv' := [(3, .int v6), (0, .ref d), (1, .int x1), (2, .int x2)]) hx hb dX2_earliestTime_36 rfl hl (by decide) rfl (fun ls hl => ?_)
      refine lv_aload_n hx hb dX2_earliestTime_37 rfl (lv_at hl 1 rfl) ?_
      refine va_get (ci := 2) (v := .ref (a 0)) (C := RX2) (T := TX2) (N := 3) hx hb htb kin2 hown hK hP 0 (pOl_0 cI d a V) rfl 0 (by decide) (htb _ bw1_164) (fun _ h9 => h9) rfl dX2_earliestTime_38 ?_
      refine lv_iload_n hx hb dX2_earliestTime_41 rfl (lv_at hl 2 rfl) ?_
      refine lv_iload_n hx hb dX2_earliestTime_42 rfl (lv_at hl 0 rfl) ?_
      refine lv_bipush (v := (-9)) hx hb dX2_earliestTime_43 (by decide) ?_
      obtain ⟨r7, hr7, hF⟩ := bd_use hF
      refine cl_VI ⟨hx, hb, hml, hown, htb⟩ (kX7_collision l D cS g cI a V x1 v6 (-9) _ hr7) (cwV 3 htb (gX7_collision bw3_213) rfl rfl rfl hdX7_collision ⟨Nat.le_of_ble_eq_true rfl, Nat.le_of_ble_eq_true rfl⟩) hK (hDa _) hG hA hP hS (sr_Ol_Vn cI d a V) hl.1 rfl 0 (pVn_0 _ _ _) rfl rfl (Nat.le_of_ble_eq_true rfl) dX2_earliestTime_45 (fun H locs hP hS => ?_)
      refine lv_istore (lv' := [(4, .int r7), (3, .int v6), (0, .ref d), (1, .int x1), (2, .int x2)]) hx hb dX2_earliestTime_48 hl (by decide) rfl (fun ls hl => ?_)
      refine lv_iconst (v := 0) hx hb dX2_earliestTime_50 (by decide) ?_
      refine lv_istore (lv' := [(5, .int 0), (4, .int r7), (3, .int v6), (0, .ref d), (1, .int x1), (2, .int x2)]) hx hb dX2_earliestTime_51 hl (by decide) rfl (fun ls hl => ?_)
      refine l53 x1 _ _ v6 r7 0 _ _ _ hF hP hS (lv_sub hl [3, 4, 2, 1, 0] rfl) ?_
      · intro y15 H locs ls hF hP hS hl
        refine lv_iload_n hx hb dX2_earliestTime_106 rfl (lv_at hl 0 rfl) ?_
        refine lv_sipush (v := 720) hx hb dX2_earliestTime_107 (by decide) ?_
        refine lv_icmp_gt (tgt := 117) hx hb dX2_earliestTime_110 (by decide) (fun c16 => ?_) (fun c16 => ?_)
        · have hF := it_t hF c16
          refine lv_bipush (v := (-9)) hx hb dX2_earliestTime_117 (by decide) ?_
          exact j119 (-9) _ _ _ hF hP hS (lv_sub hl [] rfl)
        · have hF := it_f hF c16
          refine lv_iload_n hx hb dX2_earliestTime_113 rfl (lv_at hl 0 rfl) ?_
          refine lv_goto (tgt := 119) hx hb dX2_earliestTime_114 (by decide) ?_
          exact j119 y15 _ _ _ hF hP hS (lv_sub hl [] rfl)
    · have hF := it_t hF c4
      refine lv_iconst (v := (-1)) hx hb dX2_earliestTime_22 (by decide) ?_
      exact rt_I hx hb hr hlocks hS hP (so_use hF) dX2_earliestTime_23
noncomputable def fX2_playersTogether_j93  (V : Vn) (s0 : Int32) : Option (Int32) := some s0
noncomputable def fX2_playersTogether  (V : Vn) (x1 : Int32) (x2 : Int32) (x3 : Int32) : Option (Int32) := (fX6_cell 160 16 10 (V.2.1) x2 0).bind fun r1 => if r1 = x1 then ((fX6_cell 160 16 10 (V.2.1) x3 0).bind fun r3 => if r3 = x1 then ((fX7_isBooked V x2).bind fun r5 => if r5 = 0 then (some (-9)) else ((fX7_isBooked V x3).bind fun r7 => if r7 = 0 then (some (-9)) else ((fX6_cell 160 16 10 (V.2.1) x2 2).bind fun r9 => (fX6_cell 160 16 10 (V.2.1) x3 2).bind fun r10 => nm (r9 + r10) fun v11 => (fX6_cell 44 4 11 (V.1) x1 3).bind fun r12 => if r12 < v11 then (fX2_playersTogether_j93 V (-9)) else (fX2_playersTogether_j93 V v11)))) else (some (-9))) else (some (-9))
abbrev vX2_playersTogether : List Cond := Cond.code yX2_playersTogether cX2_playersTogether 5 (some .int) :: BIG
theorem gX2_playersTogether {own : String} {idx : Nat} (h : (Cond.methodLink own idx yX2_playersTogether) ∈ BIG) : GoodIn BIG (wsV own idx RX2 yX2_playersTogether vX2_playersTogether) := gdV h bw3_226 bs19 bw1_8 bw3_227
def rmX2_playersTogether : Room := { frames := 2, cells := 0, slots := 0, locals := 45 }
theorem hdX2_playersTogether : yX2_playersTogether.cls = RX2 ∧ yX2_playersTogether.cls ≠ "java/lang/invoke/MethodHandle" ∧ yX2_playersTogether.cls ≠ "java/lang/invoke/VarHandle" ∧ (parseMethodDescriptor yX2_playersTogether.desc).map (fun d => d.parameters.length) = some 3 := by decide +kernel
set_option maxHeartbeats 4000000 in
set_option maxRecDepth 100000 in
theorem kX2_playersTogether (l : Launch) (D : va_G) (cS : ClassId) (g : Nat → Nat) (cI : ClassId) (d : Nat) (a : Nat → Nat) (V : Vn) (x1 : Int32) (x2 : Int32) (x3 : Int32) (r : Int32) (hF : fX2_playersTogether V x1 x2 x3 = some r) : mI l yX2_playersTogether vX2_playersTogether rmX2_playersTogether D cI cS g [.ref d, .int x1, .int x2, .int x3] (wOl cI d a V) r (wOl cI d a V) := by
  refine st_I rfl (by decide) (Nat.le_of_ble_eq_true rfl) ?_
  intro p e s m args below meth c A ls hx hb hr hml hlocks hown hts hA hK hD0 hG hP hS hl
  have hown : s.vm.findClass RX2 = some m.cls := hown
  have hDa : ∀ V, va_D A (wOl cI d a V) := fun V => hD0.adr rfl
  have htb : ∀ w ∈ BIG, w.before args s = true := fun w h => hts w (List.mem_cons_of_mem _ h)
  have hl : lv_has ls 5 [(0, .ref d), (1, .int x1), (2, .int x2), (3, .int x3)] := hl
  have j93 : ∀ (s0 : Int32) (H : Heap) (locs : List Loc) (ls : Array Slot), fX2_playersTogether_j93 V s0 = some r → va_P D vwCl (wOl cI d a V) H → va_S A s.heap H locs → lv_has ls 5 [] → W p l e rmX2_playersTogether s m args below meth c H locs 0 0 (MQ below (qI D r (wOl cI d a V) A) args s 0 0 A) (F0 m 93 ls [.int s0]) := by
    intro s0 H locs ls hF hP hS hl
    exact rt_I hx hb hr hlocks hS hP (so_use hF) dX2_playersTogether_93
  refine lv_aload_n hx hb dX2_playersTogether_0 rfl (lv_at hl 0 rfl) ?_
  refine va_get (ci := 2) (v := .ref (a 3)) (C := RX2) (T := TX2) (N := 3) hx hb htb kin2 hown hK hP 0 (pOl_0 cI d a V) rfl 2 (by decide) (htb _ bw1_166) (fun _ h9 => h9) rfl dX2_playersTogether_1 ?_
  refine lv_iload_n hx hb dX2_playersTogether_4 rfl (lv_at hl 2 rfl) ?_
  refine lv_iconst (v := 0) hx hb dX2_playersTogether_5 (by decide) ?_
  obtain ⟨r1, hr1, hF⟩ := bd_use hF
  refine cl_VI ⟨hx, hb, hml, hown, htb⟩ (kX6_cell l D cS g cI (a 3) (a 4) 160 16 10 (V.2.1) x2 0 _ hr1) (cwV 2 htb (gX6_cell bw3_201) rfl rfl rfl hdX6_cell ⟨Nat.le_of_ble_eq_true rfl, Nat.le_of_ble_eq_true rfl⟩) hK (hDa _) hG hA hP hS (sr_Ol_bookings cI d a V) hl.1 rfl 0 (pTb_0 _ _ _ _ _ _ _) rfl rfl (Nat.le_of_ble_eq_true rfl) dX2_playersTogether_6 (fun H locs hP hS => ?_)
  refine lv_iload_n hx hb dX2_playersTogether_9 rfl (lv_at hl 1 rfl) ?_
  refine lv_icmp_ne (tgt := 48) hx hb dX2_playersTogether_10 (by decide) (fun c2 => ?_) (fun c2 => ?_)
  · have hF := it_f hF c2
    refine lv_bipush (v := (-9)) hx hb dX2_playersTogether_48 (by decide) ?_
    exact rt_I hx hb hr hlocks hS hP (so_use hF) dX2_playersTogether_50
  · have hF := it_t hF c2
    refine lv_aload_n hx hb dX2_playersTogether_13 rfl (lv_at hl 0 rfl) ?_
    refine va_get (ci := 2) (v := .ref (a 3)) (C := RX2) (T := TX2) (N := 3) hx hb htb kin2 hown hK hP 0 (pOl_0 cI d a V) rfl 2 (by decide) (htb _ bw1_166) (fun _ h9 => h9) rfl dX2_playersTogether_14 ?_
    refine lv_iload_n hx hb dX2_playersTogether_17 rfl (lv_at hl 3 rfl) ?_
    refine lv_iconst (v := 0) hx hb dX2_playersTogether_18 (by decide) ?_
    obtain ⟨r3, hr3, hF⟩ := bd_use hF
    refine cl_VI ⟨hx, hb, hml, hown, htb⟩ (kX6_cell l D cS g cI (a 3) (a 4) 160 16 10 (V.2.1) x3 0 _ hr3) (cwV 2 htb (gX6_cell bw3_201) rfl rfl rfl hdX6_cell ⟨Nat.le_of_ble_eq_true rfl, Nat.le_of_ble_eq_true rfl⟩) hK (hDa _) hG hA hP hS (sr_Ol_bookings cI d a V) hl.1 rfl 0 (pTb_0 _ _ _ _ _ _ _) rfl rfl (Nat.le_of_ble_eq_true rfl) dX2_playersTogether_19 (fun H locs hP hS => ?_)
    refine lv_iload_n hx hb dX2_playersTogether_22 rfl (lv_at hl 1 rfl) ?_
    refine lv_icmp_ne (tgt := 48) hx hb dX2_playersTogether_23 (by decide) (fun c4 => ?_) (fun c4 => ?_)
    · have hF := it_f hF c4
      refine lv_bipush (v := (-9)) hx hb dX2_playersTogether_48 (by decide) ?_
      exact rt_I hx hb hr hlocks hS hP (so_use hF) dX2_playersTogether_50
    · have hF := it_t hF c4
      refine lv_aload_n hx hb dX2_playersTogether_26 rfl (lv_at hl 0 rfl) ?_
      refine va_get (ci := 2) (v := .ref (a 0)) (C := RX2) (T := TX2) (N := 3) hx hb htb kin2 hown hK hP 0 (pOl_0 cI d a V) rfl 0 (by decide) (htb _ bw1_164) (fun _ h9 => h9) rfl dX2_playersTogether_27 ?_
      refine lv_iload_n hx hb dX2_playersTogether_30 rfl (lv_at hl 2 rfl) ?_
      obtain ⟨r5, hr5, hF⟩ := bd_use hF
      refine cl_VI ⟨hx, hb, hml, hown, htb⟩ (kX7_isBooked l D cS g cI a V x2 _ hr5) (cwV 1 htb (gX7_isBooked bw3_199) rfl rfl rfl hdX7_isBooked ⟨Nat.le_of_ble_eq_true rfl, Nat.le_of_ble_eq_true rfl⟩) hK (hDa _) hG hA hP hS (sr_Ol_Vn cI d a V) hl.1 rfl 0 (pVn_0 _ _ _) rfl rfl (Nat.le_of_ble_eq_true rfl) dX2_playersTogether_31 (fun H locs hP hS => ?_)
      refine lv_if_eq (tgt := 48) hx hb dX2_playersTogether_34 (by decide) (fun c6 => ?_) (fun c6 => ?_)
      · have hF := it_t hF c6
        refine lv_bipush (v := (-9)) hx hb dX2_playersTogether_48 (by decide) ?_
        exact rt_I hx hb hr hlocks hS hP (so_use hF) dX2_playersTogether_50
      · have hF := it_f hF c6
        refine lv_aload_n hx hb dX2_playersTogether_37 rfl (lv_at hl 0 rfl) ?_
        refine va_get (ci := 2) (v := .ref (a 0)) (C := RX2) (T := TX2) (N := 3) hx hb htb kin2 hown hK hP 0 (pOl_0 cI d a V) rfl 0 (by decide) (htb _ bw1_164) (fun _ h9 => h9) rfl dX2_playersTogether_38 ?_
        refine lv_iload_n hx hb dX2_playersTogether_41 rfl (lv_at hl 3 rfl) ?_
        obtain ⟨r7, hr7, hF⟩ := bd_use hF
        refine cl_VI ⟨hx, hb, hml, hown, htb⟩ (kX7_isBooked l D cS g cI a V x3 _ hr7) (cwV 1 htb (gX7_isBooked bw3_199) rfl rfl rfl hdX7_isBooked ⟨Nat.le_of_ble_eq_true rfl, Nat.le_of_ble_eq_true rfl⟩) hK (hDa _) hG hA hP hS (sr_Ol_Vn cI d a V) hl.1 rfl 0 (pVn_0 _ _ _) rfl rfl (Nat.le_of_ble_eq_true rfl) dX2_playersTogether_42 (fun H locs hP hS => ?_)
        refine lv_if_ne (tgt := 51) hx hb dX2_playersTogether_45 (by decide) (fun c8 => ?_) (fun c8 => ?_)
        · have hF := it_f hF c8
          refine lv_aload_n hx hb dX2_playersTogether_51 rfl (lv_at hl 0 rfl) ?_
          refine va_get (ci := 2) (v := .ref (a 3)) (C := RX2) (T := TX2) (N := 3) hx hb htb kin2 hown hK hP 0 (pOl_0 cI d a V) rfl 2 (by decide) (htb _ bw1_166) (fun _ h9 => h9) rfl dX2_playersTogether_52 ?_
          refine lv_iload_n hx hb dX2_playersTogether_55 rfl (lv_at hl 2 rfl) ?_
          refine lv_iconst (v := 2) hx hb dX2_playersTogether_56 (by decide) ?_
          obtain ⟨r9, hr9, hF⟩ := bd_use hF
          refine cl_VI ⟨hx, hb, hml, hown, htb⟩ (kX6_cell l D cS g cI (a 3) (a 4) 160 16 10 (V.2.1) x2 2 _ hr9) (cwV 2 htb (gX6_cell bw3_201) rfl rfl rfl hdX6_cell ⟨Nat.le_of_ble_eq_true rfl, Nat.le_of_ble_eq_true rfl⟩) hK (hDa _) hG hA hP hS (sr_Ol_bookings cI d a V) hl.1 rfl 0 (pTb_0 _ _ _ _ _ _ _) rfl rfl (Nat.le_of_ble_eq_true rfl) dX2_playersTogether_57 (fun H locs hP hS => ?_)
          refine lv_aload_n hx hb dX2_playersTogether_60 rfl (lv_at hl 0 rfl) ?_
          refine va_get (ci := 2) (v := .ref (a 3)) (C := RX2) (T := TX2) (N := 3) hx hb htb kin2 hown hK hP 0 (pOl_0 cI d a V) rfl 2 (by decide) (htb _ bw1_166) (fun _ h9 => h9) rfl dX2_playersTogether_61 ?_
          refine lv_iload_n hx hb dX2_playersTogether_64 rfl (lv_at hl 3 rfl) ?_
          refine lv_iconst (v := 2) hx hb dX2_playersTogether_65 (by decide) ?_
          obtain ⟨r10, hr10, hF⟩ := bd_use hF
          refine cl_VI ⟨hx, hb, hml, hown, htb⟩ (kX6_cell l D cS g cI (a 3) (a 4) 160 16 10 (V.2.1) x3 2 _ hr10) (cwV 2 htb (gX6_cell bw3_201) rfl rfl rfl hdX6_cell ⟨Nat.le_of_ble_eq_true rfl, Nat.le_of_ble_eq_true rfl⟩) hK (hDa _) hG hA hP hS (sr_Ol_bookings cI d a V) hl.1 rfl 0 (pTb_0 _ _ _ _ _ _ _) rfl rfl (Nat.le_of_ble_eq_true rfl) dX2_playersTogether_66 (fun H locs hP hS => ?_)
          refine lv_iadd hx hb dX2_playersTogether_69 ?_
          refine lv_topi (fun v11 ev11 => ?_)
          have hF := nm_use hF ev11
          refine lv_istore (lv' := [(4, .int v11), (0, .ref d), (1, .int x1), (2, .int x2), (3, .int x3)]) hx hb dX2_playersTogether_70 hl (by decide) rfl (fun ls hl => ?_)
          refine lv_iload hx hb dX2_playersTogether_72 (lv_at hl 0 rfl) ?_
          refine lv_aload_n hx hb dX2_playersTogether_74 rfl (lv_at hl 1 rfl) ?_
          refine va_get (ci := 2) (v := .ref (a 1)) (C := RX2) (T := TX2) (N := 3) hx hb htb kin2 hown hK hP 0 (pOl_0 cI d a V) rfl 1 (by decide) (htb _ bw1_165) (fun _ h9 => h9) rfl dX2_playersTogether_75 ?_
          refine lv_iload_n hx hb dX2_playersTogether_78 rfl (lv_at hl 2 rfl) ?_
          refine lv_iconst (v := 3) hx hb dX2_playersTogether_79 (by decide) ?_
          obtain ⟨r12, hr12, hF⟩ := bd_use hF
          refine cl_VI ⟨hx, hb, hml, hown, htb⟩ (kX6_cell l D cS g cI (a 1) (a 2) 44 4 11 (V.1) x1 3 _ hr12) (cwV 2 htb (gX6_cell bw3_201) rfl rfl rfl hdX6_cell ⟨Nat.le_of_ble_eq_true rfl, Nat.le_of_ble_eq_true rfl⟩) hK (hDa _) hG hA hP hS (sr_Ol_rooms cI d a V) hl.1 rfl 0 (pTb_0 _ _ _ _ _ _ _) rfl rfl (Nat.le_of_ble_eq_true rfl) dX2_playersTogether_80 (fun H locs hP hS => ?_)
          refine lv_icmp_gt (tgt := 91) hx hb dX2_playersTogether_83 (by decide) (fun c13 => ?_) (fun c13 => ?_)
          · have hF := it_t hF c13
            refine lv_bipush (v := (-9)) hx hb dX2_playersTogether_91 (by decide) ?_
            exact j93 (-9) _ _ _ hF hP hS (lv_sub hl [] rfl)
          · have hF := it_f hF c13
            refine lv_iload hx hb dX2_playersTogether_86 (lv_at hl 0 rfl) ?_
            refine lv_goto (tgt := 93) hx hb dX2_playersTogether_88 (by decide) ?_
            exact j93 v11 _ _ _ hF hP hS (lv_sub hl [] rfl)
        · have hF := it_t hF c8
          refine lv_bipush (v := (-9)) hx hb dX2_playersTogether_48 (by decide) ?_
          exact rt_I hx hb hr hlocks hS hP (so_use hF) dX2_playersTogether_50
noncomputable def fX2_largestPair_j95  (x1 : Int32) (x2 : Int32) (x6 : Int32) (kk : Int32 → Int32 → Int32 → Option (Int32)) (ih : Int32 → Int32 → Int32 → Int32 → Option (Int32)) (V : Vn) (x3 : Int32) (x4 : Int32) (x5 : Int32) (x7 : Int32) : Option (Int32) := nm (x7 + 1) fun v12 => ih x3 x4 x5 v12
noncomputable def fX2_largestPair_l54  (V : Vn) (x1 : Int32) (x2 : Int32) (x6 : Int32) (kk : Int32 → Int32 → Int32 → Option (Int32)) : Nat → Int32 → Int32 → Int32 → Int32 → Option (Int32) := fun fu => Nat.rec (motive := fun _ => Int32 → Int32 → Int32 → Int32 → Option (Int32)) (fun _ _ _ _ => none) (fun _ ih => fun x3 x4 x5 x7 => (fX6_size 160 16 10 (V.2.1)).bind fun r8 => if r8 ≤ x7 then (kk x3 x4 x5) else ((fX2_playersTogether V x1 x6 x7).bind fun r10 => if r10 ≤ x5 then (fX2_largestPair_j95 x1 x2 x6 kk ih V x3 x4 x5 x7) else (fX2_largestPair_j95 x1 x2 x6 kk ih V x6 x7 r10 x7))) fu
theorem fX2_largestPair_l54_s  (V : Vn) (x1 : Int32) (x2 : Int32) (x6 : Int32) (kk : Int32 → Int32 → Int32 → Option (Int32)) (fu : Nat) (x3 : Int32) (x4 : Int32) (x5 : Int32) (x7 : Int32) : fX2_largestPair_l54 V x1 x2 x6 kk (fu + 1) x3 x4 x5 x7 = ((fX6_size 160 16 10 (V.2.1)).bind fun r8 => if r8 ≤ x7 then (kk x3 x4 x5) else ((fX2_playersTogether V x1 x6 x7).bind fun r10 => if r10 ≤ x5 then (fX2_largestPair_j95 x1 x2 x6 kk (fX2_largestPair_l54 V x1 x2 x6 kk fu) V x3 x4 x5 x7) else (fX2_largestPair_j95 x1 x2 x6 kk (fX2_largestPair_l54 V x1 x2 x6 kk fu) V x6 x7 r10 x7))) := rfl
theorem fX2_largestPair_l54_z  (V : Vn) (x1 : Int32) (x2 : Int32) (x6 : Int32) (kk : Int32 → Int32 → Int32 → Option (Int32)) (x3 : Int32) (x4 : Int32) (x5 : Int32) (x7 : Int32) : fX2_largestPair_l54 V x1 x2 x6 kk 0 x3 x4 x5 x7 = none := rfl
noncomputable def fX2_largestPair_l36  (V : Vn) (x1 : Int32) (x2 : Int32) (kk : Int32 → Int32 → Int32 → Option (Int32)) : Nat → Int32 → Int32 → Int32 → Int32 → Option (Int32) := fun fu => Nat.rec (motive := fun _ => Int32 → Int32 → Int32 → Int32 → Option (Int32)) (fun _ _ _ _ => none) (fun _ ih => fun x3 x4 x5 x6 => (fX6_size 160 16 10 (V.2.1)).bind fun r5 => if r5 ≤ x6 then (kk x3 x4 x5) else (nm (x6 + 1) fun v7 => fX2_largestPair_l54 V x1 x2 x6 (fun y13 y14 y15 => nm (x6 + 1) fun v16 => ih y13 y14 y15 v16) FU x3 x4 x5 v7)) fu
theorem fX2_largestPair_l36_s  (V : Vn) (x1 : Int32) (x2 : Int32) (kk : Int32 → Int32 → Int32 → Option (Int32)) (fu : Nat) (x3 : Int32) (x4 : Int32) (x5 : Int32) (x6 : Int32) : fX2_largestPair_l36 V x1 x2 kk (fu + 1) x3 x4 x5 x6 = ((fX6_size 160 16 10 (V.2.1)).bind fun r5 => if r5 ≤ x6 then (kk x3 x4 x5) else (nm (x6 + 1) fun v7 => fX2_largestPair_l54 V x1 x2 x6 (fun y13 y14 y15 => nm (x6 + 1) fun v16 => (fX2_largestPair_l36 V x1 x2 kk fu) y13 y14 y15 v16) FU x3 x4 x5 v7)) := rfl
theorem fX2_largestPair_l36_z  (V : Vn) (x1 : Int32) (x2 : Int32) (kk : Int32 → Int32 → Int32 → Option (Int32)) (x3 : Int32) (x4 : Int32) (x5 : Int32) (x6 : Int32) : fX2_largestPair_l36 V x1 x2 kk 0 x3 x4 x5 x6 = none := rfl
noncomputable def fX2_largestPair  (V : Vn) (x1 : Int32) (x2 : Int32) : Option (Int32) := (fX6_has 44 4 11 (V.1) x1).bind fun r1 => if r1 = 0 then (some (-1)) else ((fX8_inRange x2 0 2).bind fun r3 => if r3 = 0 then (some (-1)) else (fX2_largestPair_l36 V x1 x2 (fun y17 y18 y19 => if x2 = 0 then (some y17) else (if x2 = 1 then (some y18) else (some y19))) FU (-9) (-9) (-9) 0))
abbrev vX2_largestPair : List Cond := Cond.code yX2_largestPair cX2_largestPair 9 (some .int) :: BIG
theorem gX2_largestPair {own : String} {idx : Nat} (h : (Cond.methodLink own idx yX2_largestPair) ∈ BIG) : GoodIn BIG (wsV own idx RX2 yX2_largestPair vX2_largestPair) := gdV h bw3_220 bw3_221 bw1_8 bw3_222
def rmX2_largestPair : Room := { frames := 3, cells := 0, slots := 0, locals := 69 }
theorem hdX2_largestPair : yX2_largestPair.cls = RX2 ∧ yX2_largestPair.cls ≠ "java/lang/invoke/MethodHandle" ∧ yX2_largestPair.cls ≠ "java/lang/invoke/VarHandle" ∧ (parseMethodDescriptor yX2_largestPair.desc).map (fun d => d.parameters.length) = some 2 := by decide +kernel
set_option maxHeartbeats 4000000 in
set_option maxRecDepth 100000 in
theorem kX2_largestPair (l : Launch) (D : va_G) (cS : ClassId) (g : Nat → Nat) (cI : ClassId) (d : Nat) (a : Nat → Nat) (V : Vn) (x1 : Int32) (x2 : Int32) (r : Int32) (hF : fX2_largestPair V x1 x2 = some r) : mI l yX2_largestPair vX2_largestPair rmX2_largestPair D cI cS g [.ref d, .int x1, .int x2] (wOl cI d a V) r (wOl cI d a V) := by
  refine st_I rfl (by decide) (Nat.le_of_ble_eq_true rfl) ?_
  intro p e s m args below meth c A ls hx hb hr hml hlocks hown hts hA hK hD0 hG hP hS hl
  have hown : s.vm.findClass RX2 = some m.cls := hown
  have hDa : ∀ V, va_D A (wOl cI d a V) := fun V => hD0.adr rfl
  have htb : ∀ w ∈ BIG, w.before args s = true := fun w h => hts w (List.mem_cons_of_mem _ h)
  have hl : lv_has ls 9 [(0, .ref d), (1, .int x1), (2, .int x2)] := hl
  have l54 : ∀ (x1 : Int32) (x2 : Int32) (x6 : Int32) (kk : Int32 → Int32 → Int32 → Option (Int32)) (fu : Nat) (x3 : Int32) (x4 : Int32) (x5 : Int32) (x7 : Int32) (H : Heap) (locs : List Loc) (ls : Array Slot), fX2_largestPair_l54 V x1 x2 x6 kk fu x3 x4 x5 x7 = some r → va_P D vwCl (wOl cI d a V) H → va_S A s.heap H locs → lv_has ls 9 [(0, .ref d), (1, .int x1), (2, .int x2), (3, .int x3), (4, .int x4), (5, .int x5), (6, .int x6), (7, .int x7)] → (∀ (x3 : Int32) (x4 : Int32) (x5 : Int32) (H : Heap) (locs : List Loc) (ls : Array Slot), kk x3 x4 x5 = some r → va_P D vwCl (wOl cI d a V) H → va_S A s.heap H locs → lv_has ls 9 [(0, .ref d), (1, .int x1), (2, .int x2), (3, .int x3), (4, .int x4), (5, .int x5), (6, .int x6)] → W p l e rmX2_largestPair s m args below meth c H locs 0 0 (MQ below (qI D r (wOl cI d a V) A) args s 0 0 A) (F0 m 101 ls [])) → W p l e rmX2_largestPair s m args below meth c H locs 0 0 (MQ below (qI D r (wOl cI d a V) A) args s 0 0 A) (F0 m 54 ls []) := by
    intro x1 x2 x6 kk fu
    induction fu with
    | zero => intro x3 x4 x5 x7 H locs ls hF; exact nn_use hF
    | succ fu ihn =>
      intro x3 x4 x5 x7 H locs ls hF hP hS hl after
      rw [fX2_largestPair_l54_s] at hF
      have j95 : ∀ (x3 : Int32) (x4 : Int32) (x5 : Int32) (x7 : Int32) (H : Heap) (locs : List Loc) (ls : Array Slot), fX2_largestPair_j95 x1 x2 x6 kk (fX2_largestPair_l54 V x1 x2 x6 kk fu) V x3 x4 x5 x7 = some r → va_P D vwCl (wOl cI d a V) H → va_S A s.heap H locs → lv_has ls 9 [(0, .ref d), (1, .int x1), (2, .int x2), (3, .int x3), (4, .int x4), (5, .int x5), (6, .int x6), (7, .int x7)] → W p l e rmX2_largestPair s m args below meth c H locs 0 0 (MQ below (qI D r (wOl cI d a V) A) args s 0 0 A) (F0 m 95 ls []) := by
        intro x3 x4 x5 x7 H locs ls hF hP hS hl
        obtain ⟨v12, ev12⟩ : ∃ z : Int32, z = x7 + 1 := ⟨_, rfl⟩
        refine lv_iinc (v := v12) (lv' := [(7, .int v12), (0, .ref d), (1, .int x1), (2, .int x2), (3, .int x3), (4, .int x4), (5, .int x5), (6, .int x6)]) hx hb dX2_largestPair_95 hl (k := 7) rfl (by rw [ev12]; rfl) (by decide) rfl (fun ls hl => ?_)
        have hF := nm_use hF ev12
        refine lv_goto (tgt := 54) hx hb dX2_largestPair_98 (by decide) ?_
        exact ihn x3 x4 x5 v12 _ _ _ hF hP hS (lv_sub hl [1, 2, 3, 4, 5, 6, 7, 0] rfl) after
      refine lv_iload hx hb dX2_largestPair_54 (lv_at hl 7 rfl) ?_
      refine lv_aload_n hx hb dX2_largestPair_56 rfl (lv_at hl 0 rfl) ?_
      refine va_get (ci := 2) (v := .ref (a 3)) (C := RX2) (T := TX2) (N := 3) hx hb htb kin2 hown hK hP 0 (pOl_0 cI d a V) rfl 2 (by decide) (htb _ bw1_166) (fun _ h9 => h9) rfl dX2_largestPair_57 ?_
      obtain ⟨r8, hr8, hF⟩ := bd_use hF
      refine cl_VI ⟨hx, hb, hml, hown, htb⟩ (kX6_size l D cS g cI (a 3) (a 4) 160 16 10 (V.2.1)  _ hr8) (cwV 0 htb (gX6_size bw3_223) rfl rfl rfl hdX6_size ⟨Nat.le_of_ble_eq_true rfl, Nat.le_of_ble_eq_true rfl⟩) hK (hDa _) hG hA hP hS (sr_Ol_bookings cI d a V) hl.1 rfl 0 (pTb_0 _ _ _ _ _ _ _) rfl rfl (Nat.le_of_ble_eq_true rfl) dX2_largestPair_60 (fun H locs hP hS => ?_)
      refine lv_icmp_ge (tgt := 101) hx hb dX2_largestPair_63 (by decide) (fun c9 => ?_) (fun c9 => ?_)
      · have hF := it_t hF c9
        exact after x3 x4 x5 _ _ _ hF hP hS (lv_sub hl [0, 1, 2, 3, 4, 5, 6] rfl)
      · have hF := it_f hF c9
        refine lv_aload_n hx hb dX2_largestPair_66 rfl (lv_at hl 0 rfl) ?_
        refine lv_iload_n hx hb dX2_largestPair_67 rfl (lv_at hl 1 rfl) ?_
        refine lv_iload hx hb dX2_largestPair_68 (lv_at hl 6 rfl) ?_
        refine lv_iload hx hb dX2_largestPair_70 (lv_at hl 7 rfl) ?_
        obtain ⟨r10, hr10, hF⟩ := bd_use hF
        refine cl_VI ⟨hx, hb, hml, hown, htb⟩ (kX2_playersTogether l D cS g cI d a V x1 x6 x7 _ hr10) (cwV 3 htb (gX2_playersTogether bw3_224) rfl rfl rfl hdX2_playersTogether ⟨Nat.le_of_ble_eq_true rfl, Nat.le_of_ble_eq_true rfl⟩) hK (hDa _) hG hA hP hS (sr_Ol_Ol cI d a V) hl.1 rfl 0 (pOl_0 _ _ _ _) rfl rfl (Nat.le_of_ble_eq_true rfl) dX2_largestPair_72 (fun H locs hP hS => ?_)
        refine lv_istore (lv' := [(8, .int r10), (0, .ref d), (1, .int x1), (2, .int x2), (3, .int x3), (4, .int x4), (5, .int x5), (6, .int x6), (7, .int x7)]) hx hb dX2_largestPair_75 hl (by decide) rfl (fun ls hl => ?_)
        refine lv_iload hx hb dX2_largestPair_77 (lv_at hl 0 rfl) ?_
        refine lv_iload hx hb dX2_largestPair_79 (lv_at hl 6 rfl) ?_
        refine lv_icmp_le (tgt := 95) hx hb dX2_largestPair_81 (by decide) (fun c11 => ?_) (fun c11 => ?_)
        · have hF := it_t hF c11
          exact j95 x3 x4 x5 x7 _ _ _ hF hP hS (lv_sub hl [1, 2, 3, 4, 5, 6, 7, 8] rfl)
        · have hF := it_f hF c11
          refine lv_iload hx hb dX2_largestPair_84 (lv_at hl 7 rfl) ?_
          refine lv_istore_n (lv' := [(3, .int x6), (8, .int r10), (0, .ref d), (1, .int x1), (2, .int x2), (4, .int x4), (5, .int x5), (6, .int x6), (7, .int x7)]) hx hb dX2_largestPair_86 rfl hl (by decide) rfl (fun ls hl => ?_)
          refine lv_iload hx hb dX2_largestPair_87 (lv_at hl 8 rfl) ?_
          refine lv_istore (lv' := [(4, .int x7), (3, .int x6), (8, .int r10), (0, .ref d), (1, .int x1), (2, .int x2), (5, .int x5), (6, .int x6), (7, .int x7)]) hx hb dX2_largestPair_89 hl (by decide) rfl (fun ls hl => ?_)
          refine lv_iload hx hb dX2_largestPair_91 (lv_at hl 2 rfl) ?_
          refine lv_istore (lv' := [(5, .int r10), (4, .int x7), (3, .int x6), (8, .int r10), (0, .ref d), (1, .int x1), (2, .int x2), (6, .int x6), (7, .int x7)]) hx hb dX2_largestPair_93 hl (by decide) rfl (fun ls hl => ?_)
          exact j95 x6 x7 r10 x7 _ _ _ hF hP hS (lv_sub hl [4, 5, 6, 2, 1, 0, 7, 8] rfl)
  have l36 : ∀ (x1 : Int32) (x2 : Int32) (kk : Int32 → Int32 → Int32 → Option (Int32)) (fu : Nat) (x3 : Int32) (x4 : Int32) (x5 : Int32) (x6 : Int32) (H : Heap) (locs : List Loc) (ls : Array Slot), fX2_largestPair_l36 V x1 x2 kk fu x3 x4 x5 x6 = some r → va_P D vwCl (wOl cI d a V) H → va_S A s.heap H locs → lv_has ls 9 [(0, .ref d), (1, .int x1), (2, .int x2), (3, .int x3), (4, .int x4), (5, .int x5), (6, .int x6)] → (∀ (x3 : Int32) (x4 : Int32) (x5 : Int32) (H : Heap) (locs : List Loc) (ls : Array Slot), kk x3 x4 x5 = some r → va_P D vwCl (wOl cI d a V) H → va_S A s.heap H locs → lv_has ls 9 [(2, .int x2), (3, .int x3), (4, .int x4), (5, .int x5)] → W p l e rmX2_largestPair s m args below meth c H locs 0 0 (MQ below (qI D r (wOl cI d a V) A) args s 0 0 A) (F0 m 107 ls [])) → W p l e rmX2_largestPair s m args below meth c H locs 0 0 (MQ below (qI D r (wOl cI d a V) A) args s 0 0 A) (F0 m 36 ls []) := by
    intro x1 x2 kk fu
    induction fu with
    | zero => intro x3 x4 x5 x6 H locs ls hF; exact nn_use hF
    | succ fu ihn =>
      intro x3 x4 x5 x6 H locs ls hF hP hS hl after
      rw [fX2_largestPair_l36_s] at hF
      refine lv_iload hx hb dX2_largestPair_36 (lv_at hl 6 rfl) ?_
      refine lv_aload_n hx hb dX2_largestPair_38 rfl (lv_at hl 0 rfl) ?_
      refine va_get (ci := 2) (v := .ref (a 3)) (C := RX2) (T := TX2) (N := 3) hx hb htb kin2 hown hK hP 0 (pOl_0 cI d a V) rfl 2 (by decide) (htb _ bw1_166) (fun _ h9 => h9) rfl dX2_largestPair_39 ?_
      obtain ⟨r5, hr5, hF⟩ := bd_use hF
      refine cl_VI ⟨hx, hb, hml, hown, htb⟩ (kX6_size l D cS g cI (a 3) (a 4) 160 16 10 (V.2.1)  _ hr5) (cwV 0 htb (gX6_size bw3_223) rfl rfl rfl hdX6_size ⟨Nat.le_of_ble_eq_true rfl, Nat.le_of_ble_eq_true rfl⟩) hK (hDa _) hG hA hP hS (sr_Ol_bookings cI d a V) hl.1 rfl 0 (pTb_0 _ _ _ _ _ _ _) rfl rfl (Nat.le_of_ble_eq_true rfl) dX2_largestPair_42 (fun H locs hP hS => ?_)
      refine lv_icmp_ge (tgt := 107) hx hb dX2_largestPair_45 (by decide) (fun c6 => ?_) (fun c6 => ?_)
      · have hF := it_t hF c6
        exact after x3 x4 x5 _ _ _ hF hP hS (lv_sub hl [2, 3, 4, 5] rfl)
      · have hF := it_f hF c6
        refine lv_iload hx hb dX2_largestPair_48 (lv_at hl 6 rfl) ?_
        refine lv_iconst (v := 1) hx hb dX2_largestPair_50 (by decide) ?_
        refine lv_iadd hx hb dX2_largestPair_51 ?_
        refine lv_topi (fun v7 ev7 => ?_)
        have hF := nm_use hF ev7
        refine lv_istore (lv' := [(7, .int v7), (0, .ref d), (1, .int x1), (2, .int x2), (3, .int x3), (4, .int x4), (5, .int x5), (6, .int x6)]) hx hb dX2_largestPair_52 hl (by decide) rfl (fun ls hl => ?_)
        refine l54 x1 x2 x6 _ _ x3 x4 x5 v7 _ _ _ hF hP hS (lv_sub hl [1, 2, 3, 4, 5, 6, 7, 0] rfl) ?_
        · intro y13 y14 y15 H locs ls hF hP hS hl
          obtain ⟨v16, ev16⟩ : ∃ z : Int32, z = x6 + 1 := ⟨_, rfl⟩
          refine lv_iinc (v := v16) (lv' := [(6, .int v16), (0, .ref d), (1, .int x1), (2, .int x2), (3, .int y13), (4, .int y14), (5, .int y15)]) hx hb dX2_largestPair_101 hl (k := 6) rfl (by rw [ev16]; rfl) (by decide) rfl (fun ls hl => ?_)
          have hF := nm_use hF ev16
          refine lv_goto (tgt := 36) hx hb dX2_largestPair_104 (by decide) ?_
          exact ihn y13 y14 y15 v16 _ _ _ hF hP hS (lv_sub hl [1, 2, 3, 4, 5, 6, 0] rfl) after
  refine lv_aload_n hx hb dX2_largestPair_0 rfl (lv_at hl 0 rfl) ?_
  refine va_get (ci := 2) (v := .ref (a 1)) (C := RX2) (T := TX2) (N := 3) hx hb htb kin2 hown hK hP 0 (pOl_0 cI d a V) rfl 1 (by decide) (htb _ bw1_165) (fun _ h9 => h9) rfl dX2_largestPair_1 ?_
  refine lv_iload_n hx hb dX2_largestPair_4 rfl (lv_at hl 1 rfl) ?_
  obtain ⟨r1, hr1, hF⟩ := bd_use hF
  refine cl_VI ⟨hx, hb, hml, hown, htb⟩ (kX6_has l D cS g cI (a 1) (a 2) 44 4 11 (V.1) x1 _ hr1) (cwV 1 htb (gX6_has bw3_197) rfl rfl rfl hdX6_has ⟨Nat.le_of_ble_eq_true rfl, Nat.le_of_ble_eq_true rfl⟩) hK (hDa _) hG hA hP hS (sr_Ol_rooms cI d a V) hl.1 rfl 0 (pTb_0 _ _ _ _ _ _ _) rfl rfl (Nat.le_of_ble_eq_true rfl) dX2_largestPair_5 (fun H locs hP hS => ?_)
  refine lv_if_eq (tgt := 20) hx hb dX2_largestPair_8 (by decide) (fun c2 => ?_) (fun c2 => ?_)
  · have hF := it_t hF c2
    refine lv_iconst (v := (-1)) hx hb dX2_largestPair_20 (by decide) ?_
    exact rt_I hx hb hr hlocks hS hP (so_use hF) dX2_largestPair_21
  · have hF := it_f hF c2
    refine lv_iload_n hx hb dX2_largestPair_11 rfl (lv_at hl 2 rfl) ?_
    refine lv_iconst (v := 0) hx hb dX2_largestPair_12 (by decide) ?_
    refine lv_iconst (v := 2) hx hb dX2_largestPair_13 (by decide) ?_
    obtain ⟨r3, hr3, hF⟩ := bd_use hF
    refine cl_SNI ⟨hx, hb, hml, hown, htb⟩ (kX8_inRange l D cS g cI x2 0 2 _ hr3) ⟨va_cnB 3 htb gX8_inRange_n rfl rfl rfl hG.2.2.2.2.2.2.1.2.1 (htb _ bw1_1) hdX8_inRange ⟨Nat.le_of_ble_eq_true rfl, Nat.le_of_ble_eq_true rfl⟩, (htb _ bw2_34), trivial⟩ hK (hDa _) hG hA hP hS sg_nil hl.1 rfl rfl (Nat.le_of_ble_eq_true rfl) dX2_largestPair_14 (fun H locs hP hS => ?_)
    refine lv_if_ne (tgt := 22) hx hb dX2_largestPair_17 (by decide) (fun c4 => ?_) (fun c4 => ?_)
    · have hF := it_f hF c4
      refine lv_bipush (v := (-9)) hx hb dX2_largestPair_22 (by decide) ?_
      refine lv_istore_n (lv' := [(3, .int (-9)), (0, .ref d), (1, .int x1), (2, .int x2)]) hx hb dX2_largestPair_24 rfl hl (by decide) rfl (fun ls hl => ?_)
      refine lv_bipush (v := (-9)) hx hb dX2_largestPair_25 (by decide) ?_
      refine lv_istore (lv' := [(4, .int (-9)), (3, .int (-9)), (0, .ref d), (1, .int x1), (2, .int x2)]) hx hb dX2_largestPair_27 hl (by decide) rfl (fun ls hl => ?_)
      refine lv_bipush (v := (-9)) hx hb dX2_largestPair_29 (by decide) ?_
      refine lv_istore (lv' := [(5, .int (-9)), (4, .int (-9)), (3, .int (-9)), (0, .ref d), (1, .int x1), (2, .int x2)]) hx hb dX2_largestPair_31 hl (by decide) rfl (fun ls hl => ?_)
      refine lv_iconst (v := 0) hx hb dX2_largestPair_33 (by decide) ?_
      refine lv_istore (lv' := [(6, .int 0), (5, .int (-9)), (4, .int (-9)), (3, .int (-9)), (0, .ref d), (1, .int x1), (2, .int x2)]) hx hb dX2_largestPair_34 hl (by decide) rfl (fun ls hl => ?_)
      refine l36 x1 x2 _ _ (-9) (-9) (-9) 0 _ _ _ hF hP hS (lv_sub hl [4, 5, 6, 3, 2, 1, 0] rfl) ?_
      · intro y17 y18 y19 H locs ls hF hP hS hl
        refine lv_iload_n hx hb dX2_largestPair_107 rfl (lv_at hl 0 rfl) ?_
        by_cases c20 : x2 = 0
        · have hF := it_t hF c20
          refine lv_lookup (x := x2) (off := 28) (tgt := 136) hx hb dX2_largestPair_108 (by decide) (by rw [c20]; decide) (by decide) ?_
          refine lv_iload_n hx hb dX2_largestPair_136 rfl (lv_at hl 1 rfl) ?_
          exact rt_I hx hb hr hlocks hS hP (so_use hF) dX2_largestPair_137
        · have hF := it_f hF c20
          by_cases c21 : x2 = 1
          · have hF := it_t hF c21
            refine lv_lookup (x := x2) (off := 30) (tgt := 138) hx hb dX2_largestPair_108 (by decide) (by rw [c21]; decide) (by decide) ?_
            refine lv_iload hx hb dX2_largestPair_138 (lv_at hl 2 rfl) ?_
            exact rt_I hx hb hr hlocks hS hP (so_use hF) dX2_largestPair_140
          · have hF := it_f hF c21
            refine lv_lookup (x := x2) (off := 33) (tgt := 141) hx hb dX2_largestPair_108 (by decide) (sw_lk2 (by decide) (by decide) c20 c21) (by decide) ?_
            refine lv_iload hx hb dX2_largestPair_141 (lv_at hl 3 rfl) ?_
            exact rt_I hx hb hr hlocks hS hP (so_use hF) dX2_largestPair_143
    · have hF := it_t hF c4
      refine lv_iconst (v := (-1)) hx hb dX2_largestPair_20 (by decide) ?_
      exact rt_I hx hb hr hlocks hS hP (so_use hF) dX2_largestPair_21
noncomputable def fX2_delayLeft_j82  (V : Vn) (s0 : Int32) : Option (Int32) := some s0
noncomputable def fX2_delayLeft  (V : Vn) (x1 : Int32) : Option (Int32) := (fX6_has 44 4 11 (V.1) x1).bind fun r1 => if r1 = 0 then (some (-1)) else ((fX7_nextBooked V x1 (-1)).bind fun r3 => if r3 = (-9) then (some (-9)) else ((fX6_cell 160 16 10 (V.2.1) r3 1).bind fun r5 => (fX7_setting V 3).bind fun r6 => nm (r5 + r6) fun v7 => (fX6_cell 44 4 11 (V.1) x1 4).bind fun r8 => nm (v7 - r8) fun v9 => if v9 < 0 then (fX2_delayLeft_j82 V (-9)) else (nm (jmin v9 999) fun v11 => fX2_delayLeft_j82 V v11)))
abbrev vX2_delayLeft : List Cond := Cond.code yX2_delayLeft cX2_delayLeft 5 (some .int) :: BIG
theorem gX2_delayLeft {own : String} {idx : Nat} (h : (Cond.methodLink own idx yX2_delayLeft) ∈ BIG) : GoodIn BIG (wsV own idx RX2 yX2_delayLeft vX2_delayLeft) := gdV h bw3_233 bw3_234 bw1_8 bw3_235
def rmX2_delayLeft : Room := { frames := 2, cells := 0, slots := 0, locals := 51 }
theorem hdX2_delayLeft : yX2_delayLeft.cls = RX2 ∧ yX2_delayLeft.cls ≠ "java/lang/invoke/MethodHandle" ∧ yX2_delayLeft.cls ≠ "java/lang/invoke/VarHandle" ∧ (parseMethodDescriptor yX2_delayLeft.desc).map (fun d => d.parameters.length) = some 1 := by decide +kernel
set_option maxHeartbeats 4000000 in
set_option maxRecDepth 100000 in
theorem kX2_delayLeft (l : Launch) (D : va_G) (cS : ClassId) (g : Nat → Nat) (cI : ClassId) (d : Nat) (a : Nat → Nat) (V : Vn) (x1 : Int32) (r : Int32) (hF : fX2_delayLeft V x1 = some r) : mI l yX2_delayLeft vX2_delayLeft rmX2_delayLeft D cI cS g [.ref d, .int x1] (wOl cI d a V) r (wOl cI d a V) := by
  refine st_I rfl (by decide) (Nat.le_of_ble_eq_true rfl) ?_
  intro p e s m args below meth c A ls hx hb hr hml hlocks hown hts hA hK hD0 hG hP hS hl
  have hown : s.vm.findClass RX2 = some m.cls := hown
  have hDa : ∀ V, va_D A (wOl cI d a V) := fun V => hD0.adr rfl
  have htb : ∀ w ∈ BIG, w.before args s = true := fun w h => hts w (List.mem_cons_of_mem _ h)
  have hl : lv_has ls 5 [(0, .ref d), (1, .int x1)] := hl
  have j82 : ∀ (s0 : Int32) (H : Heap) (locs : List Loc) (ls : Array Slot), fX2_delayLeft_j82 V s0 = some r → va_P D vwCl (wOl cI d a V) H → va_S A s.heap H locs → lv_has ls 5 [] → W p l e rmX2_delayLeft s m args below meth c H locs 0 0 (MQ below (qI D r (wOl cI d a V) A) args s 0 0 A) (F0 m 82 ls [.int s0]) := by
    intro s0 H locs ls hF hP hS hl
    exact rt_I hx hb hr hlocks hS hP (so_use hF) dX2_delayLeft_82
  refine lv_aload_n hx hb dX2_delayLeft_0 rfl (lv_at hl 0 rfl) ?_
  refine va_get (ci := 2) (v := .ref (a 1)) (C := RX2) (T := TX2) (N := 3) hx hb htb kin2 hown hK hP 0 (pOl_0 cI d a V) rfl 1 (by decide) (htb _ bw1_165) (fun _ h9 => h9) rfl dX2_delayLeft_1 ?_
  refine lv_iload_n hx hb dX2_delayLeft_4 rfl (lv_at hl 1 rfl) ?_
  obtain ⟨r1, hr1, hF⟩ := bd_use hF
  refine cl_VI ⟨hx, hb, hml, hown, htb⟩ (kX6_has l D cS g cI (a 1) (a 2) 44 4 11 (V.1) x1 _ hr1) (cwV 1 htb (gX6_has bw3_197) rfl rfl rfl hdX6_has ⟨Nat.le_of_ble_eq_true rfl, Nat.le_of_ble_eq_true rfl⟩) hK (hDa _) hG hA hP hS (sr_Ol_rooms cI d a V) hl.1 rfl 0 (pTb_0 _ _ _ _ _ _ _) rfl rfl (Nat.le_of_ble_eq_true rfl) dX2_delayLeft_5 (fun H locs hP hS => ?_)
  refine lv_if_ne (tgt := 13) hx hb dX2_delayLeft_8 (by decide) (fun c2 => ?_) (fun c2 => ?_)
  · have hF := it_f hF c2
    refine lv_aload_n hx hb dX2_delayLeft_13 rfl (lv_at hl 0 rfl) ?_
    refine va_get (ci := 2) (v := .ref (a 0)) (C := RX2) (T := TX2) (N := 3) hx hb htb kin2 hown hK hP 0 (pOl_0 cI d a V) rfl 0 (by decide) (htb _ bw1_164) (fun _ h9 => h9) rfl dX2_delayLeft_14 ?_
    refine lv_iload_n hx hb dX2_delayLeft_17 rfl (lv_at hl 1 rfl) ?_
    refine lv_iconst (v := (-1)) hx hb dX2_delayLeft_18 (by decide) ?_
    obtain ⟨r3, hr3, hF⟩ := bd_use hF
    refine cl_VI ⟨hx, hb, hml, hown, htb⟩ (kX7_nextBooked l D cS g cI a V x1 (-1) _ hr3) (cwV 2 htb (gX7_nextBooked bw3_236) rfl rfl rfl hdX7_nextBooked ⟨Nat.le_of_ble_eq_true rfl, Nat.le_of_ble_eq_true rfl⟩) hK (hDa _) hG hA hP hS (sr_Ol_Vn cI d a V) hl.1 rfl 0 (pVn_0 _ _ _) rfl rfl (Nat.le_of_ble_eq_true rfl) dX2_delayLeft_19 (fun H locs hP hS => ?_)
    refine lv_istore_n (lv' := [(2, .int r3), (0, .ref d), (1, .int x1)]) hx hb dX2_delayLeft_22 rfl hl (by decide) rfl (fun ls hl => ?_)
    refine lv_iload_n hx hb dX2_delayLeft_23 rfl (lv_at hl 0 rfl) ?_
    refine lv_bipush (v := (-9)) hx hb dX2_delayLeft_24 (by decide) ?_
    refine lv_icmp_ne (tgt := 32) hx hb dX2_delayLeft_26 (by decide) (fun c4 => ?_) (fun c4 => ?_)
    · have hF := it_f hF c4
      refine lv_aload_n hx hb dX2_delayLeft_32 rfl (lv_at hl 1 rfl) ?_
      refine va_get (ci := 2) (v := .ref (a 3)) (C := RX2) (T := TX2) (N := 3) hx hb htb kin2 hown hK hP 0 (pOl_0 cI d a V) rfl 2 (by decide) (htb _ bw1_166) (fun _ h9 => h9) rfl dX2_delayLeft_33 ?_
      refine lv_iload_n hx hb dX2_delayLeft_36 rfl (lv_at hl 0 rfl) ?_
      refine lv_iconst (v := 1) hx hb dX2_delayLeft_37 (by decide) ?_
      obtain ⟨r5, hr5, hF⟩ := bd_use hF
      refine cl_VI ⟨hx, hb, hml, hown, htb⟩ (kX6_cell l D cS g cI (a 3) (a 4) 160 16 10 (V.2.1) r3 1 _ hr5) (cwV 2 htb (gX6_cell bw3_201) rfl rfl rfl hdX6_cell ⟨Nat.le_of_ble_eq_true rfl, Nat.le_of_ble_eq_true rfl⟩) hK (hDa _) hG hA hP hS (sr_Ol_bookings cI d a V) hl.1 rfl 0 (pTb_0 _ _ _ _ _ _ _) rfl rfl (Nat.le_of_ble_eq_true rfl) dX2_delayLeft_38 (fun H locs hP hS => ?_)
      refine lv_aload_n hx hb dX2_delayLeft_41 rfl (lv_at hl 1 rfl) ?_
      refine va_get (ci := 2) (v := .ref (a 0)) (C := RX2) (T := TX2) (N := 3) hx hb htb kin2 hown hK hP 0 (pOl_0 cI d a V) rfl 0 (by decide) (htb _ bw1_164) (fun _ h9 => h9) rfl dX2_delayLeft_42 ?_
      refine lv_iconst (v := 3) hx hb dX2_delayLeft_45 (by decide) ?_
      obtain ⟨r6, hr6, hF⟩ := bd_use hF
      refine cl_VI ⟨hx, hb, hml, hown, htb⟩ (kX7_setting l D cS g cI a V 3 _ hr6) (cwV 1 htb (gX7_setting bw3_237) rfl rfl rfl hdX7_setting ⟨Nat.le_of_ble_eq_true rfl, Nat.le_of_ble_eq_true rfl⟩) hK (hDa _) hG hA hP hS (sr_Ol_Vn cI d a V) hl.1 rfl 0 (pVn_0 _ _ _) rfl rfl (Nat.le_of_ble_eq_true rfl) dX2_delayLeft_46 (fun H locs hP hS => ?_)
      refine lv_iadd hx hb dX2_delayLeft_49 ?_
      refine lv_topi (fun v7 ev7 => ?_)
      have hF := nm_use hF ev7
      refine lv_istore_n (lv' := [(3, .int v7), (2, .int r3), (0, .ref d), (1, .int x1)]) hx hb dX2_delayLeft_50 rfl hl (by decide) rfl (fun ls hl => ?_)
      refine lv_iload_n hx hb dX2_delayLeft_51 rfl (lv_at hl 0 rfl) ?_
      refine lv_aload_n hx hb dX2_delayLeft_52 rfl (lv_at hl 2 rfl) ?_
      refine va_get (ci := 2) (v := .ref (a 1)) (C := RX2) (T := TX2) (N := 3) hx hb htb kin2 hown hK hP 0 (pOl_0 cI d a V) rfl 1 (by decide) (htb _ bw1_165) (fun _ h9 => h9) rfl dX2_delayLeft_53 ?_
      refine lv_iload_n hx hb dX2_delayLeft_56 rfl (lv_at hl 3 rfl) ?_
      refine lv_iconst (v := 4) hx hb dX2_delayLeft_57 (by decide) ?_
      obtain ⟨r8, hr8, hF⟩ := bd_use hF
      refine cl_VI ⟨hx, hb, hml, hown, htb⟩ (kX6_cell l D cS g cI (a 1) (a 2) 44 4 11 (V.1) x1 4 _ hr8) (cwV 2 htb (gX6_cell bw3_201) rfl rfl rfl hdX6_cell ⟨Nat.le_of_ble_eq_true rfl, Nat.le_of_ble_eq_true rfl⟩) hK (hDa _) hG hA hP hS (sr_Ol_rooms cI d a V) hl.1 rfl 0 (pTb_0 _ _ _ _ _ _ _) rfl rfl (Nat.le_of_ble_eq_true rfl) dX2_delayLeft_58 (fun H locs hP hS => ?_)
      refine lv_isub hx hb dX2_delayLeft_61 ?_
      refine lv_topi (fun v9 ev9 => ?_)
      have hF := nm_use hF ev9
      refine lv_istore (lv' := [(4, .int v9), (3, .int v7), (2, .int r3), (0, .ref d), (1, .int x1)]) hx hb dX2_delayLeft_62 hl (by decide) rfl (fun ls hl => ?_)
      refine lv_iload hx hb dX2_delayLeft_64 (lv_at hl 0 rfl) ?_
      refine lv_if_lt (tgt := 80) hx hb dX2_delayLeft_66 (by decide) (fun c10 => ?_) (fun c10 => ?_)
      · have hF := it_t hF c10
        refine lv_bipush (v := (-9)) hx hb dX2_delayLeft_80 (by decide) ?_
        exact j82 (-9) _ _ _ hF hP hS (lv_sub hl [] rfl)
      · have hF := it_f hF c10
        refine lv_iload hx hb dX2_delayLeft_69 (lv_at hl 0 rfl) ?_
        refine lv_sipush (v := 999) hx hb dX2_delayLeft_71 (by decide) ?_
        refine va_mmin hx hb (hml.trans hl.1.symm) hown (htb _ bw3_238) (htb _ bw2_19) (htb _ bw1_5) (htb _ bw2_20) (Nat.le_of_ble_eq_true rfl) (Nat.le_of_ble_eq_true rfl) (Nat.zero_le _) (Nat.zero_le _) dX2_delayLeft_74 ?_
        refine lv_topi (fun v11 ev11 => ?_)
        have hF := nm_use hF ev11
        refine lv_goto (tgt := 82) hx hb dX2_delayLeft_77 (by decide) ?_
        exact j82 v11 _ _ _ hF hP hS (lv_sub hl [] rfl)
    · have hF := it_t hF c4
      refine lv_bipush (v := (-9)) hx hb dX2_delayLeft_29 (by decide) ?_
      exact rt_I hx hb hr hlocks hS hP (so_use hF) dX2_delayLeft_31
  · have hF := it_t hF c2
    refine lv_iconst (v := (-1)) hx hb dX2_delayLeft_11 (by decide) ?_
    exact rt_I hx hb hr hlocks hS hP (so_use hF) dX2_delayLeft_12
noncomputable def fX2_hintsLeft  (V : Vn) (x1 : Int32) (x2 : Int32) : Option (Int32) := (fX6_cell 160 16 10 (V.2.1) x1 0).bind fun r1 => (fX6_cell 44 4 11 (V.1) r1 0).bind fun r2 => (fX6_has 160 16 10 (V.2.1) x1).bind fun r3 => if r3 = 0 then (some (-1)) else ((fX8_inRange x2 1 r2).bind fun r5 => if r5 = 0 then (some (-1)) else ((fX7_isBooked V x1).bind fun r7 => if r7 = 0 then (some (-2)) else ((fX7_setting V 0).bind fun r9 => if 0 < r9 then ((fX7_setting V 1).bind fun r11 => Dv ((r2 + r11) - x2) r9 fun v12 => nm (jmin 20 v12) fun v13 => some v13) else (some 20))))
abbrev vX2_hintsLeft : List Cond := Cond.code yX2_hintsLeft cX2_hintsLeft 5 (some .int) :: BIG
theorem gX2_hintsLeft {own : String} {idx : Nat} (h : (Cond.methodLink own idx yX2_hintsLeft) ∈ BIG) : GoodIn BIG (wsV own idx RX2 yX2_hintsLeft vX2_hintsLeft) := gdV h bw4_4 bw4_5 bw1_8 bw4_6
def rmX2_hintsLeft : Room := { frames := 2, cells := 0, slots := 0, locals := 45 }
theorem hdX2_hintsLeft : yX2_hintsLeft.cls = RX2 ∧ yX2_hintsLeft.cls ≠ "java/lang/invoke/MethodHandle" ∧ yX2_hintsLeft.cls ≠ "java/lang/invoke/VarHandle" ∧ (parseMethodDescriptor yX2_hintsLeft.desc).map (fun d => d.parameters.length) = some 2 := by decide +kernel
set_option maxHeartbeats 4000000 in
set_option maxRecDepth 100000 in
theorem kX2_hintsLeft (l : Launch) (D : va_G) (cS : ClassId) (g : Nat → Nat) (cI : ClassId) (d : Nat) (a : Nat → Nat) (V : Vn) (x1 : Int32) (x2 : Int32) (r : Int32) (hF : fX2_hintsLeft V x1 x2 = some r) : mI l yX2_hintsLeft vX2_hintsLeft rmX2_hintsLeft D cI cS g [.ref d, .int x1, .int x2] (wOl cI d a V) r (wOl cI d a V) := by
  refine st_I rfl (by decide) (Nat.le_of_ble_eq_true rfl) ?_
  intro p e s m args below meth c A ls hx hb hr hml hlocks hown hts hA hK hD0 hG hP hS hl
  have hown : s.vm.findClass RX2 = some m.cls := hown
  have hDa : ∀ V, va_D A (wOl cI d a V) := fun V => hD0.adr rfl
  have htb : ∀ w ∈ BIG, w.before args s = true := fun w h => hts w (List.mem_cons_of_mem _ h)
  have hl : lv_has ls 5 [(0, .ref d), (1, .int x1), (2, .int x2)] := hl
  refine lv_aload_n hx hb dX2_hintsLeft_0 rfl (lv_at hl 0 rfl) ?_
  refine va_get (ci := 2) (v := .ref (a 1)) (C := RX2) (T := TX2) (N := 3) hx hb htb kin2 hown hK hP 0 (pOl_0 cI d a V) rfl 1 (by decide) (htb _ bw1_165) (fun _ h9 => h9) rfl dX2_hintsLeft_1 ?_
  refine lv_aload_n hx hb dX2_hintsLeft_4 rfl (lv_at hl 0 rfl) ?_
  refine va_get (ci := 2) (v := .ref (a 3)) (C := RX2) (T := TX2) (N := 3) hx hb htb kin2 hown hK hP 0 (pOl_0 cI d a V) rfl 2 (by decide) (htb _ bw1_166) (fun _ h9 => h9) rfl dX2_hintsLeft_5 ?_
  refine lv_iload_n hx hb dX2_hintsLeft_8 rfl (lv_at hl 1 rfl) ?_
  refine lv_iconst (v := 0) hx hb dX2_hintsLeft_9 (by decide) ?_
  obtain ⟨r1, hr1, hF⟩ := bd_use hF
  refine cl_VI ⟨hx, hb, hml, hown, htb⟩ (kX6_cell l D cS g cI (a 3) (a 4) 160 16 10 (V.2.1) x1 0 _ hr1) (cwV 2 htb (gX6_cell bw3_201) rfl rfl rfl hdX6_cell ⟨Nat.le_of_ble_eq_true rfl, Nat.le_of_ble_eq_true rfl⟩) hK (hDa _) hG hA hP hS (sr_Ol_bookings cI d a V) hl.1 rfl 0 (pTb_0 _ _ _ _ _ _ _) rfl rfl (Nat.le_of_ble_eq_true rfl) dX2_hintsLeft_10 (fun H locs hP hS => ?_)
  refine lv_iconst (v := 0) hx hb dX2_hintsLeft_13 (by decide) ?_
  obtain ⟨r2, hr2, hF⟩ := bd_use hF
  refine cl_VI ⟨hx, hb, hml, hown, htb⟩ (kX6_cell l D cS g cI (a 1) (a 2) 44 4 11 (V.1) r1 0 _ hr2) (cwV 2 htb (gX6_cell bw3_201) rfl rfl rfl hdX6_cell ⟨Nat.le_of_ble_eq_true rfl, Nat.le_of_ble_eq_true rfl⟩) hK (hDa _) hG hA hP hS (sr_Ol_rooms cI d a V) hl.1 rfl 0 (pTb_0 _ _ _ _ _ _ _) rfl rfl (Nat.le_of_ble_eq_true rfl) dX2_hintsLeft_14 (fun H locs hP hS => ?_)
  refine lv_istore_n (lv' := [(3, .int r2), (0, .ref d), (1, .int x1), (2, .int x2)]) hx hb dX2_hintsLeft_17 rfl hl (by decide) rfl (fun ls hl => ?_)
  refine lv_aload_n hx hb dX2_hintsLeft_18 rfl (lv_at hl 1 rfl) ?_
  refine va_get (ci := 2) (v := .ref (a 3)) (C := RX2) (T := TX2) (N := 3) hx hb htb kin2 hown hK hP 0 (pOl_0 cI d a V) rfl 2 (by decide) (htb _ bw1_166) (fun _ h9 => h9) rfl dX2_hintsLeft_19 ?_
  refine lv_iload_n hx hb dX2_hintsLeft_22 rfl (lv_at hl 2 rfl) ?_
  obtain ⟨r3, hr3, hF⟩ := bd_use hF
  refine cl_VI ⟨hx, hb, hml, hown, htb⟩ (kX6_has l D cS g cI (a 3) (a 4) 160 16 10 (V.2.1) x1 _ hr3) (cwV 1 htb (gX6_has bw3_197) rfl rfl rfl hdX6_has ⟨Nat.le_of_ble_eq_true rfl, Nat.le_of_ble_eq_true rfl⟩) hK (hDa _) hG hA hP hS (sr_Ol_bookings cI d a V) hl.1 rfl 0 (pTb_0 _ _ _ _ _ _ _) rfl rfl (Nat.le_of_ble_eq_true rfl) dX2_hintsLeft_23 (fun H locs hP hS => ?_)
  refine lv_if_eq (tgt := 38) hx hb dX2_hintsLeft_26 (by decide) (fun c4 => ?_) (fun c4 => ?_)
  · have hF := it_t hF c4
    refine lv_iconst (v := (-1)) hx hb dX2_hintsLeft_38 (by decide) ?_
    exact rt_I hx hb hr hlocks hS hP (so_use hF) dX2_hintsLeft_39
  · have hF := it_f hF c4
    refine lv_iload_n hx hb dX2_hintsLeft_29 rfl (lv_at hl 3 rfl) ?_
    refine lv_iconst (v := 1) hx hb dX2_hintsLeft_30 (by decide) ?_
    refine lv_iload_n hx hb dX2_hintsLeft_31 rfl (lv_at hl 0 rfl) ?_
    obtain ⟨r5, hr5, hF⟩ := bd_use hF
    refine cl_SNI ⟨hx, hb, hml, hown, htb⟩ (kX8_inRange l D cS g cI x2 1 r2 _ hr5) ⟨va_cnB 3 htb gX8_inRange_n rfl rfl rfl hG.2.2.2.2.2.2.1.2.1 (htb _ bw1_1) hdX8_inRange ⟨Nat.le_of_ble_eq_true rfl, Nat.le_of_ble_eq_true rfl⟩, (htb _ bw2_34), trivial⟩ hK (hDa _) hG hA hP hS sg_nil hl.1 rfl rfl (Nat.le_of_ble_eq_true rfl) dX2_hintsLeft_32 (fun H locs hP hS => ?_)
    refine lv_if_ne (tgt := 40) hx hb dX2_hintsLeft_35 (by decide) (fun c6 => ?_) (fun c6 => ?_)
    · have hF := it_f hF c6
      refine lv_aload_n hx hb dX2_hintsLeft_40 rfl (lv_at hl 1 rfl) ?_
      refine va_get (ci := 2) (v := .ref (a 0)) (C := RX2) (T := TX2) (N := 3) hx hb htb kin2 hown hK hP 0 (pOl_0 cI d a V) rfl 0 (by decide) (htb _ bw1_164) (fun _ h9 => h9) rfl dX2_hintsLeft_41 ?_
      refine lv_iload_n hx hb dX2_hintsLeft_44 rfl (lv_at hl 2 rfl) ?_
      obtain ⟨r7, hr7, hF⟩ := bd_use hF
      refine cl_VI ⟨hx, hb, hml, hown, htb⟩ (kX7_isBooked l D cS g cI a V x1 _ hr7) (cwV 1 htb (gX7_isBooked bw3_199) rfl rfl rfl hdX7_isBooked ⟨Nat.le_of_ble_eq_true rfl, Nat.le_of_ble_eq_true rfl⟩) hK (hDa _) hG hA hP hS (sr_Ol_Vn cI d a V) hl.1 rfl 0 (pVn_0 _ _ _) rfl rfl (Nat.le_of_ble_eq_true rfl) dX2_hintsLeft_45 (fun H locs hP hS => ?_)
      refine lv_if_ne (tgt := 54) hx hb dX2_hintsLeft_48 (by decide) (fun c8 => ?_) (fun c8 => ?_)
      · have hF := it_f hF c8
        refine lv_aload_n hx hb dX2_hintsLeft_54 rfl (lv_at hl 1 rfl) ?_
        refine va_get (ci := 2) (v := .ref (a 0)) (C := RX2) (T := TX2) (N := 3) hx hb htb kin2 hown hK hP 0 (pOl_0 cI d a V) rfl 0 (by decide) (htb _ bw1_164) (fun _ h9 => h9) rfl dX2_hintsLeft_55 ?_
        refine lv_iconst (v := 0) hx hb dX2_hintsLeft_58 (by decide) ?_
        obtain ⟨r9, hr9, hF⟩ := bd_use hF
        refine cl_VI ⟨hx, hb, hml, hown, htb⟩ (kX7_setting l D cS g cI a V 0 _ hr9) (cwV 1 htb (gX7_setting bw3_237) rfl rfl rfl hdX7_setting ⟨Nat.le_of_ble_eq_true rfl, Nat.le_of_ble_eq_true rfl⟩) hK (hDa _) hG hA hP hS (sr_Ol_Vn cI d a V) hl.1 rfl 0 (pVn_0 _ _ _) rfl rfl (Nat.le_of_ble_eq_true rfl) dX2_hintsLeft_59 (fun H locs hP hS => ?_)
        refine lv_istore (lv' := [(4, .int r9), (3, .int r2), (0, .ref d), (1, .int x1), (2, .int x2)]) hx hb dX2_hintsLeft_62 hl (by decide) rfl (fun ls hl => ?_)
        refine lv_iload hx hb dX2_hintsLeft_64 (lv_at hl 0 rfl) ?_
        refine lv_if_gt (tgt := 72) hx hb dX2_hintsLeft_66 (by decide) (fun c10 => ?_) (fun c10 => ?_)
        · have hF := it_t hF c10
          refine lv_bipush (v := 20) hx hb dX2_hintsLeft_72 (by decide) ?_
          refine lv_iload_n hx hb dX2_hintsLeft_74 rfl (lv_at hl 1 rfl) ?_
          refine lv_aload_n hx hb dX2_hintsLeft_75 rfl (lv_at hl 2 rfl) ?_
          refine va_get (ci := 2) (v := .ref (a 0)) (C := RX2) (T := TX2) (N := 3) hx hb htb kin2 hown hK hP 0 (pOl_0 cI d a V) rfl 0 (by decide) (htb _ bw1_164) (fun _ h9 => h9) rfl dX2_hintsLeft_76 ?_
          refine lv_iconst (v := 1) hx hb dX2_hintsLeft_79 (by decide) ?_
          obtain ⟨r11, hr11, hF⟩ := bd_use hF
          refine cl_VI ⟨hx, hb, hml, hown, htb⟩ (kX7_setting l D cS g cI a V 1 _ hr11) (cwV 1 htb (gX7_setting bw3_237) rfl rfl rfl hdX7_setting ⟨Nat.le_of_ble_eq_true rfl, Nat.le_of_ble_eq_true rfl⟩) hK (hDa _) hG hA hP hS (sr_Ol_Vn cI d a V) hl.1 rfl 0 (pVn_0 _ _ _) rfl rfl (Nat.le_of_ble_eq_true rfl) dX2_hintsLeft_80 (fun H locs hP hS => ?_)
          refine lv_iadd hx hb dX2_hintsLeft_83 ?_
          refine lv_iload_n hx hb dX2_hintsLeft_84 rfl (lv_at hl 4 rfl) ?_
          refine lv_isub hx hb dX2_hintsLeft_85 ?_
          refine lv_iload hx hb dX2_hintsLeft_86 (lv_at hl 0 rfl) ?_
          obtain ⟨hd, hF⟩ := dv_use hF
          refine lv_idiv hx hb dX2_hintsLeft_88 hd ?_
          refine lv_topi (fun v12 ev12 => ?_)
          have hF := hF v12 ev12
          refine va_mmin hx hb (hml.trans hl.1.symm) hown (htb _ bw3_238) (htb _ bw2_19) (htb _ bw1_5) (htb _ bw2_20) (Nat.le_of_ble_eq_true rfl) (Nat.le_of_ble_eq_true rfl) (Nat.zero_le _) (Nat.zero_le _) dX2_hintsLeft_89 ?_
          refine lv_topi (fun v13 ev13 => ?_)
          have hF := nm_use hF ev13
          exact rt_I hx hb hr hlocks hS hP (so_use hF) dX2_hintsLeft_92
        · have hF := it_f hF c10
          refine lv_bipush (v := 20) hx hb dX2_hintsLeft_69 (by decide) ?_
          exact rt_I hx hb hr hlocks hS hP (so_use hF) dX2_hintsLeft_71
      · have hF := it_t hF c8
        refine lv_bipush (v := (-2)) hx hb dX2_hintsLeft_51 (by decide) ?_
        exact rt_I hx hb hr hlocks hS hP (so_use hF) dX2_hintsLeft_53
    · have hF := it_t hF c6
      refine lv_iconst (v := (-1)) hx hb dX2_hintsLeft_38 (by decide) ?_
      exact rt_I hx hb hr hlocks hS hP (so_use hF) dX2_hintsLeft_39
noncomputable def fX2_roomsAheadOf_j62  (x1 : Int32) (x2 : Int32) (ih : Int32 → Int32 → Option (Int32)) (V : Vn) (x3 : Int32) (x4 : Int32) : Option (Int32) := nm (x4 + 1) fun v7 => ih x3 v7
noncomputable def fX2_roomsAheadOf_j59  (x1 : Int32) (x2 : Int32) (ih : Int32 → Int32 → Option (Int32)) (V : Vn) (x3 : Int32) (x4 : Int32) : Option (Int32) := nm (x3 + 1) fun v6 => fX2_roomsAheadOf_j62 x1 x2 ih V v6 x4
noncomputable def fX2_roomsAheadOf_l16  (V : Vn) (x1 : Int32) (x2 : Int32) : Nat → Int32 → Int32 → Option (Int32) := fun fu => Nat.rec (motive := fun _ => Int32 → Int32 → Option (Int32)) (fun _ _ => none) (fun _ ih => fun x3 x4 => (fX6_size 44 4 11 (V.1)).bind fun r2 => if r2 ≤ x4 then (some x3) else ((fX6_cell 44 4 11 (V.1) x4 8).bind fun r4 => if x2 < r4 then (fX2_roomsAheadOf_j59 x1 x2 ih V x3 x4) else (if r4 = x2 then (if x1 ≤ x4 then (fX2_roomsAheadOf_j62 x1 x2 ih V x3 x4) else (fX2_roomsAheadOf_j59 x1 x2 ih V x3 x4)) else (fX2_roomsAheadOf_j62 x1 x2 ih V x3 x4)))) fu
theorem fX2_roomsAheadOf_l16_s  (V : Vn) (x1 : Int32) (x2 : Int32) (fu : Nat) (x3 : Int32) (x4 : Int32) : fX2_roomsAheadOf_l16 V x1 x2 (fu + 1) x3 x4 = ((fX6_size 44 4 11 (V.1)).bind fun r2 => if r2 ≤ x4 then (some x3) else ((fX6_cell 44 4 11 (V.1) x4 8).bind fun r4 => if x2 < r4 then (fX2_roomsAheadOf_j59 x1 x2 (fX2_roomsAheadOf_l16 V x1 x2 fu) V x3 x4) else (if r4 = x2 then (if x1 ≤ x4 then (fX2_roomsAheadOf_j62 x1 x2 (fX2_roomsAheadOf_l16 V x1 x2 fu) V x3 x4) else (fX2_roomsAheadOf_j59 x1 x2 (fX2_roomsAheadOf_l16 V x1 x2 fu) V x3 x4)) else (fX2_roomsAheadOf_j62 x1 x2 (fX2_roomsAheadOf_l16 V x1 x2 fu) V x3 x4)))) := rfl
theorem fX2_roomsAheadOf_l16_z  (V : Vn) (x1 : Int32) (x2 : Int32) (x3 : Int32) (x4 : Int32) : fX2_roomsAheadOf_l16 V x1 x2 0 x3 x4 = none := rfl
noncomputable def fX2_roomsAheadOf  (V : Vn) (x1 : Int32) : Option (Int32) := (fX6_cell 44 4 11 (V.1) x1 8).bind fun r1 => fX2_roomsAheadOf_l16 V x1 r1 FU 0 0
abbrev vX2_roomsAheadOf : List Cond := Cond.code yX2_roomsAheadOf cX2_roomsAheadOf 6 (some .int) :: BIG
theorem gX2_roomsAheadOf {own : String} {idx : Nat} (h : (Cond.methodLink own idx yX2_roomsAheadOf) ∈ BIG) : GoodIn BIG (wsV own idx RX2 yX2_roomsAheadOf vX2_roomsAheadOf) := gdV h bw4_17 bs20 bw1_8 bw4_18
def rmX2_roomsAheadOf : Room := { frames := 1, cells := 0, slots := 0, locals := 24 }
theorem hdX2_roomsAheadOf : yX2_roomsAheadOf.cls = RX2 ∧ yX2_roomsAheadOf.cls ≠ "java/lang/invoke/MethodHandle" ∧ yX2_roomsAheadOf.cls ≠ "java/lang/invoke/VarHandle" ∧ (parseMethodDescriptor yX2_roomsAheadOf.desc).map (fun d => d.parameters.length) = some 1 := by decide +kernel
set_option maxHeartbeats 4000000 in
set_option maxRecDepth 100000 in
theorem kX2_roomsAheadOf (l : Launch) (D : va_G) (cS : ClassId) (g : Nat → Nat) (cI : ClassId) (d : Nat) (a : Nat → Nat) (V : Vn) (x1 : Int32) (r : Int32) (hF : fX2_roomsAheadOf V x1 = some r) : mI l yX2_roomsAheadOf vX2_roomsAheadOf rmX2_roomsAheadOf D cI cS g [.ref d, .int x1] (wOl cI d a V) r (wOl cI d a V) := by
  refine st_I rfl (by decide) (Nat.le_of_ble_eq_true rfl) ?_
  intro p e s m args below meth c A ls hx hb hr hml hlocks hown hts hA hK hD0 hG hP hS hl
  have hown : s.vm.findClass RX2 = some m.cls := hown
  have hDa : ∀ V, va_D A (wOl cI d a V) := fun V => hD0.adr rfl
  have htb : ∀ w ∈ BIG, w.before args s = true := fun w h => hts w (List.mem_cons_of_mem _ h)
  have hl : lv_has ls 6 [(0, .ref d), (1, .int x1)] := hl
  have l16 : ∀ (x1 : Int32) (x2 : Int32) (fu : Nat) (x3 : Int32) (x4 : Int32) (H : Heap) (locs : List Loc) (ls : Array Slot), fX2_roomsAheadOf_l16 V x1 x2 fu x3 x4 = some r → va_P D vwCl (wOl cI d a V) H → va_S A s.heap H locs → lv_has ls 6 [(0, .ref d), (1, .int x1), (2, .int x2), (3, .int x3), (4, .int x4)] → W p l e rmX2_roomsAheadOf s m args below meth c H locs 0 0 (MQ below (qI D r (wOl cI d a V) A) args s 0 0 A) (F0 m 16 ls []) := by
    intro x1 x2  fu
    induction fu with
    | zero => intro x3 x4 H locs ls hF; exact nn_use hF
    | succ fu ihn =>
      intro x3 x4 H locs ls hF hP hS hl 
      rw [fX2_roomsAheadOf_l16_s] at hF
      have j62 : ∀ (x3 : Int32) (x4 : Int32) (H : Heap) (locs : List Loc) (ls : Array Slot), fX2_roomsAheadOf_j62 x1 x2  (fX2_roomsAheadOf_l16 V x1 x2 fu) V x3 x4 = some r → va_P D vwCl (wOl cI d a V) H → va_S A s.heap H locs → lv_has ls 6 [(0, .ref d), (1, .int x1), (2, .int x2), (3, .int x3), (4, .int x4)] → W p l e rmX2_roomsAheadOf s m args below meth c H locs 0 0 (MQ below (qI D r (wOl cI d a V) A) args s 0 0 A) (F0 m 62 ls []) := by
        intro x3 x4 H locs ls hF hP hS hl
        obtain ⟨v7, ev7⟩ : ∃ z : Int32, z = x4 + 1 := ⟨_, rfl⟩
        refine lv_iinc (v := v7) (lv' := [(4, .int v7), (0, .ref d), (1, .int x1), (2, .int x2), (3, .int x3)]) hx hb dX2_roomsAheadOf_62 hl (k := 4) rfl (by rw [ev7]; rfl) (by decide) rfl (fun ls hl => ?_)
        have hF := nm_use hF ev7
        refine lv_goto (tgt := 16) hx hb dX2_roomsAheadOf_65 (by decide) ?_
        exact ihn x3 v7 _ _ _ hF hP hS (lv_sub hl [1, 2, 3, 4, 0] rfl)
      have j59 : ∀ (x3 : Int32) (x4 : Int32) (H : Heap) (locs : List Loc) (ls : Array Slot), fX2_roomsAheadOf_j59 x1 x2  (fX2_roomsAheadOf_l16 V x1 x2 fu) V x3 x4 = some r → va_P D vwCl (wOl cI d a V) H → va_S A s.heap H locs → lv_has ls 6 [(0, .ref d), (1, .int x1), (2, .int x2), (3, .int x3), (4, .int x4)] → W p l e rmX2_roomsAheadOf s m args below meth c H locs 0 0 (MQ below (qI D r (wOl cI d a V) A) args s 0 0 A) (F0 m 59 ls []) := by
        intro x3 x4 H locs ls hF hP hS hl
        obtain ⟨v6, ev6⟩ : ∃ z : Int32, z = x3 + 1 := ⟨_, rfl⟩
        refine lv_iinc (v := v6) (lv' := [(3, .int v6), (0, .ref d), (1, .int x1), (2, .int x2), (4, .int x4)]) hx hb dX2_roomsAheadOf_59 hl (k := 3) rfl (by rw [ev6]; rfl) (by decide) rfl (fun ls hl => ?_)
        have hF := nm_use hF ev6
        exact j62 v6 x4 _ _ _ hF hP hS (lv_sub hl [1, 2, 3, 0, 4] rfl)
      refine lv_iload hx hb dX2_roomsAheadOf_16 (lv_at hl 4 rfl) ?_
      refine lv_aload_n hx hb dX2_roomsAheadOf_18 rfl (lv_at hl 0 rfl) ?_
      refine va_get (ci := 2) (v := .ref (a 1)) (C := RX2) (T := TX2) (N := 3) hx hb htb kin2 hown hK hP 0 (pOl_0 cI d a V) rfl 1 (by decide) (htb _ bw1_165) (fun _ h9 => h9) rfl dX2_roomsAheadOf_19 ?_
      obtain ⟨r2, hr2, hF⟩ := bd_use hF
      refine cl_VI ⟨hx, hb, hml, hown, htb⟩ (kX6_size l D cS g cI (a 1) (a 2) 44 4 11 (V.1)  _ hr2) (cwV 0 htb (gX6_size bw3_223) rfl rfl rfl hdX6_size ⟨Nat.le_of_ble_eq_true rfl, Nat.le_of_ble_eq_true rfl⟩) hK (hDa _) hG hA hP hS (sr_Ol_rooms cI d a V) hl.1 rfl 0 (pTb_0 _ _ _ _ _ _ _) rfl rfl (Nat.le_of_ble_eq_true rfl) dX2_roomsAheadOf_22 (fun H locs hP hS => ?_)
      refine lv_icmp_ge (tgt := 68) hx hb dX2_roomsAheadOf_25 (by decide) (fun c3 => ?_) (fun c3 => ?_)
      · have hF := it_t hF c3
        refine lv_iload_n hx hb dX2_roomsAheadOf_68 rfl (lv_at hl 3 rfl) ?_
        exact rt_I hx hb hr hlocks hS hP (so_use hF) dX2_roomsAheadOf_69
      · have hF := it_f hF c3
        refine lv_aload_n hx hb dX2_roomsAheadOf_28 rfl (lv_at hl 0 rfl) ?_
        refine va_get (ci := 2) (v := .ref (a 1)) (C := RX2) (T := TX2) (N := 3) hx hb htb kin2 hown hK hP 0 (pOl_0 cI d a V) rfl 1 (by decide) (htb _ bw1_165) (fun _ h9 => h9) rfl dX2_roomsAheadOf_29 ?_
        refine lv_iload hx hb dX2_roomsAheadOf_32 (lv_at hl 4 rfl) ?_
        refine lv_bipush (v := 8) hx hb dX2_roomsAheadOf_34 (by decide) ?_
        obtain ⟨r4, hr4, hF⟩ := bd_use hF
        refine cl_VI ⟨hx, hb, hml, hown, htb⟩ (kX6_cell l D cS g cI (a 1) (a 2) 44 4 11 (V.1) x4 8 _ hr4) (cwV 2 htb (gX6_cell bw3_201) rfl rfl rfl hdX6_cell ⟨Nat.le_of_ble_eq_true rfl, Nat.le_of_ble_eq_true rfl⟩) hK (hDa _) hG hA hP hS (sr_Ol_rooms cI d a V) hl.1 rfl 0 (pTb_0 _ _ _ _ _ _ _) rfl rfl (Nat.le_of_ble_eq_true rfl) dX2_roomsAheadOf_36 (fun H locs hP hS => ?_)
        refine lv_istore (lv' := [(5, .int r4), (0, .ref d), (1, .int x1), (2, .int x2), (3, .int x3), (4, .int x4)]) hx hb dX2_roomsAheadOf_39 hl (by decide) rfl (fun ls hl => ?_)
        refine lv_iload hx hb dX2_roomsAheadOf_41 (lv_at hl 0 rfl) ?_
        refine lv_iload_n hx hb dX2_roomsAheadOf_43 rfl (lv_at hl 3 rfl) ?_
        refine lv_icmp_gt (tgt := 59) hx hb dX2_roomsAheadOf_44 (by decide) (fun c5 => ?_) (fun c5 => ?_)
        · have hF := it_t hF c5
          exact j59 x3 x4 _ _ _ hF hP hS (lv_sub hl [1, 2, 3, 4, 5] rfl)
        · have hF := it_f hF c5
          refine lv_iload hx hb dX2_roomsAheadOf_47 (lv_at hl 0 rfl) ?_
          refine lv_iload_n hx hb dX2_roomsAheadOf_49 rfl (lv_at hl 3 rfl) ?_
          refine lv_icmp_ne (tgt := 62) hx hb dX2_roomsAheadOf_50 (by decide) (fun c8 => ?_) (fun c8 => ?_)
          · have hF := it_f hF c8
            exact j62 x3 x4 _ _ _ hF hP hS (lv_sub hl [1, 2, 3, 4, 5] rfl)
          · have hF := it_t hF c8
            refine lv_iload hx hb dX2_roomsAheadOf_53 (lv_at hl 5 rfl) ?_
            refine lv_iload_n hx hb dX2_roomsAheadOf_55 rfl (lv_at hl 2 rfl) ?_
            refine lv_icmp_ge (tgt := 62) hx hb dX2_roomsAheadOf_56 (by decide) (fun c9 => ?_) (fun c9 => ?_)
            · have hF := it_t hF c9
              exact j62 x3 x4 _ _ _ hF hP hS (lv_sub hl [1, 2, 3, 4, 5] rfl)
            · have hF := it_f hF c9
              exact j59 x3 x4 _ _ _ hF hP hS (lv_sub hl [1, 2, 3, 4, 5] rfl)
  refine lv_aload_n hx hb dX2_roomsAheadOf_0 rfl (lv_at hl 0 rfl) ?_
  refine va_get (ci := 2) (v := .ref (a 1)) (C := RX2) (T := TX2) (N := 3) hx hb htb kin2 hown hK hP 0 (pOl_0 cI d a V) rfl 1 (by decide) (htb _ bw1_165) (fun _ h9 => h9) rfl dX2_roomsAheadOf_1 ?_
  refine lv_iload_n hx hb dX2_roomsAheadOf_4 rfl (lv_at hl 1 rfl) ?_
  refine lv_bipush (v := 8) hx hb dX2_roomsAheadOf_5 (by decide) ?_
  obtain ⟨r1, hr1, hF⟩ := bd_use hF
  refine cl_VI ⟨hx, hb, hml, hown, htb⟩ (kX6_cell l D cS g cI (a 1) (a 2) 44 4 11 (V.1) x1 8 _ hr1) (cwV 2 htb (gX6_cell bw3_201) rfl rfl rfl hdX6_cell ⟨Nat.le_of_ble_eq_true rfl, Nat.le_of_ble_eq_true rfl⟩) hK (hDa _) hG hA hP hS (sr_Ol_rooms cI d a V) hl.1 rfl 0 (pTb_0 _ _ _ _ _ _ _) rfl rfl (Nat.le_of_ble_eq_true rfl) dX2_roomsAheadOf_7 (fun H locs hP hS => ?_)
  refine lv_istore_n (lv' := [(2, .int r1), (0, .ref d), (1, .int x1)]) hx hb dX2_roomsAheadOf_10 rfl hl (by decide) rfl (fun ls hl => ?_)
  refine lv_iconst (v := 0) hx hb dX2_roomsAheadOf_11 (by decide) ?_
  refine lv_istore_n (lv' := [(3, .int 0), (2, .int r1), (0, .ref d), (1, .int x1)]) hx hb dX2_roomsAheadOf_12 rfl hl (by decide) rfl (fun ls hl => ?_)
  refine lv_iconst (v := 0) hx hb dX2_roomsAheadOf_13 (by decide) ?_
  refine lv_istore (lv' := [(4, .int 0), (3, .int 0), (2, .int r1), (0, .ref d), (1, .int x1)]) hx hb dX2_roomsAheadOf_14 hl (by decide) rfl (fun ls hl => ?_)
  refine l16 x1 r1  _ 0 0 _ _ _ hF hP hS (lv_sub hl [3, 4, 2, 1, 0] rfl)
noncomputable def fX2_roomByUse_l8  (V : Vn) (x1 : Int32) : Nat → Int32 → Option (Int32) := fun fu => Nat.rec (motive := fun _ => Int32 → Option (Int32)) (fun _ => none) (fun _ ih => fun x2 => (fX6_size 44 4 11 (V.1)).bind fun r2 => if r2 ≤ x2 then (some (-9)) else ((fX2_roomsAheadOf V x2).bind fun r4 => if r4 = x1 then (some x2) else (nm (x2 + 1) fun v6 => ih v6))) fu
theorem fX2_roomByUse_l8_s  (V : Vn) (x1 : Int32) (fu : Nat) (x2 : Int32) : fX2_roomByUse_l8 V x1 (fu + 1) x2 = ((fX6_size 44 4 11 (V.1)).bind fun r2 => if r2 ≤ x2 then (some (-9)) else ((fX2_roomsAheadOf V x2).bind fun r4 => if r4 = x1 then (some x2) else (nm (x2 + 1) fun v6 => (fX2_roomByUse_l8 V x1 fu) v6))) := rfl
theorem fX2_roomByUse_l8_z  (V : Vn) (x1 : Int32) (x2 : Int32) : fX2_roomByUse_l8 V x1 0 x2 = none := rfl
noncomputable def fX2_roomByUse  (V : Vn) (x1 : Int32) : Option (Int32) := if 0 ≤ x1 then (fX2_roomByUse_l8 V x1 FU 0) else (some (-1))
abbrev vX2_roomByUse : List Cond := Cond.code yX2_roomByUse cX2_roomByUse 3 (some .int) :: BIG
theorem gX2_roomByUse {own : String} {idx : Nat} (h : (Cond.methodLink own idx yX2_roomByUse) ∈ BIG) : GoodIn BIG (wsV own idx RX2 yX2_roomByUse vX2_roomByUse) := gdV h bw4_12 bw4_13 bw1_8 bw4_14
def rmX2_roomByUse : Room := { frames := 2, cells := 0, slots := 0, locals := 49 }
theorem hdX2_roomByUse : yX2_roomByUse.cls = RX2 ∧ yX2_roomByUse.cls ≠ "java/lang/invoke/MethodHandle" ∧ yX2_roomByUse.cls ≠ "java/lang/invoke/VarHandle" ∧ (parseMethodDescriptor yX2_roomByUse.desc).map (fun d => d.parameters.length) = some 1 := by decide +kernel
set_option maxHeartbeats 4000000 in
set_option maxRecDepth 100000 in
theorem kX2_roomByUse (l : Launch) (D : va_G) (cS : ClassId) (g : Nat → Nat) (cI : ClassId) (d : Nat) (a : Nat → Nat) (V : Vn) (x1 : Int32) (r : Int32) (hF : fX2_roomByUse V x1 = some r) : mI l yX2_roomByUse vX2_roomByUse rmX2_roomByUse D cI cS g [.ref d, .int x1] (wOl cI d a V) r (wOl cI d a V) := by
  refine st_I rfl (by decide) (Nat.le_of_ble_eq_true rfl) ?_
  intro p e s m args below meth c A ls hx hb hr hml hlocks hown hts hA hK hD0 hG hP hS hl
  have hown : s.vm.findClass RX2 = some m.cls := hown
  have hDa : ∀ V, va_D A (wOl cI d a V) := fun V => hD0.adr rfl
  have htb : ∀ w ∈ BIG, w.before args s = true := fun w h => hts w (List.mem_cons_of_mem _ h)
  have hl : lv_has ls 3 [(0, .ref d), (1, .int x1)] := hl
  have l8 : ∀ (x1 : Int32) (fu : Nat) (x2 : Int32) (H : Heap) (locs : List Loc) (ls : Array Slot), fX2_roomByUse_l8 V x1 fu x2 = some r → va_P D vwCl (wOl cI d a V) H → va_S A s.heap H locs → lv_has ls 3 [(0, .ref d), (1, .int x1), (2, .int x2)] → W p l e rmX2_roomByUse s m args below meth c H locs 0 0 (MQ below (qI D r (wOl cI d a V) A) args s 0 0 A) (F0 m 8 ls []) := by
    intro x1  fu
    induction fu with
    | zero => intro x2 H locs ls hF; exact nn_use hF
    | succ fu ihn =>
      intro x2 H locs ls hF hP hS hl 
      rw [fX2_roomByUse_l8_s] at hF
      refine lv_iload_n hx hb dX2_roomByUse_8 rfl (lv_at hl 2 rfl) ?_
      refine lv_aload_n hx hb dX2_roomByUse_9 rfl (lv_at hl 0 rfl) ?_
      refine va_get (ci := 2) (v := .ref (a 1)) (C := RX2) (T := TX2) (N := 3) hx hb htb kin2 hown hK hP 0 (pOl_0 cI d a V) rfl 1 (by decide) (htb _ bw1_165) (fun _ h9 => h9) rfl dX2_roomByUse_10 ?_
      obtain ⟨r2, hr2, hF⟩ := bd_use hF
      refine cl_VI ⟨hx, hb, hml, hown, htb⟩ (kX6_size l D cS g cI (a 1) (a 2) 44 4 11 (V.1)  _ hr2) (cwV 0 htb (gX6_size bw3_223) rfl rfl rfl hdX6_size ⟨Nat.le_of_ble_eq_true rfl, Nat.le_of_ble_eq_true rfl⟩) hK (hDa _) hG hA hP hS (sr_Ol_rooms cI d a V) hl.1 rfl 0 (pTb_0 _ _ _ _ _ _ _) rfl rfl (Nat.le_of_ble_eq_true rfl) dX2_roomByUse_13 (fun H locs hP hS => ?_)
      refine lv_icmp_ge (tgt := 36) hx hb dX2_roomByUse_16 (by decide) (fun c3 => ?_) (fun c3 => ?_)
      · have hF := it_t hF c3
        refine lv_bipush (v := (-9)) hx hb dX2_roomByUse_36 (by decide) ?_
        exact rt_I hx hb hr hlocks hS hP (so_use hF) dX2_roomByUse_38
      · have hF := it_f hF c3
        refine lv_aload_n hx hb dX2_roomByUse_19 rfl (lv_at hl 0 rfl) ?_
        refine lv_iload_n hx hb dX2_roomByUse_20 rfl (lv_at hl 2 rfl) ?_
        obtain ⟨r4, hr4, hF⟩ := bd_use hF
        refine cl_VI ⟨hx, hb, hml, hown, htb⟩ (kX2_roomsAheadOf l D cS g cI d a V x2 _ hr4) (cwV 1 htb (gX2_roomsAheadOf bw4_15) rfl rfl rfl hdX2_roomsAheadOf ⟨Nat.le_of_ble_eq_true rfl, Nat.le_of_ble_eq_true rfl⟩) hK (hDa _) hG hA hP hS (sr_Ol_Ol cI d a V) hl.1 rfl 0 (pOl_0 _ _ _ _) rfl rfl (Nat.le_of_ble_eq_true rfl) dX2_roomByUse_21 (fun H locs hP hS => ?_)
        refine lv_iload_n hx hb dX2_roomByUse_24 rfl (lv_at hl 1 rfl) ?_
        refine lv_icmp_ne (tgt := 30) hx hb dX2_roomByUse_25 (by decide) (fun c5 => ?_) (fun c5 => ?_)
        · have hF := it_f hF c5
          obtain ⟨v6, ev6⟩ : ∃ z : Int32, z = x2 + 1 := ⟨_, rfl⟩
          refine lv_iinc (v := v6) (lv' := [(2, .int v6), (0, .ref d), (1, .int x1)]) hx hb dX2_roomByUse_30 hl (k := 2) rfl (by rw [ev6]; rfl) (by decide) rfl (fun ls hl => ?_)
          have hF := nm_use hF ev6
          refine lv_goto (tgt := 8) hx hb dX2_roomByUse_33 (by decide) ?_
          exact ihn v6 _ _ _ hF hP hS (lv_sub hl [1, 2, 0] rfl)
        · have hF := it_t hF c5
          refine lv_iload_n hx hb dX2_roomByUse_28 rfl (lv_at hl 2 rfl) ?_
          exact rt_I hx hb hr hlocks hS hP (so_use hF) dX2_roomByUse_29
  refine lv_iload_n hx hb dX2_roomByUse_0 rfl (lv_at hl 1 rfl) ?_
  refine lv_if_ge (tgt := 6) hx hb dX2_roomByUse_1 (by decide) (fun c1 => ?_) (fun c1 => ?_)
  · have hF := it_t hF c1
    refine lv_iconst (v := 0) hx hb dX2_roomByUse_6 (by decide) ?_
    refine lv_istore_n (lv' := [(2, .int 0), (0, .ref d), (1, .int x1)]) hx hb dX2_roomByUse_7 rfl hl (by decide) rfl (fun ls hl => ?_)
    refine l8 x1  _ 0 _ _ _ hF hP hS (lv_sub hl [1, 2, 0] rfl)
  · have hF := it_f hF c1
    refine lv_iconst (v := (-1)) hx hb dX2_roomByUse_4 (by decide) ?_
    exact rt_I hx hb hr hlocks hS hP (so_use hF) dX2_roomByUse_5

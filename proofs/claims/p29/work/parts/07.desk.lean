noncomputable def fX0_newRoom  (V : Vn) (x1 : Int32) (x2 : Int32) (x3 : Int32) (x4 : Int32) : Option (Int32 × Vn) := (fX8_inRange x1 20 120).bind fun r1 => if r1 = 0 then (some ((-1), V)) else ((fX8_inRange x2 0 60).bind fun r3 => if r3 = 0 then (some ((-1), V)) else ((fX8_inRange x3 1 200).bind fun r5 => if r5 = 0 then (some ((-1), V)) else ((fX8_inRange x4 2 8).bind fun r7 => if r7 = 0 then (some ((-1), V)) else ((fX6_isFull 44 4 11 (V.1)).bind fun r9 => if r9 = 0 then (b2 (fX6_addRow 44 4 11 (V.1)) fun r12 M11 => nm ((M11, V.2)) fun M13 => (fX6_put 44 4 11 (M13.1) r12 0 x1).bind fun M14 => nm ((M14, M13.2)) fun M15 => (fX6_put 44 4 11 (M15.1) r12 1 x2).bind fun M16 => nm ((M16, M15.2)) fun M17 => (fX6_put 44 4 11 (M17.1) r12 2 x3).bind fun M18 => nm ((M18, M17.2)) fun M19 => (fX6_put 44 4 11 (M19.1) r12 3 x4).bind fun M20 => nm ((M20, M19.2)) fun M21 => some (r12, M21)) else (some ((-3), V))))))
abbrev vX0_newRoom : List Cond := Cond.code yX0_newRoom cX0_newRoom 6 (some .int) :: BIG
theorem gX0_newRoom {own : String} {idx : Nat} (h : (Cond.methodLink own idx yX0_newRoom) ∈ BIG) : GoodIn BIG (wsV own idx RX0 yX0_newRoom vX0_newRoom) := gdV h bw2_77 bw2_78 bw1_7 bw2_79
def rmX0_newRoom : Room := { frames := 2, cells := 0, slots := 0, locals := 47 }
theorem hdX0_newRoom : yX0_newRoom.cls = RX0 ∧ yX0_newRoom.cls ≠ "java/lang/invoke/MethodHandle" ∧ yX0_newRoom.cls ≠ "java/lang/invoke/VarHandle" ∧ (parseMethodDescriptor yX0_newRoom.desc).map (fun d => d.parameters.length) = some 4 := by decide +kernel
set_option maxHeartbeats 4000000 in
set_option maxRecDepth 100000 in
theorem kX0_newRoom (l : Launch) (D : va_G) (cS : ClassId) (g : Nat → Nat) (cI : ClassId) (d : Nat) (a : Nat → Nat) (V : Vn) (x1 : Int32) (x2 : Int32) (x3 : Int32) (x4 : Int32) (r : Int32) (M' : Vn) (hF : fX0_newRoom V x1 x2 x3 x4 = some (r, M')) : mI l yX0_newRoom vX0_newRoom rmX0_newRoom D cI cS g [.ref d, .int x1, .int x2, .int x3, .int x4] (wDk cI d a V) r (wDk cI d a (M')) := by
  refine st_I rfl (by decide) (Nat.le_of_ble_eq_true rfl) ?_
  intro p e s m args below meth c A ls hx hb hr hml hlocks hown hts hA hK hD0 hG hP hS hl
  have hown : s.vm.findClass RX0 = some m.cls := hown
  have hDa : ∀ V, va_D A (wDk cI d a V) := fun V => hD0.adr rfl
  have htb : ∀ w ∈ BIG, w.before args s = true := fun w h => hts w (List.mem_cons_of_mem _ h)
  have hl : lv_has ls 6 [(0, .ref d), (1, .int x1), (2, .int x2), (3, .int x3), (4, .int x4)] := hl
  refine lv_iload_n hx hb dX0_newRoom_0 rfl (lv_at hl 1 rfl) ?_
  refine lv_bipush (v := 20) hx hb dX0_newRoom_1 (by decide) ?_
  refine lv_bipush (v := 120) hx hb dX0_newRoom_3 (by decide) ?_
  obtain ⟨r1, hr1, hF⟩ := bd_use hF
  refine cl_SNI ⟨hx, hb, hml, hown, htb⟩ (kX8_inRange l D cS g cI x1 20 120 _ hr1) ⟨va_cnB 3 htb gX8_inRange_n rfl rfl rfl hG.2.2.2.1 (htb _ bw1_1) hdX8_inRange ⟨Nat.le_of_ble_eq_true rfl, Nat.le_of_ble_eq_true rfl⟩, (htb _ bw1_229), trivial⟩ hK (hDa _) hG hA hP hS sg_nil hl.1 rfl rfl (Nat.le_of_ble_eq_true rfl) dX0_newRoom_5 (fun H locs hP hS => ?_)
  refine lv_if_eq (tgt := 43) hx hb dX0_newRoom_8 (by decide) (fun c2 => ?_) (fun c2 => ?_)
  · have hF := it_t hF c2
    refine lv_iconst (v := (-1)) hx hb dX0_newRoom_43 (by decide) ?_
    obtain ⟨er, eM⟩ := pr_use hF
    exact rt_I hx hb hr hlocks hS (by rw [← eM]; exact hP) er dX0_newRoom_44
  · have hF := it_f hF c2
    refine lv_iload_n hx hb dX0_newRoom_11 rfl (lv_at hl 2 rfl) ?_
    refine lv_iconst (v := 0) hx hb dX0_newRoom_12 (by decide) ?_
    refine lv_bipush (v := 60) hx hb dX0_newRoom_13 (by decide) ?_
    obtain ⟨r3, hr3, hF⟩ := bd_use hF
    refine cl_SNI ⟨hx, hb, hml, hown, htb⟩ (kX8_inRange l D cS g cI x2 0 60 _ hr3) ⟨va_cnB 3 htb gX8_inRange_n rfl rfl rfl hG.2.2.2.1 (htb _ bw1_1) hdX8_inRange ⟨Nat.le_of_ble_eq_true rfl, Nat.le_of_ble_eq_true rfl⟩, (htb _ bw1_229), trivial⟩ hK (hDa _) hG hA hP hS sg_nil hl.1 rfl rfl (Nat.le_of_ble_eq_true rfl) dX0_newRoom_15 (fun H locs hP hS => ?_)
    refine lv_if_eq (tgt := 43) hx hb dX0_newRoom_18 (by decide) (fun c4 => ?_) (fun c4 => ?_)
    · have hF := it_t hF c4
      refine lv_iconst (v := (-1)) hx hb dX0_newRoom_43 (by decide) ?_
      obtain ⟨er, eM⟩ := pr_use hF
      exact rt_I hx hb hr hlocks hS (by rw [← eM]; exact hP) er dX0_newRoom_44
    · have hF := it_f hF c4
      refine lv_iload_n hx hb dX0_newRoom_21 rfl (lv_at hl 3 rfl) ?_
      refine lv_iconst (v := 1) hx hb dX0_newRoom_22 (by decide) ?_
      refine lv_sipush (v := 200) hx hb dX0_newRoom_23 (by decide) ?_
      obtain ⟨r5, hr5, hF⟩ := bd_use hF
      refine cl_SNI ⟨hx, hb, hml, hown, htb⟩ (kX8_inRange l D cS g cI x3 1 200 _ hr5) ⟨va_cnB 3 htb gX8_inRange_n rfl rfl rfl hG.2.2.2.1 (htb _ bw1_1) hdX8_inRange ⟨Nat.le_of_ble_eq_true rfl, Nat.le_of_ble_eq_true rfl⟩, (htb _ bw1_229), trivial⟩ hK (hDa _) hG hA hP hS sg_nil hl.1 rfl rfl (Nat.le_of_ble_eq_true rfl) dX0_newRoom_26 (fun H locs hP hS => ?_)
      refine lv_if_eq (tgt := 43) hx hb dX0_newRoom_29 (by decide) (fun c6 => ?_) (fun c6 => ?_)
      · have hF := it_t hF c6
        refine lv_iconst (v := (-1)) hx hb dX0_newRoom_43 (by decide) ?_
        obtain ⟨er, eM⟩ := pr_use hF
        exact rt_I hx hb hr hlocks hS (by rw [← eM]; exact hP) er dX0_newRoom_44
      · have hF := it_f hF c6
        refine lv_iload hx hb dX0_newRoom_32 (lv_at hl 4 rfl) ?_
        refine lv_iconst (v := 2) hx hb dX0_newRoom_34 (by decide) ?_
        refine lv_bipush (v := 8) hx hb dX0_newRoom_35 (by decide) ?_
        obtain ⟨r7, hr7, hF⟩ := bd_use hF
        refine cl_SNI ⟨hx, hb, hml, hown, htb⟩ (kX8_inRange l D cS g cI x4 2 8 _ hr7) ⟨va_cnB 3 htb gX8_inRange_n rfl rfl rfl hG.2.2.2.1 (htb _ bw1_1) hdX8_inRange ⟨Nat.le_of_ble_eq_true rfl, Nat.le_of_ble_eq_true rfl⟩, (htb _ bw1_229), trivial⟩ hK (hDa _) hG hA hP hS sg_nil hl.1 rfl rfl (Nat.le_of_ble_eq_true rfl) dX0_newRoom_37 (fun H locs hP hS => ?_)
        refine lv_if_ne (tgt := 45) hx hb dX0_newRoom_40 (by decide) (fun c8 => ?_) (fun c8 => ?_)
        · have hF := it_f hF c8
          refine lv_aload_n hx hb dX0_newRoom_45 rfl (lv_at hl 0 rfl) ?_
          refine va_get (ci := 0) (v := .ref (a 1)) (C := RX0) (T := TX0) (N := 5) hx hb htb kin0 hown hK hP 0 (pDk_0 cI d a V) rfl 1 (by decide) (htb _ bw1_136) (fun _ h9 => h9) rfl dX0_newRoom_46 ?_
          obtain ⟨r9, hr9, hF⟩ := bd_use hF
          refine cl_VI ⟨hx, hb, hml, hown, htb⟩ (kX6_isFull l D cS g cI (a 1) (a 2) 44 4 11 (V.1)  _ hr9) (cwV 0 htb (gX6_isFull bw2_81) rfl rfl rfl hdX6_isFull ⟨Nat.le_of_ble_eq_true rfl, Nat.le_of_ble_eq_true rfl⟩) hK (hDa _) hG hA hP hS (sr_Dk_rooms cI d a V) hl.1 rfl 0 (pTb_0 _ _ _ _ _ _ _) rfl rfl (Nat.le_of_ble_eq_true rfl) dX0_newRoom_49 (fun H locs hP hS => ?_)
          refine lv_if_eq (tgt := 58) hx hb dX0_newRoom_52 (by decide) (fun c10 => ?_) (fun c10 => ?_)
          · have hF := it_t hF c10
            refine lv_aload_n hx hb dX0_newRoom_58 rfl (lv_at hl 0 rfl) ?_
            refine va_get (ci := 0) (v := .ref (a 1)) (C := RX0) (T := TX0) (N := 5) hx hb htb kin0 hown hK hP 0 (pDk_0 cI d a V) rfl 1 (by decide) (htb _ bw1_136) (fun _ h9 => h9) rfl dX0_newRoom_59 ?_
            obtain ⟨r12, M11, hM11, hF⟩ := b2_use hF
            refine cl_VI ⟨hx, hb, hml, hown, htb⟩ (kX6_addRow l D cS g cI (a 1) (a 2) 44 4 11 (V.1)  _ _ hM11) (cwV 0 htb (gX6_addRow bw2_82) rfl rfl rfl hdX6_addRow ⟨Nat.le_of_ble_eq_true rfl, Nat.le_of_ble_eq_true rfl⟩) hK (hDa _) hG hA hP hS (sg_Dk_rooms cI d a V M11) hl.1 rfl 0 (pTb_0 _ _ _ _ _ _ _) rfl rfl (Nat.le_of_ble_eq_true rfl) dX0_newRoom_62 (fun H locs hP hS => ?_)
            obtain ⟨M13, eM13⟩ : ∃ z : Vn, z = (M11, V.2) := ⟨_, rfl⟩
            have hF := nm_use hF eM13
            have hP : va_P D vwCl (wDk cI d a M13) H := by rw [eM13]; exact hP
            refine lv_istore (lv' := [(5, .int r12), (0, .ref d), (1, .int x1), (2, .int x2), (3, .int x3), (4, .int x4)]) hx hb dX0_newRoom_65 hl (by decide) rfl (fun ls hl => ?_)
            refine lv_aload_n hx hb dX0_newRoom_67 rfl (lv_at hl 1 rfl) ?_
            refine va_get (ci := 0) (v := .ref (a 1)) (C := RX0) (T := TX0) (N := 5) hx hb htb kin0 hown hK hP 0 (pDk_0 cI d a M13) rfl 1 (by decide) (htb _ bw1_136) (fun _ h9 => h9) rfl dX0_newRoom_68 ?_
            refine lv_iload hx hb dX0_newRoom_71 (lv_at hl 0 rfl) ?_
            refine lv_iconst (v := 0) hx hb dX0_newRoom_73 (by decide) ?_
            refine lv_iload_n hx hb dX0_newRoom_74 rfl (lv_at hl 2 rfl) ?_
            obtain ⟨M14, hM14, hF⟩ := bd_use hF
            refine cl_VV ⟨hx, hb, hml, hown, htb⟩ (kX6_put l D cS g cI (a 1) (a 2) 44 4 11 (M13.1) r12 0 x1 _ hM14) (cwV 3 htb (gX6_put bw2_83) rfl rfl rfl hdX6_put ⟨Nat.le_of_ble_eq_true rfl, Nat.le_of_ble_eq_true rfl⟩) hK (hDa _) hG hA hP hS (sg_Dk_rooms cI d a M13 M14) hl.1 rfl 0 (pTb_0 _ _ _ _ _ _ _) rfl rfl (Nat.le_of_ble_eq_true rfl) dX0_newRoom_75 (fun H locs hP hS => ?_)
            obtain ⟨M15, eM15⟩ : ∃ z : Vn, z = (M14, M13.2) := ⟨_, rfl⟩
            have hF := nm_use hF eM15
            have hP : va_P D vwCl (wDk cI d a M15) H := by rw [eM15]; exact hP
            refine lv_aload_n hx hb dX0_newRoom_78 rfl (lv_at hl 1 rfl) ?_
            refine va_get (ci := 0) (v := .ref (a 1)) (C := RX0) (T := TX0) (N := 5) hx hb htb kin0 hown hK hP 0 (pDk_0 cI d a M15) rfl 1 (by decide) (htb _ bw1_136) (fun _ h9 => h9) rfl dX0_newRoom_79 ?_
            refine lv_iload hx hb dX0_newRoom_82 (lv_at hl 0 rfl) ?_
            refine lv_iconst (v := 1) hx hb dX0_newRoom_84 (by decide) ?_
            refine lv_iload_n hx hb dX0_newRoom_85 rfl (lv_at hl 3 rfl) ?_
            obtain ⟨M16, hM16, hF⟩ := bd_use hF
            refine cl_VV ⟨hx, hb, hml, hown, htb⟩ (kX6_put l D cS g cI (a 1) (a 2) 44 4 11 (M15.1) r12 1 x2 _ hM16) (cwV 3 htb (gX6_put bw2_83) rfl rfl rfl hdX6_put ⟨Nat.le_of_ble_eq_true rfl, Nat.le_of_ble_eq_true rfl⟩) hK (hDa _) hG hA hP hS (sg_Dk_rooms cI d a M15 M16) hl.1 rfl 0 (pTb_0 _ _ _ _ _ _ _) rfl rfl (Nat.le_of_ble_eq_true rfl) dX0_newRoom_86 (fun H locs hP hS => ?_)
            obtain ⟨M17, eM17⟩ : ∃ z : Vn, z = (M16, M15.2) := ⟨_, rfl⟩
            have hF := nm_use hF eM17
            have hP : va_P D vwCl (wDk cI d a M17) H := by rw [eM17]; exact hP
            refine lv_aload_n hx hb dX0_newRoom_89 rfl (lv_at hl 1 rfl) ?_
            refine va_get (ci := 0) (v := .ref (a 1)) (C := RX0) (T := TX0) (N := 5) hx hb htb kin0 hown hK hP 0 (pDk_0 cI d a M17) rfl 1 (by decide) (htb _ bw1_136) (fun _ h9 => h9) rfl dX0_newRoom_90 ?_
            refine lv_iload hx hb dX0_newRoom_93 (lv_at hl 0 rfl) ?_
            refine lv_iconst (v := 2) hx hb dX0_newRoom_95 (by decide) ?_
            refine lv_iload_n hx hb dX0_newRoom_96 rfl (lv_at hl 4 rfl) ?_
            obtain ⟨M18, hM18, hF⟩ := bd_use hF
            refine cl_VV ⟨hx, hb, hml, hown, htb⟩ (kX6_put l D cS g cI (a 1) (a 2) 44 4 11 (M17.1) r12 2 x3 _ hM18) (cwV 3 htb (gX6_put bw2_83) rfl rfl rfl hdX6_put ⟨Nat.le_of_ble_eq_true rfl, Nat.le_of_ble_eq_true rfl⟩) hK (hDa _) hG hA hP hS (sg_Dk_rooms cI d a M17 M18) hl.1 rfl 0 (pTb_0 _ _ _ _ _ _ _) rfl rfl (Nat.le_of_ble_eq_true rfl) dX0_newRoom_97 (fun H locs hP hS => ?_)
            obtain ⟨M19, eM19⟩ : ∃ z : Vn, z = (M18, M17.2) := ⟨_, rfl⟩
            have hF := nm_use hF eM19
            have hP : va_P D vwCl (wDk cI d a M19) H := by rw [eM19]; exact hP
            refine lv_aload_n hx hb dX0_newRoom_100 rfl (lv_at hl 1 rfl) ?_
            refine va_get (ci := 0) (v := .ref (a 1)) (C := RX0) (T := TX0) (N := 5) hx hb htb kin0 hown hK hP 0 (pDk_0 cI d a M19) rfl 1 (by decide) (htb _ bw1_136) (fun _ h9 => h9) rfl dX0_newRoom_101 ?_
            refine lv_iload hx hb dX0_newRoom_104 (lv_at hl 0 rfl) ?_
            refine lv_iconst (v := 3) hx hb dX0_newRoom_106 (by decide) ?_
            refine lv_iload hx hb dX0_newRoom_107 (lv_at hl 5 rfl) ?_
            obtain ⟨M20, hM20, hF⟩ := bd_use hF
            refine cl_VV ⟨hx, hb, hml, hown, htb⟩ (kX6_put l D cS g cI (a 1) (a 2) 44 4 11 (M19.1) r12 3 x4 _ hM20) (cwV 3 htb (gX6_put bw2_83) rfl rfl rfl hdX6_put ⟨Nat.le_of_ble_eq_true rfl, Nat.le_of_ble_eq_true rfl⟩) hK (hDa _) hG hA hP hS (sg_Dk_rooms cI d a M19 M20) hl.1 rfl 0 (pTb_0 _ _ _ _ _ _ _) rfl rfl (Nat.le_of_ble_eq_true rfl) dX0_newRoom_109 (fun H locs hP hS => ?_)
            obtain ⟨M21, eM21⟩ : ∃ z : Vn, z = (M20, M19.2) := ⟨_, rfl⟩
            have hF := nm_use hF eM21
            have hP : va_P D vwCl (wDk cI d a M21) H := by rw [eM21]; exact hP
            refine lv_iload hx hb dX0_newRoom_112 (lv_at hl 0 rfl) ?_
            obtain ⟨er, eM⟩ := pr_use hF
            exact rt_I hx hb hr hlocks hS (by rw [← eM]; exact hP) er dX0_newRoom_114
          · have hF := it_f hF c10
            refine lv_bipush (v := (-3)) hx hb dX0_newRoom_55 (by decide) ?_
            obtain ⟨er, eM⟩ := pr_use hF
            exact rt_I hx hb hr hlocks hS (by rw [← eM]; exact hP) er dX0_newRoom_57
        · have hF := it_t hF c8
          refine lv_iconst (v := (-1)) hx hb dX0_newRoom_43 (by decide) ?_
          obtain ⟨er, eM⟩ := pr_use hF
          exact rt_I hx hb hr hlocks hS (by rw [← eM]; exact hP) er dX0_newRoom_44
noncomputable def fX0_changePrice  (V : Vn) (x1 : Int32) (x2 : Int32) : Option (Int32 × Vn) := (fX6_has 44 4 11 (V.1) x1).bind fun r1 => if r1 = 0 then (some ((-1), V)) else ((fX8_inRange x2 1 200).bind fun r3 => if r3 = 0 then (some ((-1), V)) else ((fX6_cell 44 4 11 (V.1) x1 2).bind fun r5 => (fX6_put 44 4 11 (V.1) x1 2 x2).bind fun M6 => nm ((M6, V.2)) fun M7 => some (r5, M7)))
abbrev vX0_changePrice : List Cond := Cond.code yX0_changePrice cX0_changePrice 4 (some .int) :: BIG
theorem gX0_changePrice {own : String} {idx : Nat} (h : (Cond.methodLink own idx yX0_changePrice) ∈ BIG) : GoodIn BIG (wsV own idx RX0 yX0_changePrice vX0_changePrice) := gdV h bw2_150 bw2_151 bw1_7 bw2_152
def rmX0_changePrice : Room := { frames := 1, cells := 0, slots := 0, locals := 25 }
theorem hdX0_changePrice : yX0_changePrice.cls = RX0 ∧ yX0_changePrice.cls ≠ "java/lang/invoke/MethodHandle" ∧ yX0_changePrice.cls ≠ "java/lang/invoke/VarHandle" ∧ (parseMethodDescriptor yX0_changePrice.desc).map (fun d => d.parameters.length) = some 2 := by decide +kernel
set_option maxHeartbeats 4000000 in
set_option maxRecDepth 100000 in
theorem kX0_changePrice (l : Launch) (D : va_G) (cS : ClassId) (g : Nat → Nat) (cI : ClassId) (d : Nat) (a : Nat → Nat) (V : Vn) (x1 : Int32) (x2 : Int32) (r : Int32) (M' : Vn) (hF : fX0_changePrice V x1 x2 = some (r, M')) : mI l yX0_changePrice vX0_changePrice rmX0_changePrice D cI cS g [.ref d, .int x1, .int x2] (wDk cI d a V) r (wDk cI d a (M')) := by
  refine st_I rfl (by decide) (Nat.le_of_ble_eq_true rfl) ?_
  intro p e s m args below meth c A ls hx hb hr hml hlocks hown hts hA hK hD0 hG hP hS hl
  have hown : s.vm.findClass RX0 = some m.cls := hown
  have hDa : ∀ V, va_D A (wDk cI d a V) := fun V => hD0.adr rfl
  have htb : ∀ w ∈ BIG, w.before args s = true := fun w h => hts w (List.mem_cons_of_mem _ h)
  have hl : lv_has ls 4 [(0, .ref d), (1, .int x1), (2, .int x2)] := hl
  refine lv_aload_n hx hb dX0_changePrice_0 rfl (lv_at hl 0 rfl) ?_
  refine va_get (ci := 0) (v := .ref (a 1)) (C := RX0) (T := TX0) (N := 5) hx hb htb kin0 hown hK hP 0 (pDk_0 cI d a V) rfl 1 (by decide) (htb _ bw1_136) (fun _ h9 => h9) rfl dX0_changePrice_1 ?_
  refine lv_iload_n hx hb dX0_changePrice_4 rfl (lv_at hl 1 rfl) ?_
  obtain ⟨r1, hr1, hF⟩ := bd_use hF
  refine cl_VI ⟨hx, hb, hml, hown, htb⟩ (kX6_has l D cS g cI (a 1) (a 2) 44 4 11 (V.1) x1 _ hr1) (cwV 1 htb (gX6_has bw2_111) rfl rfl rfl hdX6_has ⟨Nat.le_of_ble_eq_true rfl, Nat.le_of_ble_eq_true rfl⟩) hK (hDa _) hG hA hP hS (sr_Dk_rooms cI d a V) hl.1 rfl 0 (pTb_0 _ _ _ _ _ _ _) rfl rfl (Nat.le_of_ble_eq_true rfl) dX0_changePrice_5 (fun H locs hP hS => ?_)
  refine lv_if_eq (tgt := 22) hx hb dX0_changePrice_8 (by decide) (fun c2 => ?_) (fun c2 => ?_)
  · have hF := it_t hF c2
    refine lv_iconst (v := (-1)) hx hb dX0_changePrice_22 (by decide) ?_
    obtain ⟨er, eM⟩ := pr_use hF
    exact rt_I hx hb hr hlocks hS (by rw [← eM]; exact hP) er dX0_changePrice_23
  · have hF := it_f hF c2
    refine lv_iload_n hx hb dX0_changePrice_11 rfl (lv_at hl 2 rfl) ?_
    refine lv_iconst (v := 1) hx hb dX0_changePrice_12 (by decide) ?_
    refine lv_sipush (v := 200) hx hb dX0_changePrice_13 (by decide) ?_
    obtain ⟨r3, hr3, hF⟩ := bd_use hF
    refine cl_SNI ⟨hx, hb, hml, hown, htb⟩ (kX8_inRange l D cS g cI x2 1 200 _ hr3) ⟨va_cnB 3 htb gX8_inRange_n rfl rfl rfl hG.2.2.2.1 (htb _ bw1_1) hdX8_inRange ⟨Nat.le_of_ble_eq_true rfl, Nat.le_of_ble_eq_true rfl⟩, (htb _ bw1_229), trivial⟩ hK (hDa _) hG hA hP hS sg_nil hl.1 rfl rfl (Nat.le_of_ble_eq_true rfl) dX0_changePrice_16 (fun H locs hP hS => ?_)
    refine lv_if_ne (tgt := 24) hx hb dX0_changePrice_19 (by decide) (fun c4 => ?_) (fun c4 => ?_)
    · have hF := it_f hF c4
      refine lv_aload_n hx hb dX0_changePrice_24 rfl (lv_at hl 0 rfl) ?_
      refine va_get (ci := 0) (v := .ref (a 1)) (C := RX0) (T := TX0) (N := 5) hx hb htb kin0 hown hK hP 0 (pDk_0 cI d a V) rfl 1 (by decide) (htb _ bw1_136) (fun _ h9 => h9) rfl dX0_changePrice_25 ?_
      refine lv_iload_n hx hb dX0_changePrice_28 rfl (lv_at hl 1 rfl) ?_
      refine lv_iconst (v := 2) hx hb dX0_changePrice_29 (by decide) ?_
      obtain ⟨r5, hr5, hF⟩ := bd_use hF
      refine cl_VI ⟨hx, hb, hml, hown, htb⟩ (kX6_cell l D cS g cI (a 1) (a 2) 44 4 11 (V.1) x1 2 _ hr5) (cwV 2 htb (gX6_cell bw2_115) rfl rfl rfl hdX6_cell ⟨Nat.le_of_ble_eq_true rfl, Nat.le_of_ble_eq_true rfl⟩) hK (hDa _) hG hA hP hS (sr_Dk_rooms cI d a V) hl.1 rfl 0 (pTb_0 _ _ _ _ _ _ _) rfl rfl (Nat.le_of_ble_eq_true rfl) dX0_changePrice_30 (fun H locs hP hS => ?_)
      refine lv_istore_n (lv' := [(3, .int r5), (0, .ref d), (1, .int x1), (2, .int x2)]) hx hb dX0_changePrice_33 rfl hl (by decide) rfl (fun ls hl => ?_)
      refine lv_aload_n hx hb dX0_changePrice_34 rfl (lv_at hl 1 rfl) ?_
      refine va_get (ci := 0) (v := .ref (a 1)) (C := RX0) (T := TX0) (N := 5) hx hb htb kin0 hown hK hP 0 (pDk_0 cI d a V) rfl 1 (by decide) (htb _ bw1_136) (fun _ h9 => h9) rfl dX0_changePrice_35 ?_
      refine lv_iload_n hx hb dX0_changePrice_38 rfl (lv_at hl 2 rfl) ?_
      refine lv_iconst (v := 2) hx hb dX0_changePrice_39 (by decide) ?_
      refine lv_iload_n hx hb dX0_changePrice_40 rfl (lv_at hl 3 rfl) ?_
      obtain ⟨M6, hM6, hF⟩ := bd_use hF
      refine cl_VV ⟨hx, hb, hml, hown, htb⟩ (kX6_put l D cS g cI (a 1) (a 2) 44 4 11 (V.1) x1 2 x2 _ hM6) (cwV 3 htb (gX6_put bw2_83) rfl rfl rfl hdX6_put ⟨Nat.le_of_ble_eq_true rfl, Nat.le_of_ble_eq_true rfl⟩) hK (hDa _) hG hA hP hS (sg_Dk_rooms cI d a V M6) hl.1 rfl 0 (pTb_0 _ _ _ _ _ _ _) rfl rfl (Nat.le_of_ble_eq_true rfl) dX0_changePrice_41 (fun H locs hP hS => ?_)
      obtain ⟨M7, eM7⟩ : ∃ z : Vn, z = (M6, V.2) := ⟨_, rfl⟩
      have hF := nm_use hF eM7
      have hP : va_P D vwCl (wDk cI d a M7) H := by rw [eM7]; exact hP
      refine lv_iload_n hx hb dX0_changePrice_44 rfl (lv_at hl 0 rfl) ?_
      obtain ⟨er, eM⟩ := pr_use hF
      exact rt_I hx hb hr hlocks hS (by rw [← eM]; exact hP) er dX0_changePrice_45
    · have hF := it_t hF c4
      refine lv_iconst (v := (-1)) hx hb dX0_changePrice_22 (by decide) ?_
      obtain ⟨er, eM⟩ := pr_use hF
      exact rt_I hx hb hr hlocks hS (by rw [← eM]; exact hP) er dX0_changePrice_23
noncomputable def fX0_changeSetting  (V : Vn) (x1 : Int32) (x2 : Int32) : Option (Int32 × Vn) := if x1 < 0 then (some ((-1), V)) else (if 5 ≤ x1 then (some ((-1), V)) else (Rd (fun j => mstS.getD j 0) 5 x1 fun v3 => (fX8_inRange x2 0 v3).bind fun r4 => if r4 = 0 then (some ((-1), V)) else ((fX7_setting V x1).bind fun r6 => (fX6_put 5 5 1 (V.2.2.2.2.1) x1 0 x2).bind fun M7 => nm ((V.1, V.2.1, V.2.2.1, V.2.2.2.1, M7, V.2.2.2.2.2)) fun M8 => some (r6, M8))))
abbrev vX0_changeSetting : List Cond := Cond.code yX0_changeSetting cX0_changeSetting 4 (some .int) :: BIG
theorem gX0_changeSetting {own : String} {idx : Nat} (h : (Cond.methodLink own idx yX0_changeSetting) ∈ BIG) : GoodIn BIG (wsV own idx RX0 yX0_changeSetting vX0_changeSetting) := gdV h bw2_158 bw2_159 bw1_7 bw2_160
def rmX0_changeSetting : Room := { frames := 2, cells := 0, slots := 0, locals := 45 }
theorem hdX0_changeSetting : yX0_changeSetting.cls = RX0 ∧ yX0_changeSetting.cls ≠ "java/lang/invoke/MethodHandle" ∧ yX0_changeSetting.cls ≠ "java/lang/invoke/VarHandle" ∧ (parseMethodDescriptor yX0_changeSetting.desc).map (fun d => d.parameters.length) = some 2 := by decide +kernel
set_option maxHeartbeats 4000000 in
set_option maxRecDepth 100000 in
theorem kX0_changeSetting (l : Launch) (D : va_G) (cS : ClassId) (g : Nat → Nat) (cI : ClassId) (d : Nat) (a : Nat → Nat) (V : Vn) (x1 : Int32) (x2 : Int32) (r : Int32) (M' : Vn) (hF : fX0_changeSetting V x1 x2 = some (r, M')) : mI l yX0_changeSetting vX0_changeSetting rmX0_changeSetting D cI cS g [.ref d, .int x1, .int x2] (wDk cI d a V) r (wDk cI d a (M')) := by
  refine st_I rfl (by decide) (Nat.le_of_ble_eq_true rfl) ?_
  intro p e s m args below meth c A ls hx hb hr hml hlocks hown hts hA hK hD0 hG hP hS hl
  have hown : s.vm.findClass RX0 = some m.cls := hown
  have hDa : ∀ V, va_D A (wDk cI d a V) := fun V => hD0.adr rfl
  have htb : ∀ w ∈ BIG, w.before args s = true := fun w h => hts w (List.mem_cons_of_mem _ h)
  have hl : lv_has ls 4 [(0, .ref d), (1, .int x1), (2, .int x2)] := hl
  refine lv_iload_n hx hb dX0_changeSetting_0 rfl (lv_at hl 1 rfl) ?_
  refine lv_if_lt (tgt := 25) hx hb dX0_changeSetting_1 (by decide) (fun c1 => ?_) (fun c1 => ?_)
  · have hF := it_t hF c1
    refine lv_iconst (v := (-1)) hx hb dX0_changeSetting_25 (by decide) ?_
    obtain ⟨er, eM⟩ := pr_use hF
    exact rt_I hx hb hr hlocks hS (by rw [← eM]; exact hP) er dX0_changeSetting_26
  · have hF := it_f hF c1
    refine lv_iload_n hx hb dX0_changeSetting_4 rfl (lv_at hl 1 rfl) ?_
    refine va_getsN hx hb hG.2.1.1 hS hown (va_Nw.use rfl hG.2.2.2.2.1) (fun _ h9 => h9) dX0_changeSetting_5 ?_
    refine va_tlen (v := 5) hx hb hG.2.1.2 hS rfl dX0_changeSetting_8 ?_
    refine lv_icmp_ge (tgt := 25) hx hb dX0_changeSetting_9 (by decide) (fun c2 => ?_) (fun c2 => ?_)
    · have hF := it_t hF c2
      refine lv_iconst (v := (-1)) hx hb dX0_changeSetting_25 (by decide) ?_
      obtain ⟨er, eM⟩ := pr_use hF
      exact rt_I hx hb hr hlocks hS (by rw [← eM]; exact hP) er dX0_changeSetting_26
    · have hF := it_f hF c2
      refine lv_iload_n hx hb dX0_changeSetting_12 rfl (lv_at hl 2 rfl) ?_
      refine lv_iconst (v := 0) hx hb dX0_changeSetting_13 (by decide) ?_
      refine va_getsN hx hb hG.2.1.1 hS hown (va_Nw.use rfl hG.2.2.2.2.1) (fun _ h9 => h9) dX0_changeSetting_14 ?_
      refine lv_iload_n hx hb dX0_changeSetting_17 rfl (lv_at hl 1 rfl) ?_
      obtain ⟨hi, hF⟩ := rd_use hF
      refine va_ti hx hb hG.2.1.2 hS hi rfl dX0_changeSetting_18 ?_
      refine lv_topi (x := (fun j => mstS.getD j 0) (x1 : Int32).toNatClampNeg) (fun v3 ev3 => ?_)
      have hF := hF v3 ev3
      obtain ⟨r4, hr4, hF⟩ := bd_use hF
      refine cl_SNI ⟨hx, hb, hml, hown, htb⟩ (kX8_inRange l D cS g cI x2 0 v3 _ hr4) ⟨va_cnB 3 htb gX8_inRange_n rfl rfl rfl hG.2.2.2.1 (htb _ bw1_1) hdX8_inRange ⟨Nat.le_of_ble_eq_true rfl, Nat.le_of_ble_eq_true rfl⟩, (htb _ bw1_229), trivial⟩ hK (hDa _) hG hA hP hS sg_nil hl.1 rfl rfl (Nat.le_of_ble_eq_true rfl) dX0_changeSetting_19 (fun H locs hP hS => ?_)
      refine lv_if_ne (tgt := 27) hx hb dX0_changeSetting_22 (by decide) (fun c5 => ?_) (fun c5 => ?_)
      · have hF := it_f hF c5
        refine lv_aload_n hx hb dX0_changeSetting_27 rfl (lv_at hl 0 rfl) ?_
        refine va_get (ci := 0) (v := .ref (a 0)) (C := RX0) (T := TX0) (N := 5) hx hb htb kin0 hown hK hP 0 (pDk_0 cI d a V) rfl 0 (by decide) (htb _ bw1_135) (fun _ h9 => h9) rfl dX0_changeSetting_28 ?_
        refine lv_iload_n hx hb dX0_changeSetting_31 rfl (lv_at hl 1 rfl) ?_
        obtain ⟨r6, hr6, hF⟩ := bd_use hF
        refine cl_VI ⟨hx, hb, hml, hown, htb⟩ (kX7_setting l D cS g cI a V x1 _ hr6) (cwV 1 htb (gX7_setting bw2_163) rfl rfl rfl hdX7_setting ⟨Nat.le_of_ble_eq_true rfl, Nat.le_of_ble_eq_true rfl⟩) hK (hDa _) hG hA hP hS (sr_Dk_Vn cI d a V) hl.1 rfl 0 (pVn_0 _ _ _) rfl rfl (Nat.le_of_ble_eq_true rfl) dX0_changeSetting_32 (fun H locs hP hS => ?_)
        refine lv_istore_n (lv' := [(3, .int r6), (0, .ref d), (1, .int x1), (2, .int x2)]) hx hb dX0_changeSetting_35 rfl hl (by decide) rfl (fun ls hl => ?_)
        refine lv_aload_n hx hb dX0_changeSetting_36 rfl (lv_at hl 1 rfl) ?_
        refine va_get (ci := 0) (v := .ref (a 0)) (C := RX0) (T := TX0) (N := 5) hx hb htb kin0 hown hK hP 0 (pDk_0 cI d a V) rfl 0 (by decide) (htb _ bw1_135) (fun _ h9 => h9) rfl dX0_changeSetting_37 ?_
        refine va_get (ci := 7) (v := .ref (a 9)) (C := RX7) (T := TX7) (N := 6) hx hb htb kin7 hown hK hP 1 (pDk_1 cI d a V) rfl 4 (by decide) (htb _ bw1_85) (fun _ h9 => h9) rfl dX0_changeSetting_40 ?_
        refine lv_iload_n hx hb dX0_changeSetting_43 rfl (lv_at hl 2 rfl) ?_
        refine lv_iconst (v := 0) hx hb dX0_changeSetting_44 (by decide) ?_
        refine lv_iload_n hx hb dX0_changeSetting_45 rfl (lv_at hl 3 rfl) ?_
        obtain ⟨M7, hM7, hF⟩ := bd_use hF
        refine cl_VV ⟨hx, hb, hml, hown, htb⟩ (kX6_put l D cS g cI (a 9) (a 10) 5 5 1 (V.2.2.2.2.1) x1 0 x2 _ hM7) (cwV 3 htb (gX6_put bw2_83) rfl rfl rfl hdX6_put ⟨Nat.le_of_ble_eq_true rfl, Nat.le_of_ble_eq_true rfl⟩) hK (hDa _) hG hA hP hS (sg_Dk_settings cI d a V M7) hl.1 rfl 0 (pTb_0 _ _ _ _ _ _ _) rfl rfl (Nat.le_of_ble_eq_true rfl) dX0_changeSetting_46 (fun H locs hP hS => ?_)
        obtain ⟨M8, eM8⟩ : ∃ z : Vn, z = (V.1, V.2.1, V.2.2.1, V.2.2.2.1, M7, V.2.2.2.2.2) := ⟨_, rfl⟩
        have hF := nm_use hF eM8
        have hP : va_P D vwCl (wDk cI d a M8) H := by rw [eM8]; exact hP
        refine lv_iload_n hx hb dX0_changeSetting_49 rfl (lv_at hl 0 rfl) ?_
        obtain ⟨er, eM⟩ := pr_use hF
        exact rt_I hx hb hr hlocks hS (by rw [← eM]; exact hP) er dX0_changeSetting_50
      · have hF := it_t hF c5
        refine lv_iconst (v := (-1)) hx hb dX0_changeSetting_25 (by decide) ?_
        obtain ⟨er, eM⟩ := pr_use hF
        exact rt_I hx hb hr hlocks hS (by rw [← eM]; exact hP) er dX0_changeSetting_26
noncomputable def fX0_newVoucher  (V : Vn) (x1 : Int32) : Option (Int32 × Vn) := (fX8_inRange x1 1 500).bind fun r1 => if r1 = 0 then (some ((-1), V)) else ((fX6_isFull 16 8 2 (V.2.2.1)).bind fun r3 => if r3 = 0 then (b2 (fX6_addRow 16 8 2 (V.2.2.1)) fun r6 M5 => nm ((V.1, V.2.1, M5, V.2.2.2)) fun M7 => (fX6_put 16 8 2 (M7.2.2.1) r6 0 x1).bind fun M8 => nm ((M7.1, M7.2.1, M8, M7.2.2.2)) fun M9 => (fX6_put 16 8 2 (M9.2.2.1) r6 1 x1).bind fun M10 => nm ((M9.1, M9.2.1, M10, M9.2.2.2)) fun M11 => nm ((M11.2.2.2.2.2) + x1) fun v12 => nm ((M11.1, M11.2.1, M11.2.2.1, M11.2.2.2.1, M11.2.2.2.2.1, v12)) fun M13 => some (r6, M13)) else (some ((-3), V)))
abbrev vX0_newVoucher : List Cond := Cond.code yX0_newVoucher cX0_newVoucher 3 (some .int) :: BIG
theorem gX0_newVoucher {own : String} {idx : Nat} (h : (Cond.methodLink own idx yX0_newVoucher) ∈ BIG) : GoodIn BIG (wsV own idx RX0 yX0_newVoucher vX0_newVoucher) := gdV h bw2_97 bw2_98 bw1_7 bw2_99
def rmX0_newVoucher : Room := { frames := 2, cells := 0, slots := 0, locals := 47 }
theorem hdX0_newVoucher : yX0_newVoucher.cls = RX0 ∧ yX0_newVoucher.cls ≠ "java/lang/invoke/MethodHandle" ∧ yX0_newVoucher.cls ≠ "java/lang/invoke/VarHandle" ∧ (parseMethodDescriptor yX0_newVoucher.desc).map (fun d => d.parameters.length) = some 1 := by decide +kernel
set_option maxHeartbeats 4000000 in
set_option maxRecDepth 100000 in
theorem kX0_newVoucher (l : Launch) (D : va_G) (cS : ClassId) (g : Nat → Nat) (cI : ClassId) (d : Nat) (a : Nat → Nat) (V : Vn) (x1 : Int32) (r : Int32) (M' : Vn) (hF : fX0_newVoucher V x1 = some (r, M')) : mI l yX0_newVoucher vX0_newVoucher rmX0_newVoucher D cI cS g [.ref d, .int x1] (wDk cI d a V) r (wDk cI d a (M')) := by
  refine st_I rfl (by decide) (Nat.le_of_ble_eq_true rfl) ?_
  intro p e s m args below meth c A ls hx hb hr hml hlocks hown hts hA hK hD0 hG hP hS hl
  have hown : s.vm.findClass RX0 = some m.cls := hown
  have hDa : ∀ V, va_D A (wDk cI d a V) := fun V => hD0.adr rfl
  have htb : ∀ w ∈ BIG, w.before args s = true := fun w h => hts w (List.mem_cons_of_mem _ h)
  have hl : lv_has ls 3 [(0, .ref d), (1, .int x1)] := hl
  refine lv_iload_n hx hb dX0_newVoucher_0 rfl (lv_at hl 1 rfl) ?_
  refine lv_iconst (v := 1) hx hb dX0_newVoucher_1 (by decide) ?_
  refine lv_sipush (v := 500) hx hb dX0_newVoucher_2 (by decide) ?_
  obtain ⟨r1, hr1, hF⟩ := bd_use hF
  refine cl_SNI ⟨hx, hb, hml, hown, htb⟩ (kX8_inRange l D cS g cI x1 1 500 _ hr1) ⟨va_cnB 3 htb gX8_inRange_n rfl rfl rfl hG.2.2.2.1 (htb _ bw1_1) hdX8_inRange ⟨Nat.le_of_ble_eq_true rfl, Nat.le_of_ble_eq_true rfl⟩, (htb _ bw1_229), trivial⟩ hK (hDa _) hG hA hP hS sg_nil hl.1 rfl rfl (Nat.le_of_ble_eq_true rfl) dX0_newVoucher_5 (fun H locs hP hS => ?_)
  refine lv_if_ne (tgt := 13) hx hb dX0_newVoucher_8 (by decide) (fun c2 => ?_) (fun c2 => ?_)
  · have hF := it_f hF c2
    refine lv_aload_n hx hb dX0_newVoucher_13 rfl (lv_at hl 0 rfl) ?_
    refine va_get (ci := 0) (v := .ref (a 5)) (C := RX0) (T := TX0) (N := 5) hx hb htb kin0 hown hK hP 0 (pDk_0 cI d a V) rfl 3 (by decide) (htb _ bw1_138) (fun _ h9 => h9) rfl dX0_newVoucher_14 ?_
    obtain ⟨r3, hr3, hF⟩ := bd_use hF
    refine cl_VI ⟨hx, hb, hml, hown, htb⟩ (kX6_isFull l D cS g cI (a 5) (a 6) 16 8 2 (V.2.2.1)  _ hr3) (cwV 0 htb (gX6_isFull bw2_81) rfl rfl rfl hdX6_isFull ⟨Nat.le_of_ble_eq_true rfl, Nat.le_of_ble_eq_true rfl⟩) hK (hDa _) hG hA hP hS (sr_Dk_vouchers cI d a V) hl.1 rfl 0 (pTb_0 _ _ _ _ _ _ _) rfl rfl (Nat.le_of_ble_eq_true rfl) dX0_newVoucher_17 (fun H locs hP hS => ?_)
    refine lv_if_eq (tgt := 26) hx hb dX0_newVoucher_20 (by decide) (fun c4 => ?_) (fun c4 => ?_)
    · have hF := it_t hF c4
      refine lv_aload_n hx hb dX0_newVoucher_26 rfl (lv_at hl 0 rfl) ?_
      refine va_get (ci := 0) (v := .ref (a 5)) (C := RX0) (T := TX0) (N := 5) hx hb htb kin0 hown hK hP 0 (pDk_0 cI d a V) rfl 3 (by decide) (htb _ bw1_138) (fun _ h9 => h9) rfl dX0_newVoucher_27 ?_
      obtain ⟨r6, M5, hM5, hF⟩ := b2_use hF
      refine cl_VI ⟨hx, hb, hml, hown, htb⟩ (kX6_addRow l D cS g cI (a 5) (a 6) 16 8 2 (V.2.2.1)  _ _ hM5) (cwV 0 htb (gX6_addRow bw2_82) rfl rfl rfl hdX6_addRow ⟨Nat.le_of_ble_eq_true rfl, Nat.le_of_ble_eq_true rfl⟩) hK (hDa _) hG hA hP hS (sg_Dk_vouchers cI d a V M5) hl.1 rfl 0 (pTb_0 _ _ _ _ _ _ _) rfl rfl (Nat.le_of_ble_eq_true rfl) dX0_newVoucher_30 (fun H locs hP hS => ?_)
      obtain ⟨M7, eM7⟩ : ∃ z : Vn, z = (V.1, V.2.1, M5, V.2.2.2) := ⟨_, rfl⟩
      have hF := nm_use hF eM7
      have hP : va_P D vwCl (wDk cI d a M7) H := by rw [eM7]; exact hP
      refine lv_istore_n (lv' := [(2, .int r6), (0, .ref d), (1, .int x1)]) hx hb dX0_newVoucher_33 rfl hl (by decide) rfl (fun ls hl => ?_)
      refine lv_aload_n hx hb dX0_newVoucher_34 rfl (lv_at hl 1 rfl) ?_
      refine va_get (ci := 0) (v := .ref (a 5)) (C := RX0) (T := TX0) (N := 5) hx hb htb kin0 hown hK hP 0 (pDk_0 cI d a M7) rfl 3 (by decide) (htb _ bw1_138) (fun _ h9 => h9) rfl dX0_newVoucher_35 ?_
      refine lv_iload_n hx hb dX0_newVoucher_38 rfl (lv_at hl 0 rfl) ?_
      refine lv_iconst (v := 0) hx hb dX0_newVoucher_39 (by decide) ?_
      refine lv_iload_n hx hb dX0_newVoucher_40 rfl (lv_at hl 2 rfl) ?_
      obtain ⟨M8, hM8, hF⟩ := bd_use hF
      refine cl_VV ⟨hx, hb, hml, hown, htb⟩ (kX6_put l D cS g cI (a 5) (a 6) 16 8 2 (M7.2.2.1) r6 0 x1 _ hM8) (cwV 3 htb (gX6_put bw2_83) rfl rfl rfl hdX6_put ⟨Nat.le_of_ble_eq_true rfl, Nat.le_of_ble_eq_true rfl⟩) hK (hDa _) hG hA hP hS (sg_Dk_vouchers cI d a M7 M8) hl.1 rfl 0 (pTb_0 _ _ _ _ _ _ _) rfl rfl (Nat.le_of_ble_eq_true rfl) dX0_newVoucher_41 (fun H locs hP hS => ?_)
      obtain ⟨M9, eM9⟩ : ∃ z : Vn, z = (M7.1, M7.2.1, M8, M7.2.2.2) := ⟨_, rfl⟩
      have hF := nm_use hF eM9
      have hP : va_P D vwCl (wDk cI d a M9) H := by rw [eM9]; exact hP
      refine lv_aload_n hx hb dX0_newVoucher_44 rfl (lv_at hl 1 rfl) ?_
      refine va_get (ci := 0) (v := .ref (a 5)) (C := RX0) (T := TX0) (N := 5) hx hb htb kin0 hown hK hP 0 (pDk_0 cI d a M9) rfl 3 (by decide) (htb _ bw1_138) (fun _ h9 => h9) rfl dX0_newVoucher_45 ?_
      refine lv_iload_n hx hb dX0_newVoucher_48 rfl (lv_at hl 0 rfl) ?_
      refine lv_iconst (v := 1) hx hb dX0_newVoucher_49 (by decide) ?_
      refine lv_iload_n hx hb dX0_newVoucher_50 rfl (lv_at hl 2 rfl) ?_
      obtain ⟨M10, hM10, hF⟩ := bd_use hF
      refine cl_VV ⟨hx, hb, hml, hown, htb⟩ (kX6_put l D cS g cI (a 5) (a 6) 16 8 2 (M9.2.2.1) r6 1 x1 _ hM10) (cwV 3 htb (gX6_put bw2_83) rfl rfl rfl hdX6_put ⟨Nat.le_of_ble_eq_true rfl, Nat.le_of_ble_eq_true rfl⟩) hK (hDa _) hG hA hP hS (sg_Dk_vouchers cI d a M9 M10) hl.1 rfl 0 (pTb_0 _ _ _ _ _ _ _) rfl rfl (Nat.le_of_ble_eq_true rfl) dX0_newVoucher_51 (fun H locs hP hS => ?_)
      obtain ⟨M11, eM11⟩ : ∃ z : Vn, z = (M9.1, M9.2.1, M10, M9.2.2.2) := ⟨_, rfl⟩
      have hF := nm_use hF eM11
      have hP : va_P D vwCl (wDk cI d a M11) H := by rw [eM11]; exact hP
      refine lv_aload_n hx hb dX0_newVoucher_54 rfl (lv_at hl 1 rfl) ?_
      refine va_get (ci := 0) (v := .ref (a 0)) (C := RX0) (T := TX0) (N := 5) hx hb htb kin0 hown hK hP 0 (pDk_0 cI d a M11) rfl 0 (by decide) (htb _ bw1_135) (fun _ h9 => h9) rfl dX0_newVoucher_55 ?_
      refine lv_dup hx hb dX0_newVoucher_58 rfl ?_
      refine va_get (ci := 7) (v := .int (M11.2.2.2.2.2)) (C := RX7) (T := TX7) (N := 6) hx hb htb kin7 hown hK hP 1 (pDk_1 cI d a M11) rfl 5 (by decide) (htb _ bw1_87) (fun _ h9 => h9) rfl dX0_newVoucher_59 ?_
      refine lv_iload_n hx hb dX0_newVoucher_62 rfl (lv_at hl 2 rfl) ?_
      refine lv_iadd hx hb dX0_newVoucher_63 ?_
      refine lv_topi (fun v12 ev12 => ?_)
      have hF := nm_use hF ev12
      refine va_put (ci := 7) (v := .int v12) (ty := .int) (C := RX7) (T := TX7) (N := 6) hx hb htb kin7 tyX7 tyX7_ok nmX7 hown hK hP (hDa _) hS 1 (pDk_1 cI d a M11) rfl 5 (by decide) (htb _ bw1_87) (fun _ h9 => h9) rfl (by decide +kernel) rfl rfl (Nat.le_of_ble_eq_true rfl) dX0_newVoucher_64 (fun H locs hP _ hS => ?_)
      obtain ⟨M13, eM13⟩ : ∃ z : Vn, z = (M11.1, M11.2.1, M11.2.2.1, M11.2.2.2.1, M11.2.2.2.2.1, v12) := ⟨_, rfl⟩
      have hF := nm_use hF eM13
      have hP : va_P D vwCl (wDk cI d a M13) H := by rw [eM13]; exact hP
      refine lv_iload_n hx hb dX0_newVoucher_67 rfl (lv_at hl 0 rfl) ?_
      obtain ⟨er, eM⟩ := pr_use hF
      exact rt_I hx hb hr hlocks hS (by rw [← eM]; exact hP) er dX0_newVoucher_68
    · have hF := it_f hF c4
      refine lv_bipush (v := (-3)) hx hb dX0_newVoucher_23 (by decide) ?_
      obtain ⟨er, eM⟩ := pr_use hF
      exact rt_I hx hb hr hlocks hS (by rw [← eM]; exact hP) er dX0_newVoucher_25
  · have hF := it_t hF c2
    refine lv_iconst (v := (-1)) hx hb dX0_newVoucher_11 (by decide) ?_
    obtain ⟨er, eM⟩ := pr_use hF
    exact rt_I hx hb hr hlocks hS (by rw [← eM]; exact hP) er dX0_newVoucher_12
noncomputable def fX0_payCharge_j75  (V : Vn) (x1 : Int32) (x2 : Int32) (x4 : Int32) : Option (Vn) := (fX6_put 160 16 10 (V.2.1) x1 4 x2).bind fun M4 => nm ((V.1, M4, V.2.2)) fun M5 => (fX6_put 160 16 10 (M5.2.1) x1 5 (x2 - x4)).bind fun M6 => nm ((M5.1, M6, M5.2.2)) fun M7 => nm ((M7.2.2.2.2.2) + (x2 - x4)) fun v8 => nm ((M7.1, M7.2.1, M7.2.2.1, M7.2.2.2.1, M7.2.2.2.2.1, v8)) fun M9 => some M9
noncomputable def fX0_payCharge  (V : Vn) (x1 : Int32) (x2 : Int32) (x3 : Int32) : Option (Vn) := (fX6_cell 16 8 2 (V.2.2.1) x3 1).bind fun r1 => nm (jmin x2 r1) fun v2 => if v2 ≤ 0 then (fX0_payCharge_j75 V x1 x2 v2) else ((fX6_raise 16 8 2 (V.2.2.1) x3 1 (-v2)).bind fun M10 => nm ((V.1, V.2.1, M10, V.2.2.2)) fun M11 => b2 (fX6_addRow 64 16 4 (M11.2.2.2.1)) fun r13 M12 => nm ((M11.1, M11.2.1, M11.2.2.1, M12, M11.2.2.2.2)) fun M14 => (fX6_put 64 16 4 (M14.2.2.2.1) r13 0 x1).bind fun M15 => nm ((M14.1, M14.2.1, M14.2.2.1, M15, M14.2.2.2.2)) fun M16 => (fX6_put 64 16 4 (M16.2.2.2.1) r13 1 x3).bind fun M17 => nm ((M16.1, M16.2.1, M16.2.2.1, M17, M16.2.2.2.2)) fun M18 => (fX6_put 64 16 4 (M18.2.2.2.1) r13 2 v2).bind fun M19 => nm ((M18.1, M18.2.1, M18.2.2.1, M19, M18.2.2.2.2)) fun M20 => fX0_payCharge_j75 M20 x1 x2 v2)
abbrev vX0_payCharge : List Cond := Cond.code yX0_payCharge cX0_payCharge 6 none :: BIG
theorem gX0_payCharge {own : String} {idx : Nat} (h : (Cond.methodLink own idx yX0_payCharge) ∈ BIG) : GoodIn BIG (wsV own idx RX0 yX0_payCharge vX0_payCharge) := gdV h bw2_138 bs2 bw1_7 bw2_139
def rmX0_payCharge : Room := { frames := 2, cells := 0, slots := 0, locals := 48 }
theorem hdX0_payCharge : yX0_payCharge.cls = RX0 ∧ yX0_payCharge.cls ≠ "java/lang/invoke/MethodHandle" ∧ yX0_payCharge.cls ≠ "java/lang/invoke/VarHandle" ∧ (parseMethodDescriptor yX0_payCharge.desc).map (fun d => d.parameters.length) = some 3 := by decide +kernel
set_option maxHeartbeats 4000000 in
set_option maxRecDepth 100000 in
theorem kX0_payCharge (l : Launch) (D : va_G) (cS : ClassId) (g : Nat → Nat) (cI : ClassId) (d : Nat) (a : Nat → Nat) (V : Vn) (x1 : Int32) (x2 : Int32) (x3 : Int32) (M' : Vn) (hF : fX0_payCharge V x1 x2 x3 = some M') : mV l yX0_payCharge vX0_payCharge rmX0_payCharge D cI cS g [.ref d, .int x1, .int x2, .int x3] (wDk cI d a V) (wDk cI d a (M')) := by
  refine st_V rfl (by decide) (Nat.le_of_ble_eq_true rfl) ?_
  intro p e s m args below meth c A ls hx hb hr hml hlocks hown hts hA hK hD0 hG hP hS hl
  have hown : s.vm.findClass RX0 = some m.cls := hown
  have hDa : ∀ V, va_D A (wDk cI d a V) := fun V => hD0.adr rfl
  have htb : ∀ w ∈ BIG, w.before args s = true := fun w h => hts w (List.mem_cons_of_mem _ h)
  have hl : lv_has ls 6 [(0, .ref d), (1, .int x1), (2, .int x2), (3, .int x3)] := hl
  have j75 : ∀ (V : Vn) (x1 : Int32) (x2 : Int32) (x4 : Int32) (H : Heap) (locs : List Loc) (ls : Array Slot), fX0_payCharge_j75 V x1 x2 x4 = some M' → va_P D vwCl (wDk cI d a V) H → va_S A s.heap H locs → lv_has ls 6 [(0, .ref d), (1, .int x1), (2, .int x2), (4, .int x4)] → W p l e rmX0_payCharge s m args below meth c H locs 0 0 (MQ below (qV D (wDk cI d a (M')) A) args s 0 0 A) (F0 m 75 ls []) := by
    intro V x1 x2 x4 H locs ls hF hP hS hl
    refine lv_aload_n hx hb dX0_payCharge_75 rfl (lv_at hl 0 rfl) ?_
    refine va_get (ci := 0) (v := .ref (a 3)) (C := RX0) (T := TX0) (N := 5) hx hb htb kin0 hown hK hP 0 (pDk_0 cI d a V) rfl 2 (by decide) (htb _ bw1_137) (fun _ h9 => h9) rfl dX0_payCharge_76 ?_
    refine lv_iload_n hx hb dX0_payCharge_79 rfl (lv_at hl 1 rfl) ?_
    refine lv_iconst (v := 4) hx hb dX0_payCharge_80 (by decide) ?_
    refine lv_iload_n hx hb dX0_payCharge_81 rfl (lv_at hl 2 rfl) ?_
    obtain ⟨M4, hM4, hF⟩ := bd_use hF
    refine cl_VV ⟨hx, hb, hml, hown, htb⟩ (kX6_put l D cS g cI (a 3) (a 4) 160 16 10 (V.2.1) x1 4 x2 _ hM4) (cwV 3 htb (gX6_put bw2_83) rfl rfl rfl hdX6_put ⟨Nat.le_of_ble_eq_true rfl, Nat.le_of_ble_eq_true rfl⟩) hK (hDa _) hG hA hP hS (sg_Dk_bookings cI d a V M4) hl.1 rfl 0 (pTb_0 _ _ _ _ _ _ _) rfl rfl (Nat.le_of_ble_eq_true rfl) dX0_payCharge_82 (fun H locs hP hS => ?_)
    obtain ⟨M5, eM5⟩ : ∃ z : Vn, z = (V.1, M4, V.2.2) := ⟨_, rfl⟩
    have hF := nm_use hF eM5
    have hP : va_P D vwCl (wDk cI d a M5) H := by rw [eM5]; exact hP
    refine lv_aload_n hx hb dX0_payCharge_85 rfl (lv_at hl 0 rfl) ?_
    refine va_get (ci := 0) (v := .ref (a 3)) (C := RX0) (T := TX0) (N := 5) hx hb htb kin0 hown hK hP 0 (pDk_0 cI d a M5) rfl 2 (by decide) (htb _ bw1_137) (fun _ h9 => h9) rfl dX0_payCharge_86 ?_
    refine lv_iload_n hx hb dX0_payCharge_89 rfl (lv_at hl 1 rfl) ?_
    refine lv_iconst (v := 5) hx hb dX0_payCharge_90 (by decide) ?_
    refine lv_iload_n hx hb dX0_payCharge_91 rfl (lv_at hl 2 rfl) ?_
    refine lv_iload hx hb dX0_payCharge_92 (lv_at hl 3 rfl) ?_
    refine lv_isub hx hb dX0_payCharge_94 ?_
    obtain ⟨M6, hM6, hF⟩ := bd_use hF
    refine cl_VV ⟨hx, hb, hml, hown, htb⟩ (kX6_put l D cS g cI (a 3) (a 4) 160 16 10 (M5.2.1) x1 5 (x2 - x4) _ hM6) (cwV 3 htb (gX6_put bw2_83) rfl rfl rfl hdX6_put ⟨Nat.le_of_ble_eq_true rfl, Nat.le_of_ble_eq_true rfl⟩) hK (hDa _) hG hA hP hS (sg_Dk_bookings cI d a M5 M6) hl.1 rfl 0 (pTb_0 _ _ _ _ _ _ _) rfl rfl (Nat.le_of_ble_eq_true rfl) dX0_payCharge_95 (fun H locs hP hS => ?_)
    obtain ⟨M7, eM7⟩ : ∃ z : Vn, z = (M5.1, M6, M5.2.2) := ⟨_, rfl⟩
    have hF := nm_use hF eM7
    have hP : va_P D vwCl (wDk cI d a M7) H := by rw [eM7]; exact hP
    refine lv_aload_n hx hb dX0_payCharge_98 rfl (lv_at hl 0 rfl) ?_
    refine va_get (ci := 0) (v := .ref (a 0)) (C := RX0) (T := TX0) (N := 5) hx hb htb kin0 hown hK hP 0 (pDk_0 cI d a M7) rfl 0 (by decide) (htb _ bw1_135) (fun _ h9 => h9) rfl dX0_payCharge_99 ?_
    refine lv_dup hx hb dX0_payCharge_102 rfl ?_
    refine va_get (ci := 7) (v := .int (M7.2.2.2.2.2)) (C := RX7) (T := TX7) (N := 6) hx hb htb kin7 hown hK hP 1 (pDk_1 cI d a M7) rfl 5 (by decide) (htb _ bw1_87) (fun _ h9 => h9) rfl dX0_payCharge_103 ?_
    refine lv_iload_n hx hb dX0_payCharge_106 rfl (lv_at hl 2 rfl) ?_
    refine lv_iload hx hb dX0_payCharge_107 (lv_at hl 3 rfl) ?_
    refine lv_isub hx hb dX0_payCharge_109 ?_
    refine lv_iadd hx hb dX0_payCharge_110 ?_
    refine lv_topi (fun v8 ev8 => ?_)
    have hF := nm_use hF ev8
    refine va_put (ci := 7) (v := .int v8) (ty := .int) (C := RX7) (T := TX7) (N := 6) hx hb htb kin7 tyX7 tyX7_ok nmX7 hown hK hP (hDa _) hS 1 (pDk_1 cI d a M7) rfl 5 (by decide) (htb _ bw1_87) (fun _ h9 => h9) rfl (by decide +kernel) rfl rfl (Nat.le_of_ble_eq_true rfl) dX0_payCharge_111 (fun H locs hP _ hS => ?_)
    obtain ⟨M9, eM9⟩ : ∃ z : Vn, z = (M7.1, M7.2.1, M7.2.2.1, M7.2.2.2.1, M7.2.2.2.2.1, v8) := ⟨_, rfl⟩
    have hF := nm_use hF eM9
    have hP : va_P D vwCl (wDk cI d a M9) H := by rw [eM9]; exact hP
    exact rt_V hx hb hr hlocks hS (by rw [← so_use hF]; exact hP) dX0_payCharge_114
  refine lv_iload_n hx hb dX0_payCharge_0 rfl (lv_at hl 2 rfl) ?_
  refine lv_aload_n hx hb dX0_payCharge_1 rfl (lv_at hl 0 rfl) ?_
  refine va_get (ci := 0) (v := .ref (a 5)) (C := RX0) (T := TX0) (N := 5) hx hb htb kin0 hown hK hP 0 (pDk_0 cI d a V) rfl 3 (by decide) (htb _ bw1_138) (fun _ h9 => h9) rfl dX0_payCharge_2 ?_
  refine lv_iload_n hx hb dX0_payCharge_5 rfl (lv_at hl 3 rfl) ?_
  refine lv_iconst (v := 1) hx hb dX0_payCharge_6 (by decide) ?_
  obtain ⟨r1, hr1, hF⟩ := bd_use hF
  refine cl_VI ⟨hx, hb, hml, hown, htb⟩ (kX6_cell l D cS g cI (a 5) (a 6) 16 8 2 (V.2.2.1) x3 1 _ hr1) (cwV 2 htb (gX6_cell bw2_115) rfl rfl rfl hdX6_cell ⟨Nat.le_of_ble_eq_true rfl, Nat.le_of_ble_eq_true rfl⟩) hK (hDa _) hG hA hP hS (sr_Dk_vouchers cI d a V) hl.1 rfl 0 (pTb_0 _ _ _ _ _ _ _) rfl rfl (Nat.le_of_ble_eq_true rfl) dX0_payCharge_7 (fun H locs hP hS => ?_)
  refine va_mmin hx hb (hml.trans hl.1.symm) hown (htb _ bw2_140) (htb _ bw2_66) (htb _ bw1_5) (htb _ bw2_67) (Nat.le_of_ble_eq_true rfl) (Nat.le_of_ble_eq_true rfl) (Nat.zero_le _) (Nat.zero_le _) dX0_payCharge_10 ?_
  refine lv_topi (fun v2 ev2 => ?_)
  have hF := nm_use hF ev2
  refine lv_istore (lv' := [(4, .int v2), (0, .ref d), (1, .int x1), (2, .int x2), (3, .int x3)]) hx hb dX0_payCharge_13 hl (by decide) rfl (fun ls hl => ?_)
  refine lv_iload hx hb dX0_payCharge_15 (lv_at hl 0 rfl) ?_
  refine lv_if_le (tgt := 75) hx hb dX0_payCharge_17 (by decide) (fun c3 => ?_) (fun c3 => ?_)
  · have hF := it_t hF c3
    exact j75 V x1 x2 v2 _ _ _ hF hP hS (lv_sub hl [1, 2, 3, 0] rfl)
  · have hF := it_f hF c3
    refine lv_aload_n hx hb dX0_payCharge_20 rfl (lv_at hl 1 rfl) ?_
    refine va_get (ci := 0) (v := .ref (a 5)) (C := RX0) (T := TX0) (N := 5) hx hb htb kin0 hown hK hP 0 (pDk_0 cI d a V) rfl 3 (by decide) (htb _ bw1_138) (fun _ h9 => h9) rfl dX0_payCharge_21 ?_
    refine lv_iload_n hx hb dX0_payCharge_24 rfl (lv_at hl 4 rfl) ?_
    refine lv_iconst (v := 1) hx hb dX0_payCharge_25 (by decide) ?_
    refine lv_iload hx hb dX0_payCharge_26 (lv_at hl 0 rfl) ?_
    refine lv_ineg hx hb dX0_payCharge_28 ?_
    obtain ⟨M10, hM10, hF⟩ := bd_use hF
    refine cl_VV ⟨hx, hb, hml, hown, htb⟩ (kX6_raise l D cS g cI (a 5) (a 6) 16 8 2 (V.2.2.1) x3 1 (-v2) _ hM10) (cwV 3 htb (gX6_raise bw2_141) rfl rfl rfl hdX6_raise ⟨Nat.le_of_ble_eq_true rfl, Nat.le_of_ble_eq_true rfl⟩) hK (hDa _) hG hA hP hS (sg_Dk_vouchers cI d a V M10) hl.1 rfl 0 (pTb_0 _ _ _ _ _ _ _) rfl rfl (Nat.le_of_ble_eq_true rfl) dX0_payCharge_29 (fun H locs hP hS => ?_)
    obtain ⟨M11, eM11⟩ : ∃ z : Vn, z = (V.1, V.2.1, M10, V.2.2.2) := ⟨_, rfl⟩
    have hF := nm_use hF eM11
    have hP : va_P D vwCl (wDk cI d a M11) H := by rw [eM11]; exact hP
    refine lv_aload_n hx hb dX0_payCharge_32 rfl (lv_at hl 1 rfl) ?_
    refine va_get (ci := 0) (v := .ref (a 7)) (C := RX0) (T := TX0) (N := 5) hx hb htb kin0 hown hK hP 0 (pDk_0 cI d a M11) rfl 4 (by decide) (htb _ bw1_139) (fun _ h9 => h9) rfl dX0_payCharge_33 ?_
    obtain ⟨r13, M12, hM12, hF⟩ := b2_use hF
    refine cl_VI ⟨hx, hb, hml, hown, htb⟩ (kX6_addRow l D cS g cI (a 7) (a 8) 64 16 4 (M11.2.2.2.1)  _ _ hM12) (cwV 0 htb (gX6_addRow bw2_82) rfl rfl rfl hdX6_addRow ⟨Nat.le_of_ble_eq_true rfl, Nat.le_of_ble_eq_true rfl⟩) hK (hDa _) hG hA hP hS (sg_Dk_payments cI d a M11 M12) hl.1 rfl 0 (pTb_0 _ _ _ _ _ _ _) rfl rfl (Nat.le_of_ble_eq_true rfl) dX0_payCharge_36 (fun H locs hP hS => ?_)
    obtain ⟨M14, eM14⟩ : ∃ z : Vn, z = (M11.1, M11.2.1, M11.2.2.1, M12, M11.2.2.2.2) := ⟨_, rfl⟩
    have hF := nm_use hF eM14
    have hP : va_P D vwCl (wDk cI d a M14) H := by rw [eM14]; exact hP
    refine lv_istore (lv' := [(5, .int r13), (4, .int v2), (0, .ref d), (1, .int x1), (2, .int x2), (3, .int x3)]) hx hb dX0_payCharge_39 hl (by decide) rfl (fun ls hl => ?_)
    refine lv_aload_n hx hb dX0_payCharge_41 rfl (lv_at hl 2 rfl) ?_
    refine va_get (ci := 0) (v := .ref (a 7)) (C := RX0) (T := TX0) (N := 5) hx hb htb kin0 hown hK hP 0 (pDk_0 cI d a M14) rfl 4 (by decide) (htb _ bw1_139) (fun _ h9 => h9) rfl dX0_payCharge_42 ?_
    refine lv_iload hx hb dX0_payCharge_45 (lv_at hl 0 rfl) ?_
    refine lv_iconst (v := 0) hx hb dX0_payCharge_47 (by decide) ?_
    refine lv_iload_n hx hb dX0_payCharge_48 rfl (lv_at hl 3 rfl) ?_
    obtain ⟨M15, hM15, hF⟩ := bd_use hF
    refine cl_VV ⟨hx, hb, hml, hown, htb⟩ (kX6_put l D cS g cI (a 7) (a 8) 64 16 4 (M14.2.2.2.1) r13 0 x1 _ hM15) (cwV 3 htb (gX6_put bw2_83) rfl rfl rfl hdX6_put ⟨Nat.le_of_ble_eq_true rfl, Nat.le_of_ble_eq_true rfl⟩) hK (hDa _) hG hA hP hS (sg_Dk_payments cI d a M14 M15) hl.1 rfl 0 (pTb_0 _ _ _ _ _ _ _) rfl rfl (Nat.le_of_ble_eq_true rfl) dX0_payCharge_49 (fun H locs hP hS => ?_)
    obtain ⟨M16, eM16⟩ : ∃ z : Vn, z = (M14.1, M14.2.1, M14.2.2.1, M15, M14.2.2.2.2) := ⟨_, rfl⟩
    have hF := nm_use hF eM16
    have hP : va_P D vwCl (wDk cI d a M16) H := by rw [eM16]; exact hP
    refine lv_aload_n hx hb dX0_payCharge_52 rfl (lv_at hl 2 rfl) ?_
    refine va_get (ci := 0) (v := .ref (a 7)) (C := RX0) (T := TX0) (N := 5) hx hb htb kin0 hown hK hP 0 (pDk_0 cI d a M16) rfl 4 (by decide) (htb _ bw1_139) (fun _ h9 => h9) rfl dX0_payCharge_53 ?_
    refine lv_iload hx hb dX0_payCharge_56 (lv_at hl 0 rfl) ?_
    refine lv_iconst (v := 1) hx hb dX0_payCharge_58 (by decide) ?_
    refine lv_iload_n hx hb dX0_payCharge_59 rfl (lv_at hl 5 rfl) ?_
    obtain ⟨M17, hM17, hF⟩ := bd_use hF
    refine cl_VV ⟨hx, hb, hml, hown, htb⟩ (kX6_put l D cS g cI (a 7) (a 8) 64 16 4 (M16.2.2.2.1) r13 1 x3 _ hM17) (cwV 3 htb (gX6_put bw2_83) rfl rfl rfl hdX6_put ⟨Nat.le_of_ble_eq_true rfl, Nat.le_of_ble_eq_true rfl⟩) hK (hDa _) hG hA hP hS (sg_Dk_payments cI d a M16 M17) hl.1 rfl 0 (pTb_0 _ _ _ _ _ _ _) rfl rfl (Nat.le_of_ble_eq_true rfl) dX0_payCharge_60 (fun H locs hP hS => ?_)
    obtain ⟨M18, eM18⟩ : ∃ z : Vn, z = (M16.1, M16.2.1, M16.2.2.1, M17, M16.2.2.2.2) := ⟨_, rfl⟩
    have hF := nm_use hF eM18
    have hP : va_P D vwCl (wDk cI d a M18) H := by rw [eM18]; exact hP
    refine lv_aload_n hx hb dX0_payCharge_63 rfl (lv_at hl 2 rfl) ?_
    refine va_get (ci := 0) (v := .ref (a 7)) (C := RX0) (T := TX0) (N := 5) hx hb htb kin0 hown hK hP 0 (pDk_0 cI d a M18) rfl 4 (by decide) (htb _ bw1_139) (fun _ h9 => h9) rfl dX0_payCharge_64 ?_
    refine lv_iload hx hb dX0_payCharge_67 (lv_at hl 0 rfl) ?_
    refine lv_iconst (v := 2) hx hb dX0_payCharge_69 (by decide) ?_
    refine lv_iload hx hb dX0_payCharge_70 (lv_at hl 1 rfl) ?_
    obtain ⟨M19, hM19, hF⟩ := bd_use hF
    refine cl_VV ⟨hx, hb, hml, hown, htb⟩ (kX6_put l D cS g cI (a 7) (a 8) 64 16 4 (M18.2.2.2.1) r13 2 v2 _ hM19) (cwV 3 htb (gX6_put bw2_83) rfl rfl rfl hdX6_put ⟨Nat.le_of_ble_eq_true rfl, Nat.le_of_ble_eq_true rfl⟩) hK (hDa _) hG hA hP hS (sg_Dk_payments cI d a M18 M19) hl.1 rfl 0 (pTb_0 _ _ _ _ _ _ _) rfl rfl (Nat.le_of_ble_eq_true rfl) dX0_payCharge_72 (fun H locs hP hS => ?_)
    obtain ⟨M20, eM20⟩ : ∃ z : Vn, z = (M18.1, M18.2.1, M18.2.2.1, M19, M18.2.2.2.2) := ⟨_, rfl⟩
    have hF := nm_use hF eM20
    have hP : va_P D vwCl (wDk cI d a M20) H := by rw [eM20]; exact hP
    exact j75 M20 x1 x2 v2 _ _ _ hF hP hS (lv_sub hl [2, 3, 4, 1] rfl)
noncomputable def fX0_newBooking_j59  (V : Vn) (x1 : Int32) (x2 : Int32) (x3 : Int32) (x4 : Int32) : Option (Int32 × Vn) := (fX7_isPossible V x1 x2 (-9)).bind fun r9 => if r9 = 0 then (some ((-2), V)) else ((fX6_isFull 160 16 10 (V.2.1)).bind fun r11 => if r11 = 0 then (b2 (fX6_addRow 160 16 10 (V.2.1)) fun r14 M13 => nm ((V.1, M13, V.2.2)) fun M15 => (fX6_put 160 16 10 (M15.2.1) r14 0 x1).bind fun M16 => nm ((M15.1, M16, M15.2.2)) fun M17 => (fX6_put 160 16 10 (M17.2.1) r14 1 x2).bind fun M18 => nm ((M17.1, M18, M17.2.2)) fun M19 => (fX6_put 160 16 10 (M19.2.1) r14 2 x3).bind fun M20 => nm ((M19.1, M20, M19.2.2)) fun M21 => (fX6_put 160 16 10 (M21.2.1) r14 3 0).bind fun M22 => nm ((M21.1, M22, M21.2.2)) fun M23 => (fX6_put 160 16 10 (M23.2.1) r14 8 (-9)).bind fun M24 => nm ((M23.1, M24, M23.2.2)) fun M25 => (fX6_put 160 16 10 (M25.2.1) r14 9 (-9)).bind fun M26 => nm ((M25.1, M26, M25.2.2)) fun M27 => (fX6_cell 44 4 11 (M27.1) x1 2).bind fun r28 => (fX0_payCharge M27 r14 (r28 * x3) x4).bind fun M29 => some (r14, M29)) else (some ((-3), V)))
noncomputable def fX0_newBooking  (V : Vn) (x1 : Int32) (x2 : Int32) (x3 : Int32) (x4 : Int32) : Option (Int32 × Vn) := (fX6_has 44 4 11 (V.1) x1).bind fun r1 => if r1 = 0 then (some ((-1), V)) else ((fX8_inRange x2 0 720).bind fun r3 => if r3 = 0 then (some ((-1), V)) else ((fX6_cell 44 4 11 (V.1) x1 3).bind fun r5 => (fX8_inRange x3 2 r5).bind fun r6 => if r6 = 0 then (some ((-1), V)) else (if x4 = (-1) then (fX0_newBooking_j59 V x1 x2 x3 x4) else ((fX6_has 16 8 2 (V.2.2.1) x4).bind fun r30 => if r30 = 0 then (some ((-1), V)) else (fX0_newBooking_j59 V x1 x2 x3 x4)))))
abbrev vX0_newBooking : List Cond := Cond.code yX0_newBooking cX0_newBooking 6 (some .int) :: BIG
theorem gX0_newBooking {own : String} {idx : Nat} (h : (Cond.methodLink own idx yX0_newBooking) ∈ BIG) : GoodIn BIG (wsV own idx RX0 yX0_newBooking vX0_newBooking) := gdV h bw2_108 bw2_109 bw1_7 bw2_110
def rmX0_newBooking : Room := { frames := 4, cells := 0, slots := 0, locals := 95 }
theorem hdX0_newBooking : yX0_newBooking.cls = RX0 ∧ yX0_newBooking.cls ≠ "java/lang/invoke/MethodHandle" ∧ yX0_newBooking.cls ≠ "java/lang/invoke/VarHandle" ∧ (parseMethodDescriptor yX0_newBooking.desc).map (fun d => d.parameters.length) = some 4 := by decide +kernel
set_option maxHeartbeats 4000000 in
set_option maxRecDepth 100000 in
theorem kX0_newBooking (l : Launch) (D : va_G) (cS : ClassId) (g : Nat → Nat) (cI : ClassId) (d : Nat) (a : Nat → Nat) (V : Vn) (x1 : Int32) (x2 : Int32) (x3 : Int32) (x4 : Int32) (r : Int32) (M' : Vn) (hF : fX0_newBooking V x1 x2 x3 x4 = some (r, M')) : mI l yX0_newBooking vX0_newBooking rmX0_newBooking D cI cS g [.ref d, .int x1, .int x2, .int x3, .int x4] (wDk cI d a V) r (wDk cI d a (M')) := by
  refine st_I rfl (by decide) (Nat.le_of_ble_eq_true rfl) ?_
  intro p e s m args below meth c A ls hx hb hr hml hlocks hown hts hA hK hD0 hG hP hS hl
  have hown : s.vm.findClass RX0 = some m.cls := hown
  have hDa : ∀ V, va_D A (wDk cI d a V) := fun V => hD0.adr rfl
  have htb : ∀ w ∈ BIG, w.before args s = true := fun w h => hts w (List.mem_cons_of_mem _ h)
  have hl : lv_has ls 6 [(0, .ref d), (1, .int x1), (2, .int x2), (3, .int x3), (4, .int x4)] := hl
  have j59 : ∀ (V : Vn) (x1 : Int32) (x2 : Int32) (x3 : Int32) (x4 : Int32) (H : Heap) (locs : List Loc) (ls : Array Slot), fX0_newBooking_j59 V x1 x2 x3 x4 = some (r, M') → va_P D vwCl (wDk cI d a V) H → va_S A s.heap H locs → lv_has ls 6 [(0, .ref d), (1, .int x1), (2, .int x2), (3, .int x3), (4, .int x4)] → W p l e rmX0_newBooking s m args below meth c H locs 0 0 (MQ below (qI D r (wDk cI d a (M')) A) args s 0 0 A) (F0 m 59 ls []) := by
    intro V x1 x2 x3 x4 H locs ls hF hP hS hl
    refine lv_aload_n hx hb dX0_newBooking_59 rfl (lv_at hl 0 rfl) ?_
    refine va_get (ci := 0) (v := .ref (a 0)) (C := RX0) (T := TX0) (N := 5) hx hb htb kin0 hown hK hP 0 (pDk_0 cI d a V) rfl 0 (by decide) (htb _ bw1_135) (fun _ h9 => h9) rfl dX0_newBooking_60 ?_
    refine lv_iload_n hx hb dX0_newBooking_63 rfl (lv_at hl 1 rfl) ?_
    refine lv_iload_n hx hb dX0_newBooking_64 rfl (lv_at hl 2 rfl) ?_
    refine lv_bipush (v := (-9)) hx hb dX0_newBooking_65 (by decide) ?_
    obtain ⟨r9, hr9, hF⟩ := bd_use hF
    refine cl_VI ⟨hx, hb, hml, hown, htb⟩ (kX7_isPossible l D cS g cI a V x1 x2 (-9) _ hr9) (cwV 3 htb (gX7_isPossible bw2_116) rfl rfl rfl hdX7_isPossible ⟨Nat.le_of_ble_eq_true rfl, Nat.le_of_ble_eq_true rfl⟩) hK (hDa _) hG hA hP hS (sr_Dk_Vn cI d a V) hl.1 rfl 0 (pVn_0 _ _ _) rfl rfl (Nat.le_of_ble_eq_true rfl) dX0_newBooking_67 (fun H locs hP hS => ?_)
    refine lv_if_ne (tgt := 76) hx hb dX0_newBooking_70 (by decide) (fun c10 => ?_) (fun c10 => ?_)
    · have hF := it_f hF c10
      refine lv_aload_n hx hb dX0_newBooking_76 rfl (lv_at hl 0 rfl) ?_
      refine va_get (ci := 0) (v := .ref (a 3)) (C := RX0) (T := TX0) (N := 5) hx hb htb kin0 hown hK hP 0 (pDk_0 cI d a V) rfl 2 (by decide) (htb _ bw1_137) (fun _ h9 => h9) rfl dX0_newBooking_77 ?_
      obtain ⟨r11, hr11, hF⟩ := bd_use hF
      refine cl_VI ⟨hx, hb, hml, hown, htb⟩ (kX6_isFull l D cS g cI (a 3) (a 4) 160 16 10 (V.2.1)  _ hr11) (cwV 0 htb (gX6_isFull bw2_81) rfl rfl rfl hdX6_isFull ⟨Nat.le_of_ble_eq_true rfl, Nat.le_of_ble_eq_true rfl⟩) hK (hDa _) hG hA hP hS (sr_Dk_bookings cI d a V) hl.1 rfl 0 (pTb_0 _ _ _ _ _ _ _) rfl rfl (Nat.le_of_ble_eq_true rfl) dX0_newBooking_80 (fun H locs hP hS => ?_)
      refine lv_if_eq (tgt := 89) hx hb dX0_newBooking_83 (by decide) (fun c12 => ?_) (fun c12 => ?_)
      · have hF := it_t hF c12
        refine lv_aload_n hx hb dX0_newBooking_89 rfl (lv_at hl 0 rfl) ?_
        refine va_get (ci := 0) (v := .ref (a 3)) (C := RX0) (T := TX0) (N := 5) hx hb htb kin0 hown hK hP 0 (pDk_0 cI d a V) rfl 2 (by decide) (htb _ bw1_137) (fun _ h9 => h9) rfl dX0_newBooking_90 ?_
        obtain ⟨r14, M13, hM13, hF⟩ := b2_use hF
        refine cl_VI ⟨hx, hb, hml, hown, htb⟩ (kX6_addRow l D cS g cI (a 3) (a 4) 160 16 10 (V.2.1)  _ _ hM13) (cwV 0 htb (gX6_addRow bw2_82) rfl rfl rfl hdX6_addRow ⟨Nat.le_of_ble_eq_true rfl, Nat.le_of_ble_eq_true rfl⟩) hK (hDa _) hG hA hP hS (sg_Dk_bookings cI d a V M13) hl.1 rfl 0 (pTb_0 _ _ _ _ _ _ _) rfl rfl (Nat.le_of_ble_eq_true rfl) dX0_newBooking_93 (fun H locs hP hS => ?_)
        obtain ⟨M15, eM15⟩ : ∃ z : Vn, z = (V.1, M13, V.2.2) := ⟨_, rfl⟩
        have hF := nm_use hF eM15
        have hP : va_P D vwCl (wDk cI d a M15) H := by rw [eM15]; exact hP
        refine lv_istore (lv' := [(5, .int r14), (0, .ref d), (1, .int x1), (2, .int x2), (3, .int x3), (4, .int x4)]) hx hb dX0_newBooking_96 hl (by decide) rfl (fun ls hl => ?_)
        refine lv_aload_n hx hb dX0_newBooking_98 rfl (lv_at hl 1 rfl) ?_
        refine va_get (ci := 0) (v := .ref (a 3)) (C := RX0) (T := TX0) (N := 5) hx hb htb kin0 hown hK hP 0 (pDk_0 cI d a M15) rfl 2 (by decide) (htb _ bw1_137) (fun _ h9 => h9) rfl dX0_newBooking_99 ?_
        refine lv_iload hx hb dX0_newBooking_102 (lv_at hl 0 rfl) ?_
        refine lv_iconst (v := 0) hx hb dX0_newBooking_104 (by decide) ?_
        refine lv_iload_n hx hb dX0_newBooking_105 rfl (lv_at hl 2 rfl) ?_
        obtain ⟨M16, hM16, hF⟩ := bd_use hF
        refine cl_VV ⟨hx, hb, hml, hown, htb⟩ (kX6_put l D cS g cI (a 3) (a 4) 160 16 10 (M15.2.1) r14 0 x1 _ hM16) (cwV 3 htb (gX6_put bw2_83) rfl rfl rfl hdX6_put ⟨Nat.le_of_ble_eq_true rfl, Nat.le_of_ble_eq_true rfl⟩) hK (hDa _) hG hA hP hS (sg_Dk_bookings cI d a M15 M16) hl.1 rfl 0 (pTb_0 _ _ _ _ _ _ _) rfl rfl (Nat.le_of_ble_eq_true rfl) dX0_newBooking_106 (fun H locs hP hS => ?_)
        obtain ⟨M17, eM17⟩ : ∃ z : Vn, z = (M15.1, M16, M15.2.2) := ⟨_, rfl⟩
        have hF := nm_use hF eM17
        have hP : va_P D vwCl (wDk cI d a M17) H := by rw [eM17]; exact hP
        refine lv_aload_n hx hb dX0_newBooking_109 rfl (lv_at hl 1 rfl) ?_
        refine va_get (ci := 0) (v := .ref (a 3)) (C := RX0) (T := TX0) (N := 5) hx hb htb kin0 hown hK hP 0 (pDk_0 cI d a M17) rfl 2 (by decide) (htb _ bw1_137) (fun _ h9 => h9) rfl dX0_newBooking_110 ?_
        refine lv_iload hx hb dX0_newBooking_113 (lv_at hl 0 rfl) ?_
        refine lv_iconst (v := 1) hx hb dX0_newBooking_115 (by decide) ?_
        refine lv_iload_n hx hb dX0_newBooking_116 rfl (lv_at hl 3 rfl) ?_
        obtain ⟨M18, hM18, hF⟩ := bd_use hF
        refine cl_VV ⟨hx, hb, hml, hown, htb⟩ (kX6_put l D cS g cI (a 3) (a 4) 160 16 10 (M17.2.1) r14 1 x2 _ hM18) (cwV 3 htb (gX6_put bw2_83) rfl rfl rfl hdX6_put ⟨Nat.le_of_ble_eq_true rfl, Nat.le_of_ble_eq_true rfl⟩) hK (hDa _) hG hA hP hS (sg_Dk_bookings cI d a M17 M18) hl.1 rfl 0 (pTb_0 _ _ _ _ _ _ _) rfl rfl (Nat.le_of_ble_eq_true rfl) dX0_newBooking_117 (fun H locs hP hS => ?_)
        obtain ⟨M19, eM19⟩ : ∃ z : Vn, z = (M17.1, M18, M17.2.2) := ⟨_, rfl⟩
        have hF := nm_use hF eM19
        have hP : va_P D vwCl (wDk cI d a M19) H := by rw [eM19]; exact hP
        refine lv_aload_n hx hb dX0_newBooking_120 rfl (lv_at hl 1 rfl) ?_
        refine va_get (ci := 0) (v := .ref (a 3)) (C := RX0) (T := TX0) (N := 5) hx hb htb kin0 hown hK hP 0 (pDk_0 cI d a M19) rfl 2 (by decide) (htb _ bw1_137) (fun _ h9 => h9) rfl dX0_newBooking_121 ?_
        refine lv_iload hx hb dX0_newBooking_124 (lv_at hl 0 rfl) ?_
        refine lv_iconst (v := 2) hx hb dX0_newBooking_126 (by decide) ?_
        refine lv_iload_n hx hb dX0_newBooking_127 rfl (lv_at hl 4 rfl) ?_
        obtain ⟨M20, hM20, hF⟩ := bd_use hF
        refine cl_VV ⟨hx, hb, hml, hown, htb⟩ (kX6_put l D cS g cI (a 3) (a 4) 160 16 10 (M19.2.1) r14 2 x3 _ hM20) (cwV 3 htb (gX6_put bw2_83) rfl rfl rfl hdX6_put ⟨Nat.le_of_ble_eq_true rfl, Nat.le_of_ble_eq_true rfl⟩) hK (hDa _) hG hA hP hS (sg_Dk_bookings cI d a M19 M20) hl.1 rfl 0 (pTb_0 _ _ _ _ _ _ _) rfl rfl (Nat.le_of_ble_eq_true rfl) dX0_newBooking_128 (fun H locs hP hS => ?_)
        obtain ⟨M21, eM21⟩ : ∃ z : Vn, z = (M19.1, M20, M19.2.2) := ⟨_, rfl⟩
        have hF := nm_use hF eM21
        have hP : va_P D vwCl (wDk cI d a M21) H := by rw [eM21]; exact hP
        refine lv_aload_n hx hb dX0_newBooking_131 rfl (lv_at hl 1 rfl) ?_
        refine va_get (ci := 0) (v := .ref (a 3)) (C := RX0) (T := TX0) (N := 5) hx hb htb kin0 hown hK hP 0 (pDk_0 cI d a M21) rfl 2 (by decide) (htb _ bw1_137) (fun _ h9 => h9) rfl dX0_newBooking_132 ?_
        refine lv_iload hx hb dX0_newBooking_135 (lv_at hl 0 rfl) ?_
        refine lv_iconst (v := 3) hx hb dX0_newBooking_137 (by decide) ?_
        refine lv_iconst (v := 0) hx hb dX0_newBooking_138 (by decide) ?_
        obtain ⟨M22, hM22, hF⟩ := bd_use hF
        refine cl_VV ⟨hx, hb, hml, hown, htb⟩ (kX6_put l D cS g cI (a 3) (a 4) 160 16 10 (M21.2.1) r14 3 0 _ hM22) (cwV 3 htb (gX6_put bw2_83) rfl rfl rfl hdX6_put ⟨Nat.le_of_ble_eq_true rfl, Nat.le_of_ble_eq_true rfl⟩) hK (hDa _) hG hA hP hS (sg_Dk_bookings cI d a M21 M22) hl.1 rfl 0 (pTb_0 _ _ _ _ _ _ _) rfl rfl (Nat.le_of_ble_eq_true rfl) dX0_newBooking_139 (fun H locs hP hS => ?_)
        obtain ⟨M23, eM23⟩ : ∃ z : Vn, z = (M21.1, M22, M21.2.2) := ⟨_, rfl⟩
        have hF := nm_use hF eM23
        have hP : va_P D vwCl (wDk cI d a M23) H := by rw [eM23]; exact hP
        refine lv_aload_n hx hb dX0_newBooking_142 rfl (lv_at hl 1 rfl) ?_
        refine va_get (ci := 0) (v := .ref (a 3)) (C := RX0) (T := TX0) (N := 5) hx hb htb kin0 hown hK hP 0 (pDk_0 cI d a M23) rfl 2 (by decide) (htb _ bw1_137) (fun _ h9 => h9) rfl dX0_newBooking_143 ?_
        refine lv_iload hx hb dX0_newBooking_146 (lv_at hl 0 rfl) ?_
        refine lv_bipush (v := 8) hx hb dX0_newBooking_148 (by decide) ?_
        refine lv_bipush (v := (-9)) hx hb dX0_newBooking_150 (by decide) ?_
        obtain ⟨M24, hM24, hF⟩ := bd_use hF
        refine cl_VV ⟨hx, hb, hml, hown, htb⟩ (kX6_put l D cS g cI (a 3) (a 4) 160 16 10 (M23.2.1) r14 8 (-9) _ hM24) (cwV 3 htb (gX6_put bw2_83) rfl rfl rfl hdX6_put ⟨Nat.le_of_ble_eq_true rfl, Nat.le_of_ble_eq_true rfl⟩) hK (hDa _) hG hA hP hS (sg_Dk_bookings cI d a M23 M24) hl.1 rfl 0 (pTb_0 _ _ _ _ _ _ _) rfl rfl (Nat.le_of_ble_eq_true rfl) dX0_newBooking_152 (fun H locs hP hS => ?_)
        obtain ⟨M25, eM25⟩ : ∃ z : Vn, z = (M23.1, M24, M23.2.2) := ⟨_, rfl⟩
        have hF := nm_use hF eM25
        have hP : va_P D vwCl (wDk cI d a M25) H := by rw [eM25]; exact hP
        refine lv_aload_n hx hb dX0_newBooking_155 rfl (lv_at hl 1 rfl) ?_
        refine va_get (ci := 0) (v := .ref (a 3)) (C := RX0) (T := TX0) (N := 5) hx hb htb kin0 hown hK hP 0 (pDk_0 cI d a M25) rfl 2 (by decide) (htb _ bw1_137) (fun _ h9 => h9) rfl dX0_newBooking_156 ?_
        refine lv_iload hx hb dX0_newBooking_159 (lv_at hl 0 rfl) ?_
        refine lv_bipush (v := 9) hx hb dX0_newBooking_161 (by decide) ?_
        refine lv_bipush (v := (-9)) hx hb dX0_newBooking_163 (by decide) ?_
        obtain ⟨M26, hM26, hF⟩ := bd_use hF
        refine cl_VV ⟨hx, hb, hml, hown, htb⟩ (kX6_put l D cS g cI (a 3) (a 4) 160 16 10 (M25.2.1) r14 9 (-9) _ hM26) (cwV 3 htb (gX6_put bw2_83) rfl rfl rfl hdX6_put ⟨Nat.le_of_ble_eq_true rfl, Nat.le_of_ble_eq_true rfl⟩) hK (hDa _) hG hA hP hS (sg_Dk_bookings cI d a M25 M26) hl.1 rfl 0 (pTb_0 _ _ _ _ _ _ _) rfl rfl (Nat.le_of_ble_eq_true rfl) dX0_newBooking_165 (fun H locs hP hS => ?_)
        obtain ⟨M27, eM27⟩ : ∃ z : Vn, z = (M25.1, M26, M25.2.2) := ⟨_, rfl⟩
        have hF := nm_use hF eM27
        have hP : va_P D vwCl (wDk cI d a M27) H := by rw [eM27]; exact hP
        refine lv_aload_n hx hb dX0_newBooking_168 rfl (lv_at hl 1 rfl) ?_
        refine lv_iload hx hb dX0_newBooking_169 (lv_at hl 0 rfl) ?_
        refine lv_aload_n hx hb dX0_newBooking_171 rfl (lv_at hl 1 rfl) ?_
        refine va_get (ci := 0) (v := .ref (a 1)) (C := RX0) (T := TX0) (N := 5) hx hb htb kin0 hown hK hP 0 (pDk_0 cI d a M27) rfl 1 (by decide) (htb _ bw1_136) (fun _ h9 => h9) rfl dX0_newBooking_172 ?_
        refine lv_iload_n hx hb dX0_newBooking_175 rfl (lv_at hl 2 rfl) ?_
        refine lv_iconst (v := 2) hx hb dX0_newBooking_176 (by decide) ?_
        obtain ⟨r28, hr28, hF⟩ := bd_use hF
        refine cl_VI ⟨hx, hb, hml, hown, htb⟩ (kX6_cell l D cS g cI (a 1) (a 2) 44 4 11 (M27.1) x1 2 _ hr28) (cwV 2 htb (gX6_cell bw2_115) rfl rfl rfl hdX6_cell ⟨Nat.le_of_ble_eq_true rfl, Nat.le_of_ble_eq_true rfl⟩) hK (hDa _) hG hA hP hS (sr_Dk_rooms cI d a M27) hl.1 rfl 0 (pTb_0 _ _ _ _ _ _ _) rfl rfl (Nat.le_of_ble_eq_true rfl) dX0_newBooking_177 (fun H locs hP hS => ?_)
        refine lv_iload_n hx hb dX0_newBooking_180 rfl (lv_at hl 4 rfl) ?_
        refine lv_imul hx hb dX0_newBooking_181 ?_
        refine lv_iload hx hb dX0_newBooking_182 (lv_at hl 5 rfl) ?_
        obtain ⟨M29, hM29, hF⟩ := bd_use hF
        refine cl_VV ⟨hx, hb, hml, hown, htb⟩ (kX0_payCharge l D cS g cI d a M27 r14 (r28 * x3) x4 _ hM29) (cwV 3 htb (gX0_payCharge bw2_136) rfl rfl rfl hdX0_payCharge ⟨Nat.le_of_ble_eq_true rfl, Nat.le_of_ble_eq_true rfl⟩) hK (hDa _) hG hA hP hS (sg_Dk_Dk cI d a M27 M29) hl.1 rfl 0 (pDk_0 _ _ _ _) rfl rfl (Nat.le_of_ble_eq_true rfl) dX0_newBooking_184 (fun H locs hP hS => ?_)
        refine lv_iload hx hb dX0_newBooking_187 (lv_at hl 0 rfl) ?_
        obtain ⟨er, eM⟩ := pr_use hF
        exact rt_I hx hb hr hlocks hS (by rw [← eM]; exact hP) er dX0_newBooking_189
      · have hF := it_f hF c12
        refine lv_bipush (v := (-3)) hx hb dX0_newBooking_86 (by decide) ?_
        obtain ⟨er, eM⟩ := pr_use hF
        exact rt_I hx hb hr hlocks hS (by rw [← eM]; exact hP) er dX0_newBooking_88
    · have hF := it_t hF c10
      refine lv_bipush (v := (-2)) hx hb dX0_newBooking_73 (by decide) ?_
      obtain ⟨er, eM⟩ := pr_use hF
      exact rt_I hx hb hr hlocks hS (by rw [← eM]; exact hP) er dX0_newBooking_75
  refine lv_aload_n hx hb dX0_newBooking_0 rfl (lv_at hl 0 rfl) ?_
  refine va_get (ci := 0) (v := .ref (a 1)) (C := RX0) (T := TX0) (N := 5) hx hb htb kin0 hown hK hP 0 (pDk_0 cI d a V) rfl 1 (by decide) (htb _ bw1_136) (fun _ h9 => h9) rfl dX0_newBooking_1 ?_
  refine lv_iload_n hx hb dX0_newBooking_4 rfl (lv_at hl 1 rfl) ?_
  obtain ⟨r1, hr1, hF⟩ := bd_use hF
  refine cl_VI ⟨hx, hb, hml, hown, htb⟩ (kX6_has l D cS g cI (a 1) (a 2) 44 4 11 (V.1) x1 _ hr1) (cwV 1 htb (gX6_has bw2_111) rfl rfl rfl hdX6_has ⟨Nat.le_of_ble_eq_true rfl, Nat.le_of_ble_eq_true rfl⟩) hK (hDa _) hG hA hP hS (sr_Dk_rooms cI d a V) hl.1 rfl 0 (pTb_0 _ _ _ _ _ _ _) rfl rfl (Nat.le_of_ble_eq_true rfl) dX0_newBooking_5 (fun H locs hP hS => ?_)
  refine lv_if_eq (tgt := 57) hx hb dX0_newBooking_8 (by decide) (fun c2 => ?_) (fun c2 => ?_)
  · have hF := it_t hF c2
    refine lv_iconst (v := (-1)) hx hb dX0_newBooking_57 (by decide) ?_
    obtain ⟨er, eM⟩ := pr_use hF
    exact rt_I hx hb hr hlocks hS (by rw [← eM]; exact hP) er dX0_newBooking_58
  · have hF := it_f hF c2
    refine lv_iload_n hx hb dX0_newBooking_11 rfl (lv_at hl 2 rfl) ?_
    refine lv_iconst (v := 0) hx hb dX0_newBooking_12 (by decide) ?_
    refine lv_sipush (v := 720) hx hb dX0_newBooking_13 (by decide) ?_
    obtain ⟨r3, hr3, hF⟩ := bd_use hF
    refine cl_SNI ⟨hx, hb, hml, hown, htb⟩ (kX8_inRange l D cS g cI x2 0 720 _ hr3) ⟨va_cnB 3 htb gX8_inRange_n rfl rfl rfl hG.2.2.2.1 (htb _ bw1_1) hdX8_inRange ⟨Nat.le_of_ble_eq_true rfl, Nat.le_of_ble_eq_true rfl⟩, (htb _ bw1_229), trivial⟩ hK (hDa _) hG hA hP hS sg_nil hl.1 rfl rfl (Nat.le_of_ble_eq_true rfl) dX0_newBooking_16 (fun H locs hP hS => ?_)
    refine lv_if_eq (tgt := 57) hx hb dX0_newBooking_19 (by decide) (fun c4 => ?_) (fun c4 => ?_)
    · have hF := it_t hF c4
      refine lv_iconst (v := (-1)) hx hb dX0_newBooking_57 (by decide) ?_
      obtain ⟨er, eM⟩ := pr_use hF
      exact rt_I hx hb hr hlocks hS (by rw [← eM]; exact hP) er dX0_newBooking_58
    · have hF := it_f hF c4
      refine lv_iload_n hx hb dX0_newBooking_22 rfl (lv_at hl 3 rfl) ?_
      refine lv_iconst (v := 2) hx hb dX0_newBooking_23 (by decide) ?_
      refine lv_aload_n hx hb dX0_newBooking_24 rfl (lv_at hl 0 rfl) ?_
      refine va_get (ci := 0) (v := .ref (a 1)) (C := RX0) (T := TX0) (N := 5) hx hb htb kin0 hown hK hP 0 (pDk_0 cI d a V) rfl 1 (by decide) (htb _ bw1_136) (fun _ h9 => h9) rfl dX0_newBooking_25 ?_
      refine lv_iload_n hx hb dX0_newBooking_28 rfl (lv_at hl 1 rfl) ?_
      refine lv_iconst (v := 3) hx hb dX0_newBooking_29 (by decide) ?_
      obtain ⟨r5, hr5, hF⟩ := bd_use hF
      refine cl_VI ⟨hx, hb, hml, hown, htb⟩ (kX6_cell l D cS g cI (a 1) (a 2) 44 4 11 (V.1) x1 3 _ hr5) (cwV 2 htb (gX6_cell bw2_115) rfl rfl rfl hdX6_cell ⟨Nat.le_of_ble_eq_true rfl, Nat.le_of_ble_eq_true rfl⟩) hK (hDa _) hG hA hP hS (sr_Dk_rooms cI d a V) hl.1 rfl 0 (pTb_0 _ _ _ _ _ _ _) rfl rfl (Nat.le_of_ble_eq_true rfl) dX0_newBooking_30 (fun H locs hP hS => ?_)
      obtain ⟨r6, hr6, hF⟩ := bd_use hF
      refine cl_SNI ⟨hx, hb, hml, hown, htb⟩ (kX8_inRange l D cS g cI x3 2 r5 _ hr6) ⟨va_cnB 3 htb gX8_inRange_n rfl rfl rfl hG.2.2.2.1 (htb _ bw1_1) hdX8_inRange ⟨Nat.le_of_ble_eq_true rfl, Nat.le_of_ble_eq_true rfl⟩, (htb _ bw1_229), trivial⟩ hK (hDa _) hG hA hP hS sg_nil hl.1 rfl rfl (Nat.le_of_ble_eq_true rfl) dX0_newBooking_33 (fun H locs hP hS => ?_)
      refine lv_if_eq (tgt := 57) hx hb dX0_newBooking_36 (by decide) (fun c7 => ?_) (fun c7 => ?_)
      · have hF := it_t hF c7
        refine lv_iconst (v := (-1)) hx hb dX0_newBooking_57 (by decide) ?_
        obtain ⟨er, eM⟩ := pr_use hF
        exact rt_I hx hb hr hlocks hS (by rw [← eM]; exact hP) er dX0_newBooking_58
      · have hF := it_f hF c7
        refine lv_iload hx hb dX0_newBooking_39 (lv_at hl 4 rfl) ?_
        refine lv_iconst (v := (-1)) hx hb dX0_newBooking_41 (by decide) ?_
        refine lv_icmp_eq (tgt := 59) hx hb dX0_newBooking_42 (by decide) (fun c8 => ?_) (fun c8 => ?_)
        · have hF := it_t hF c8
          exact j59 V x1 x2 x3 x4 _ _ _ hF hP hS (lv_sub hl [0, 1, 2, 3, 4] rfl)
        · have hF := it_f hF c8
          refine lv_aload_n hx hb dX0_newBooking_45 rfl (lv_at hl 0 rfl) ?_
          refine va_get (ci := 0) (v := .ref (a 5)) (C := RX0) (T := TX0) (N := 5) hx hb htb kin0 hown hK hP 0 (pDk_0 cI d a V) rfl 3 (by decide) (htb _ bw1_138) (fun _ h9 => h9) rfl dX0_newBooking_46 ?_
          refine lv_iload hx hb dX0_newBooking_49 (lv_at hl 4 rfl) ?_
          obtain ⟨r30, hr30, hF⟩ := bd_use hF
          refine cl_VI ⟨hx, hb, hml, hown, htb⟩ (kX6_has l D cS g cI (a 5) (a 6) 16 8 2 (V.2.2.1) x4 _ hr30) (cwV 1 htb (gX6_has bw2_111) rfl rfl rfl hdX6_has ⟨Nat.le_of_ble_eq_true rfl, Nat.le_of_ble_eq_true rfl⟩) hK (hDa _) hG hA hP hS (sr_Dk_vouchers cI d a V) hl.1 rfl 0 (pTb_0 _ _ _ _ _ _ _) rfl rfl (Nat.le_of_ble_eq_true rfl) dX0_newBooking_51 (fun H locs hP hS => ?_)
          refine lv_if_ne (tgt := 59) hx hb dX0_newBooking_54 (by decide) (fun c31 => ?_) (fun c31 => ?_)
          · have hF := it_f hF c31
            exact j59 V x1 x2 x3 x4 _ _ _ hF hP hS (lv_sub hl [0, 1, 2, 3, 4] rfl)
          · have hF := it_t hF c31
            refine lv_iconst (v := (-1)) hx hb dX0_newBooking_57 (by decide) ?_
            obtain ⟨er, eM⟩ := pr_use hF
            exact rt_I hx hb hr hlocks hS (by rw [← eM]; exact hP) er dX0_newBooking_58
noncomputable def fX0_changeTime  (V : Vn) (x1 : Int32) (x2 : Int32) : Option (Int32 × Vn) := (fX6_has 160 16 10 (V.2.1) x1).bind fun r1 => if r1 = 0 then (some ((-1), V)) else ((fX8_inRange x2 0 720).bind fun r3 => if r3 = 0 then (some ((-1), V)) else ((fX6_cell 160 16 10 (V.2.1) x1 0).bind fun r5 => (fX7_isBooked V x1).bind fun r6 => if r6 = 0 then (some ((-2), V)) else ((fX7_isPossible V r5 x2 x1).bind fun r8 => if r8 = 0 then (some ((-2), V)) else ((fX6_cell 160 16 10 (V.2.1) x1 1).bind fun r10 => (fX6_put 160 16 10 (V.2.1) x1 1 x2).bind fun M11 => nm ((V.1, M11, V.2.2)) fun M12 => some (r10, M12)))))
abbrev vX0_changeTime : List Cond := Cond.code yX0_changeTime cX0_changeTime 5 (some .int) :: BIG
theorem gX0_changeTime {own : String} {idx : Nat} (h : (Cond.methodLink own idx yX0_changeTime) ∈ BIG) : GoodIn BIG (wsV own idx RX0 yX0_changeTime vX0_changeTime) := gdV h bw2_206 bw2_207 bw1_7 bw2_208
def rmX0_changeTime : Room := { frames := 4, cells := 0, slots := 0, locals := 95 }
theorem hdX0_changeTime : yX0_changeTime.cls = RX0 ∧ yX0_changeTime.cls ≠ "java/lang/invoke/MethodHandle" ∧ yX0_changeTime.cls ≠ "java/lang/invoke/VarHandle" ∧ (parseMethodDescriptor yX0_changeTime.desc).map (fun d => d.parameters.length) = some 2 := by decide +kernel
set_option maxHeartbeats 4000000 in
set_option maxRecDepth 100000 in
theorem kX0_changeTime (l : Launch) (D : va_G) (cS : ClassId) (g : Nat → Nat) (cI : ClassId) (d : Nat) (a : Nat → Nat) (V : Vn) (x1 : Int32) (x2 : Int32) (r : Int32) (M' : Vn) (hF : fX0_changeTime V x1 x2 = some (r, M')) : mI l yX0_changeTime vX0_changeTime rmX0_changeTime D cI cS g [.ref d, .int x1, .int x2] (wDk cI d a V) r (wDk cI d a (M')) := by
  refine st_I rfl (by decide) (Nat.le_of_ble_eq_true rfl) ?_
  intro p e s m args below meth c A ls hx hb hr hml hlocks hown hts hA hK hD0 hG hP hS hl
  have hown : s.vm.findClass RX0 = some m.cls := hown
  have hDa : ∀ V, va_D A (wDk cI d a V) := fun V => hD0.adr rfl
  have htb : ∀ w ∈ BIG, w.before args s = true := fun w h => hts w (List.mem_cons_of_mem _ h)
  have hl : lv_has ls 5 [(0, .ref d), (1, .int x1), (2, .int x2)] := hl
  refine lv_aload_n hx hb dX0_changeTime_0 rfl (lv_at hl 0 rfl) ?_
  refine va_get (ci := 0) (v := .ref (a 3)) (C := RX0) (T := TX0) (N := 5) hx hb htb kin0 hown hK hP 0 (pDk_0 cI d a V) rfl 2 (by decide) (htb _ bw1_137) (fun _ h9 => h9) rfl dX0_changeTime_1 ?_
  refine lv_iload_n hx hb dX0_changeTime_4 rfl (lv_at hl 1 rfl) ?_
  obtain ⟨r1, hr1, hF⟩ := bd_use hF
  refine cl_VI ⟨hx, hb, hml, hown, htb⟩ (kX6_has l D cS g cI (a 3) (a 4) 160 16 10 (V.2.1) x1 _ hr1) (cwV 1 htb (gX6_has bw2_111) rfl rfl rfl hdX6_has ⟨Nat.le_of_ble_eq_true rfl, Nat.le_of_ble_eq_true rfl⟩) hK (hDa _) hG hA hP hS (sr_Dk_bookings cI d a V) hl.1 rfl 0 (pTb_0 _ _ _ _ _ _ _) rfl rfl (Nat.le_of_ble_eq_true rfl) dX0_changeTime_5 (fun H locs hP hS => ?_)
  refine lv_if_eq (tgt := 22) hx hb dX0_changeTime_8 (by decide) (fun c2 => ?_) (fun c2 => ?_)
  · have hF := it_t hF c2
    refine lv_iconst (v := (-1)) hx hb dX0_changeTime_22 (by decide) ?_
    obtain ⟨er, eM⟩ := pr_use hF
    exact rt_I hx hb hr hlocks hS (by rw [← eM]; exact hP) er dX0_changeTime_23
  · have hF := it_f hF c2
    refine lv_iload_n hx hb dX0_changeTime_11 rfl (lv_at hl 2 rfl) ?_
    refine lv_iconst (v := 0) hx hb dX0_changeTime_12 (by decide) ?_
    refine lv_sipush (v := 720) hx hb dX0_changeTime_13 (by decide) ?_
    obtain ⟨r3, hr3, hF⟩ := bd_use hF
    refine cl_SNI ⟨hx, hb, hml, hown, htb⟩ (kX8_inRange l D cS g cI x2 0 720 _ hr3) ⟨va_cnB 3 htb gX8_inRange_n rfl rfl rfl hG.2.2.2.1 (htb _ bw1_1) hdX8_inRange ⟨Nat.le_of_ble_eq_true rfl, Nat.le_of_ble_eq_true rfl⟩, (htb _ bw1_229), trivial⟩ hK (hDa _) hG hA hP hS sg_nil hl.1 rfl rfl (Nat.le_of_ble_eq_true rfl) dX0_changeTime_16 (fun H locs hP hS => ?_)
    refine lv_if_ne (tgt := 24) hx hb dX0_changeTime_19 (by decide) (fun c4 => ?_) (fun c4 => ?_)
    · have hF := it_f hF c4
      refine lv_aload_n hx hb dX0_changeTime_24 rfl (lv_at hl 0 rfl) ?_
      refine va_get (ci := 0) (v := .ref (a 3)) (C := RX0) (T := TX0) (N := 5) hx hb htb kin0 hown hK hP 0 (pDk_0 cI d a V) rfl 2 (by decide) (htb _ bw1_137) (fun _ h9 => h9) rfl dX0_changeTime_25 ?_
      refine lv_iload_n hx hb dX0_changeTime_28 rfl (lv_at hl 1 rfl) ?_
      refine lv_iconst (v := 0) hx hb dX0_changeTime_29 (by decide) ?_
      obtain ⟨r5, hr5, hF⟩ := bd_use hF
      refine cl_VI ⟨hx, hb, hml, hown, htb⟩ (kX6_cell l D cS g cI (a 3) (a 4) 160 16 10 (V.2.1) x1 0 _ hr5) (cwV 2 htb (gX6_cell bw2_115) rfl rfl rfl hdX6_cell ⟨Nat.le_of_ble_eq_true rfl, Nat.le_of_ble_eq_true rfl⟩) hK (hDa _) hG hA hP hS (sr_Dk_bookings cI d a V) hl.1 rfl 0 (pTb_0 _ _ _ _ _ _ _) rfl rfl (Nat.le_of_ble_eq_true rfl) dX0_changeTime_30 (fun H locs hP hS => ?_)
      refine lv_istore_n (lv' := [(3, .int r5), (0, .ref d), (1, .int x1), (2, .int x2)]) hx hb dX0_changeTime_33 rfl hl (by decide) rfl (fun ls hl => ?_)
      refine lv_aload_n hx hb dX0_changeTime_34 rfl (lv_at hl 1 rfl) ?_
      refine va_get (ci := 0) (v := .ref (a 0)) (C := RX0) (T := TX0) (N := 5) hx hb htb kin0 hown hK hP 0 (pDk_0 cI d a V) rfl 0 (by decide) (htb _ bw1_135) (fun _ h9 => h9) rfl dX0_changeTime_35 ?_
      refine lv_iload_n hx hb dX0_changeTime_38 rfl (lv_at hl 2 rfl) ?_
      obtain ⟨r6, hr6, hF⟩ := bd_use hF
      refine cl_VI ⟨hx, hb, hml, hown, htb⟩ (kX7_isBooked l D cS g cI a V x1 _ hr6) (cwV 1 htb (gX7_isBooked bw2_172) rfl rfl rfl hdX7_isBooked ⟨Nat.le_of_ble_eq_true rfl, Nat.le_of_ble_eq_true rfl⟩) hK (hDa _) hG hA hP hS (sr_Dk_Vn cI d a V) hl.1 rfl 0 (pVn_0 _ _ _) rfl rfl (Nat.le_of_ble_eq_true rfl) dX0_changeTime_39 (fun H locs hP hS => ?_)
      refine lv_if_eq (tgt := 58) hx hb dX0_changeTime_42 (by decide) (fun c7 => ?_) (fun c7 => ?_)
      · have hF := it_t hF c7
        refine lv_bipush (v := (-2)) hx hb dX0_changeTime_58 (by decide) ?_
        obtain ⟨er, eM⟩ := pr_use hF
        exact rt_I hx hb hr hlocks hS (by rw [← eM]; exact hP) er dX0_changeTime_60
      · have hF := it_f hF c7
        refine lv_aload_n hx hb dX0_changeTime_45 rfl (lv_at hl 1 rfl) ?_
        refine va_get (ci := 0) (v := .ref (a 0)) (C := RX0) (T := TX0) (N := 5) hx hb htb kin0 hown hK hP 0 (pDk_0 cI d a V) rfl 0 (by decide) (htb _ bw1_135) (fun _ h9 => h9) rfl dX0_changeTime_46 ?_
        refine lv_iload_n hx hb dX0_changeTime_49 rfl (lv_at hl 0 rfl) ?_
        refine lv_iload_n hx hb dX0_changeTime_50 rfl (lv_at hl 3 rfl) ?_
        refine lv_iload_n hx hb dX0_changeTime_51 rfl (lv_at hl 2 rfl) ?_
        obtain ⟨r8, hr8, hF⟩ := bd_use hF
        refine cl_VI ⟨hx, hb, hml, hown, htb⟩ (kX7_isPossible l D cS g cI a V r5 x2 x1 _ hr8) (cwV 3 htb (gX7_isPossible bw2_116) rfl rfl rfl hdX7_isPossible ⟨Nat.le_of_ble_eq_true rfl, Nat.le_of_ble_eq_true rfl⟩) hK (hDa _) hG hA hP hS (sr_Dk_Vn cI d a V) hl.1 rfl 0 (pVn_0 _ _ _) rfl rfl (Nat.le_of_ble_eq_true rfl) dX0_changeTime_52 (fun H locs hP hS => ?_)
        refine lv_if_ne (tgt := 61) hx hb dX0_changeTime_55 (by decide) (fun c9 => ?_) (fun c9 => ?_)
        · have hF := it_f hF c9
          refine lv_aload_n hx hb dX0_changeTime_61 rfl (lv_at hl 1 rfl) ?_
          refine va_get (ci := 0) (v := .ref (a 3)) (C := RX0) (T := TX0) (N := 5) hx hb htb kin0 hown hK hP 0 (pDk_0 cI d a V) rfl 2 (by decide) (htb _ bw1_137) (fun _ h9 => h9) rfl dX0_changeTime_62 ?_
          refine lv_iload_n hx hb dX0_changeTime_65 rfl (lv_at hl 2 rfl) ?_
          refine lv_iconst (v := 1) hx hb dX0_changeTime_66 (by decide) ?_
          obtain ⟨r10, hr10, hF⟩ := bd_use hF
          refine cl_VI ⟨hx, hb, hml, hown, htb⟩ (kX6_cell l D cS g cI (a 3) (a 4) 160 16 10 (V.2.1) x1 1 _ hr10) (cwV 2 htb (gX6_cell bw2_115) rfl rfl rfl hdX6_cell ⟨Nat.le_of_ble_eq_true rfl, Nat.le_of_ble_eq_true rfl⟩) hK (hDa _) hG hA hP hS (sr_Dk_bookings cI d a V) hl.1 rfl 0 (pTb_0 _ _ _ _ _ _ _) rfl rfl (Nat.le_of_ble_eq_true rfl) dX0_changeTime_67 (fun H locs hP hS => ?_)
          refine lv_istore (lv' := [(4, .int r10), (3, .int r5), (0, .ref d), (1, .int x1), (2, .int x2)]) hx hb dX0_changeTime_70 hl (by decide) rfl (fun ls hl => ?_)
          refine lv_aload_n hx hb dX0_changeTime_72 rfl (lv_at hl 2 rfl) ?_
          refine va_get (ci := 0) (v := .ref (a 3)) (C := RX0) (T := TX0) (N := 5) hx hb htb kin0 hown hK hP 0 (pDk_0 cI d a V) rfl 2 (by decide) (htb _ bw1_137) (fun _ h9 => h9) rfl dX0_changeTime_73 ?_
          refine lv_iload_n hx hb dX0_changeTime_76 rfl (lv_at hl 3 rfl) ?_
          refine lv_iconst (v := 1) hx hb dX0_changeTime_77 (by decide) ?_
          refine lv_iload_n hx hb dX0_changeTime_78 rfl (lv_at hl 4 rfl) ?_
          obtain ⟨M11, hM11, hF⟩ := bd_use hF
          refine cl_VV ⟨hx, hb, hml, hown, htb⟩ (kX6_put l D cS g cI (a 3) (a 4) 160 16 10 (V.2.1) x1 1 x2 _ hM11) (cwV 3 htb (gX6_put bw2_83) rfl rfl rfl hdX6_put ⟨Nat.le_of_ble_eq_true rfl, Nat.le_of_ble_eq_true rfl⟩) hK (hDa _) hG hA hP hS (sg_Dk_bookings cI d a V M11) hl.1 rfl 0 (pTb_0 _ _ _ _ _ _ _) rfl rfl (Nat.le_of_ble_eq_true rfl) dX0_changeTime_79 (fun H locs hP hS => ?_)
          obtain ⟨M12, eM12⟩ : ∃ z : Vn, z = (V.1, M11, V.2.2) := ⟨_, rfl⟩
          have hF := nm_use hF eM12
          have hP : va_P D vwCl (wDk cI d a M12) H := by rw [eM12]; exact hP
          refine lv_iload hx hb dX0_changeTime_82 (lv_at hl 0 rfl) ?_
          obtain ⟨er, eM⟩ := pr_use hF
          exact rt_I hx hb hr hlocks hS (by rw [← eM]; exact hP) er dX0_changeTime_84
        · have hF := it_t hF c9
          refine lv_bipush (v := (-2)) hx hb dX0_changeTime_58 (by decide) ?_
          obtain ⟨er, eM⟩ := pr_use hF
          exact rt_I hx hb hr hlocks hS (by rw [← eM]; exact hP) er dX0_changeTime_60
    · have hF := it_t hF c4
      refine lv_iconst (v := (-1)) hx hb dX0_changeTime_22 (by decide) ?_
      obtain ⟨er, eM⟩ := pr_use hF
      exact rt_I hx hb hr hlocks hS (by rw [← eM]; exact hP) er dX0_changeTime_23
noncomputable def fX0_refundPayment_j47  (V : Vn) (x3 : Int32) : Option (Int32 × Vn) := some (x3, V)
noncomputable def fX0_refundPayment  (V : Vn) (x1 : Int32) (x2 : Int32) : Option (Int32 × Vn) := (fX6_cell 64 16 4 (V.2.2.2.1) x1 2).bind fun r1 => nm (jmin x2 r1) fun v2 => if v2 ≤ 0 then (fX0_refundPayment_j47 V v2) else ((fX6_raise 64 16 4 (V.2.2.2.1) x1 2 (-v2)).bind fun M4 => nm ((V.1, V.2.1, V.2.2.1, M4, V.2.2.2.2)) fun M5 => (fX6_cell 64 16 4 (M5.2.2.2.1) x1 1).bind fun r6 => (fX6_raise 16 8 2 (M5.2.2.1) r6 1 v2).bind fun M7 => nm ((M5.1, M5.2.1, M7, M5.2.2.2)) fun M8 => fX0_refundPayment_j47 M8 v2)
abbrev vX0_refundPayment : List Cond := Cond.code yX0_refundPayment cX0_refundPayment 4 (some .int) :: BIG
theorem gX0_refundPayment {own : String} {idx : Nat} (h : (Cond.methodLink own idx yX0_refundPayment) ∈ BIG) : GoodIn BIG (wsV own idx RX0 yX0_refundPayment vX0_refundPayment) := gdV h bw2_199 bs4 bw1_7 bw2_200
def rmX0_refundPayment : Room := { frames := 2, cells := 0, slots := 0, locals := 48 }
theorem hdX0_refundPayment : yX0_refundPayment.cls = RX0 ∧ yX0_refundPayment.cls ≠ "java/lang/invoke/MethodHandle" ∧ yX0_refundPayment.cls ≠ "java/lang/invoke/VarHandle" ∧ (parseMethodDescriptor yX0_refundPayment.desc).map (fun d => d.parameters.length) = some 2 := by decide +kernel
set_option maxHeartbeats 4000000 in
set_option maxRecDepth 100000 in
theorem kX0_refundPayment (l : Launch) (D : va_G) (cS : ClassId) (g : Nat → Nat) (cI : ClassId) (d : Nat) (a : Nat → Nat) (V : Vn) (x1 : Int32) (x2 : Int32) (r : Int32) (M' : Vn) (hF : fX0_refundPayment V x1 x2 = some (r, M')) : mI l yX0_refundPayment vX0_refundPayment rmX0_refundPayment D cI cS g [.ref d, .int x1, .int x2] (wDk cI d a V) r (wDk cI d a (M')) := by
  refine st_I rfl (by decide) (Nat.le_of_ble_eq_true rfl) ?_
  intro p e s m args below meth c A ls hx hb hr hml hlocks hown hts hA hK hD0 hG hP hS hl
  have hown : s.vm.findClass RX0 = some m.cls := hown
  have hDa : ∀ V, va_D A (wDk cI d a V) := fun V => hD0.adr rfl
  have htb : ∀ w ∈ BIG, w.before args s = true := fun w h => hts w (List.mem_cons_of_mem _ h)
  have hl : lv_has ls 4 [(0, .ref d), (1, .int x1), (2, .int x2)] := hl
  have j47 : ∀ (V : Vn) (x3 : Int32) (H : Heap) (locs : List Loc) (ls : Array Slot), fX0_refundPayment_j47 V x3 = some (r, M') → va_P D vwCl (wDk cI d a V) H → va_S A s.heap H locs → lv_has ls 4 [(3, .int x3)] → W p l e rmX0_refundPayment s m args below meth c H locs 0 0 (MQ below (qI D r (wDk cI d a (M')) A) args s 0 0 A) (F0 m 47 ls []) := by
    intro V x3 H locs ls hF hP hS hl
    refine lv_iload_n hx hb dX0_refundPayment_47 rfl (lv_at hl 0 rfl) ?_
    obtain ⟨er, eM⟩ := pr_use hF
    exact rt_I hx hb hr hlocks hS (by rw [← eM]; exact hP) er dX0_refundPayment_48
  refine lv_iload_n hx hb dX0_refundPayment_0 rfl (lv_at hl 2 rfl) ?_
  refine lv_aload_n hx hb dX0_refundPayment_1 rfl (lv_at hl 0 rfl) ?_
  refine va_get (ci := 0) (v := .ref (a 7)) (C := RX0) (T := TX0) (N := 5) hx hb htb kin0 hown hK hP 0 (pDk_0 cI d a V) rfl 4 (by decide) (htb _ bw1_139) (fun _ h9 => h9) rfl dX0_refundPayment_2 ?_
  refine lv_iload_n hx hb dX0_refundPayment_5 rfl (lv_at hl 1 rfl) ?_
  refine lv_iconst (v := 2) hx hb dX0_refundPayment_6 (by decide) ?_
  obtain ⟨r1, hr1, hF⟩ := bd_use hF
  refine cl_VI ⟨hx, hb, hml, hown, htb⟩ (kX6_cell l D cS g cI (a 7) (a 8) 64 16 4 (V.2.2.2.1) x1 2 _ hr1) (cwV 2 htb (gX6_cell bw2_115) rfl rfl rfl hdX6_cell ⟨Nat.le_of_ble_eq_true rfl, Nat.le_of_ble_eq_true rfl⟩) hK (hDa _) hG hA hP hS (sr_Dk_payments cI d a V) hl.1 rfl 0 (pTb_0 _ _ _ _ _ _ _) rfl rfl (Nat.le_of_ble_eq_true rfl) dX0_refundPayment_7 (fun H locs hP hS => ?_)
  refine va_mmin hx hb (hml.trans hl.1.symm) hown (htb _ bw2_140) (htb _ bw2_66) (htb _ bw1_5) (htb _ bw2_67) (Nat.le_of_ble_eq_true rfl) (Nat.le_of_ble_eq_true rfl) (Nat.zero_le _) (Nat.zero_le _) dX0_refundPayment_10 ?_
  refine lv_topi (fun v2 ev2 => ?_)
  have hF := nm_use hF ev2
  refine lv_istore_n (lv' := [(3, .int v2), (0, .ref d), (1, .int x1), (2, .int x2)]) hx hb dX0_refundPayment_13 rfl hl (by decide) rfl (fun ls hl => ?_)
  refine lv_iload_n hx hb dX0_refundPayment_14 rfl (lv_at hl 0 rfl) ?_
  refine lv_if_le (tgt := 47) hx hb dX0_refundPayment_15 (by decide) (fun c3 => ?_) (fun c3 => ?_)
  · have hF := it_t hF c3
    exact j47 V v2 _ _ _ hF hP hS (lv_sub hl [0] rfl)
  · have hF := it_f hF c3
    refine lv_aload_n hx hb dX0_refundPayment_18 rfl (lv_at hl 1 rfl) ?_
    refine va_get (ci := 0) (v := .ref (a 7)) (C := RX0) (T := TX0) (N := 5) hx hb htb kin0 hown hK hP 0 (pDk_0 cI d a V) rfl 4 (by decide) (htb _ bw1_139) (fun _ h9 => h9) rfl dX0_refundPayment_19 ?_
    refine lv_iload_n hx hb dX0_refundPayment_22 rfl (lv_at hl 2 rfl) ?_
    refine lv_iconst (v := 2) hx hb dX0_refundPayment_23 (by decide) ?_
    refine lv_iload_n hx hb dX0_refundPayment_24 rfl (lv_at hl 0 rfl) ?_
    refine lv_ineg hx hb dX0_refundPayment_25 ?_
    obtain ⟨M4, hM4, hF⟩ := bd_use hF
    refine cl_VV ⟨hx, hb, hml, hown, htb⟩ (kX6_raise l D cS g cI (a 7) (a 8) 64 16 4 (V.2.2.2.1) x1 2 (-v2) _ hM4) (cwV 3 htb (gX6_raise bw2_141) rfl rfl rfl hdX6_raise ⟨Nat.le_of_ble_eq_true rfl, Nat.le_of_ble_eq_true rfl⟩) hK (hDa _) hG hA hP hS (sg_Dk_payments cI d a V M4) hl.1 rfl 0 (pTb_0 _ _ _ _ _ _ _) rfl rfl (Nat.le_of_ble_eq_true rfl) dX0_refundPayment_26 (fun H locs hP hS => ?_)
    obtain ⟨M5, eM5⟩ : ∃ z : Vn, z = (V.1, V.2.1, V.2.2.1, M4, V.2.2.2.2) := ⟨_, rfl⟩
    have hF := nm_use hF eM5
    have hP : va_P D vwCl (wDk cI d a M5) H := by rw [eM5]; exact hP
    refine lv_aload_n hx hb dX0_refundPayment_29 rfl (lv_at hl 1 rfl) ?_
    refine va_get (ci := 0) (v := .ref (a 5)) (C := RX0) (T := TX0) (N := 5) hx hb htb kin0 hown hK hP 0 (pDk_0 cI d a M5) rfl 3 (by decide) (htb _ bw1_138) (fun _ h9 => h9) rfl dX0_refundPayment_30 ?_
    refine lv_aload_n hx hb dX0_refundPayment_33 rfl (lv_at hl 1 rfl) ?_
    refine va_get (ci := 0) (v := .ref (a 7)) (C := RX0) (T := TX0) (N := 5) hx hb htb kin0 hown hK hP 0 (pDk_0 cI d a M5) rfl 4 (by decide) (htb _ bw1_139) (fun _ h9 => h9) rfl dX0_refundPayment_34 ?_
    refine lv_iload_n hx hb dX0_refundPayment_37 rfl (lv_at hl 2 rfl) ?_
    refine lv_iconst (v := 1) hx hb dX0_refundPayment_38 (by decide) ?_
    obtain ⟨r6, hr6, hF⟩ := bd_use hF
    refine cl_VI ⟨hx, hb, hml, hown, htb⟩ (kX6_cell l D cS g cI (a 7) (a 8) 64 16 4 (M5.2.2.2.1) x1 1 _ hr6) (cwV 2 htb (gX6_cell bw2_115) rfl rfl rfl hdX6_cell ⟨Nat.le_of_ble_eq_true rfl, Nat.le_of_ble_eq_true rfl⟩) hK (hDa _) hG hA hP hS (sr_Dk_payments cI d a M5) hl.1 rfl 0 (pTb_0 _ _ _ _ _ _ _) rfl rfl (Nat.le_of_ble_eq_true rfl) dX0_refundPayment_39 (fun H locs hP hS => ?_)
    refine lv_iconst (v := 1) hx hb dX0_refundPayment_42 (by decide) ?_
    refine lv_iload_n hx hb dX0_refundPayment_43 rfl (lv_at hl 0 rfl) ?_
    obtain ⟨M7, hM7, hF⟩ := bd_use hF
    refine cl_VV ⟨hx, hb, hml, hown, htb⟩ (kX6_raise l D cS g cI (a 5) (a 6) 16 8 2 (M5.2.2.1) r6 1 v2 _ hM7) (cwV 3 htb (gX6_raise bw2_141) rfl rfl rfl hdX6_raise ⟨Nat.le_of_ble_eq_true rfl, Nat.le_of_ble_eq_true rfl⟩) hK (hDa _) hG hA hP hS (sg_Dk_vouchers cI d a M5 M7) hl.1 rfl 0 (pTb_0 _ _ _ _ _ _ _) rfl rfl (Nat.le_of_ble_eq_true rfl) dX0_refundPayment_44 (fun H locs hP hS => ?_)
    obtain ⟨M8, eM8⟩ : ∃ z : Vn, z = (M5.1, M5.2.1, M7, M5.2.2.2) := ⟨_, rfl⟩
    have hF := nm_use hF eM8
    have hP : va_P D vwCl (wDk cI d a M8) H := by rw [eM8]; exact hP
    exact j47 M8 v2 _ _ _ hF hP hS (lv_sub hl [0] rfl)
noncomputable def fX0_refund_l47  (x1 : Int32) (x2 : Int32) (kk : Vn → Int32 → Option (Vn)) : Nat → Vn → Int32 → Int32 → Option (Vn) := fun fu => Nat.rec (motive := fun _ => Vn → Int32 → Int32 → Option (Vn)) (fun _ _ _ => none) (fun _ ih => fun V x4 x5 => if x5 < 0 then (kk V x4) else (if x4 ≤ 0 then (kk V x4) else ((fX7_paymentAt V x1 x5).bind fun r10 => b2 (fX0_refundPayment V r10 x4) fun r12 M11 => nm (x4 - r12) fun v13 => nm (x5 + (-1)) fun v14 => ih M11 v13 v14))) fu
theorem fX0_refund_l47_s  (x1 : Int32) (x2 : Int32) (kk : Vn → Int32 → Option (Vn)) (fu : Nat) (V : Vn) (x4 : Int32) (x5 : Int32) : fX0_refund_l47 x1 x2 kk (fu + 1) V x4 x5 = (if x5 < 0 then (kk V x4) else (if x4 ≤ 0 then (kk V x4) else ((fX7_paymentAt V x1 x5).bind fun r10 => b2 (fX0_refundPayment V r10 x4) fun r12 M11 => nm (x4 - r12) fun v13 => nm (x5 + (-1)) fun v14 => (fX0_refund_l47 x1 x2 kk fu) M11 v13 v14))) := rfl
theorem fX0_refund_l47_z  (x1 : Int32) (x2 : Int32) (kk : Vn → Int32 → Option (Vn)) (V : Vn) (x4 : Int32) (x5 : Int32) : fX0_refund_l47 x1 x2 kk 0 V x4 x5 = none := rfl
noncomputable def fX0_refund  (V : Vn) (x1 : Int32) (x2 : Int32) : Option (Vn) := (fX6_cell 160 16 10 (V.2.1) x1 5).bind fun r1 => nm (jmin x2 r1) fun v2 => (fX6_raise 160 16 10 (V.2.1) x1 5 (-v2)).bind fun M3 => nm ((V.1, M3, V.2.2)) fun M4 => nm ((M4.2.2.2.2.2) - v2) fun v5 => nm ((M4.1, M4.2.1, M4.2.2.1, M4.2.2.2.1, M4.2.2.2.2.1, v5)) fun M6 => nm (x2 - v2) fun v7 => fX0_refund_l47 x1 x2 (fun M16 y15 => (fX6_raise 160 16 10 (M16.2.1) x1 7 (x2 - y15)).bind fun M17 => nm ((M16.1, M17, M16.2.2)) fun M18 => some M18) FU M6 v7 15
abbrev vX0_refund : List Cond := Cond.code yX0_refund cX0_refund 6 none :: BIG
theorem gX0_refund {own : String} {idx : Nat} (h : (Cond.methodLink own idx yX0_refund) ∈ BIG) : GoodIn BIG (wsV own idx RX0 yX0_refund vX0_refund) := gdV h bw2_191 bs3 bw1_7 bw2_192
def rmX0_refund : Room := { frames := 3, cells := 0, slots := 0, locals := 71 }
theorem hdX0_refund : yX0_refund.cls = RX0 ∧ yX0_refund.cls ≠ "java/lang/invoke/MethodHandle" ∧ yX0_refund.cls ≠ "java/lang/invoke/VarHandle" ∧ (parseMethodDescriptor yX0_refund.desc).map (fun d => d.parameters.length) = some 2 := by decide +kernel
set_option maxHeartbeats 4000000 in
set_option maxRecDepth 100000 in
theorem kX0_refund (l : Launch) (D : va_G) (cS : ClassId) (g : Nat → Nat) (cI : ClassId) (d : Nat) (a : Nat → Nat) (V : Vn) (x1 : Int32) (x2 : Int32) (M' : Vn) (hF : fX0_refund V x1 x2 = some M') : mV l yX0_refund vX0_refund rmX0_refund D cI cS g [.ref d, .int x1, .int x2] (wDk cI d a V) (wDk cI d a (M')) := by
  refine st_V rfl (by decide) (Nat.le_of_ble_eq_true rfl) ?_
  intro p e s m args below meth c A ls hx hb hr hml hlocks hown hts hA hK hD0 hG hP hS hl
  have hown : s.vm.findClass RX0 = some m.cls := hown
  have hDa : ∀ V, va_D A (wDk cI d a V) := fun V => hD0.adr rfl
  have htb : ∀ w ∈ BIG, w.before args s = true := fun w h => hts w (List.mem_cons_of_mem _ h)
  have hl : lv_has ls 6 [(0, .ref d), (1, .int x1), (2, .int x2)] := hl
  have l47 : ∀ (x1 : Int32) (x2 : Int32) (kk : Vn → Int32 → Option (Vn)) (fu : Nat) (V : Vn) (x4 : Int32) (x5 : Int32) (H : Heap) (locs : List Loc) (ls : Array Slot), fX0_refund_l47 x1 x2 kk fu V x4 x5 = some M' → va_P D vwCl (wDk cI d a V) H → va_S A s.heap H locs → lv_has ls 6 [(0, .ref d), (1, .int x1), (2, .int x2), (4, .int x4), (5, .int x5)] → (∀ (V : Vn) (x4 : Int32) (H : Heap) (locs : List Loc) (ls : Array Slot), kk V x4 = some M' → va_P D vwCl (wDk cI d a V) H → va_S A s.heap H locs → lv_has ls 6 [(0, .ref d), (1, .int x1), (2, .int x2), (4, .int x4)] → W p l e rmX0_refund s m args below meth c H locs 0 0 (MQ below (qV D (wDk cI d a (M')) A) args s 0 0 A) (F0 m 84 ls [])) → W p l e rmX0_refund s m args below meth c H locs 0 0 (MQ below (qV D (wDk cI d a (M')) A) args s 0 0 A) (F0 m 47 ls []) := by
    intro x1 x2 kk fu
    induction fu with
    | zero => intro V x4 x5 H locs ls hF; exact nn_use hF
    | succ fu ihn =>
      intro V x4 x5 H locs ls hF hP hS hl after
      rw [fX0_refund_l47_s] at hF
      refine lv_iload hx hb dX0_refund_47 (lv_at hl 4 rfl) ?_
      refine lv_if_lt (tgt := 84) hx hb dX0_refund_49 (by decide) (fun c8 => ?_) (fun c8 => ?_)
      · have hF := it_t hF c8
        exact after V x4 _ _ _ hF hP hS (lv_sub hl [0, 1, 2, 3] rfl)
      · have hF := it_f hF c8
        refine lv_iload hx hb dX0_refund_52 (lv_at hl 3 rfl) ?_
        refine lv_if_le (tgt := 84) hx hb dX0_refund_54 (by decide) (fun c9 => ?_) (fun c9 => ?_)
        · have hF := it_t hF c9
          exact after V x4 _ _ _ hF hP hS (lv_sub hl [0, 1, 2, 3] rfl)
        · have hF := it_f hF c9
          refine lv_iload hx hb dX0_refund_57 (lv_at hl 3 rfl) ?_
          refine lv_aload_n hx hb dX0_refund_59 rfl (lv_at hl 0 rfl) ?_
          refine lv_aload_n hx hb dX0_refund_60 rfl (lv_at hl 0 rfl) ?_
          refine va_get (ci := 0) (v := .ref (a 0)) (C := RX0) (T := TX0) (N := 5) hx hb htb kin0 hown hK hP 0 (pDk_0 cI d a V) rfl 0 (by decide) (htb _ bw1_135) (fun _ h9 => h9) rfl dX0_refund_61 ?_
          refine lv_iload_n hx hb dX0_refund_64 rfl (lv_at hl 1 rfl) ?_
          refine lv_iload hx hb dX0_refund_65 (lv_at hl 4 rfl) ?_
          obtain ⟨r10, hr10, hF⟩ := bd_use hF
          refine cl_VI ⟨hx, hb, hml, hown, htb⟩ (kX7_paymentAt l D cS g cI a V x1 x5 _ hr10) (cwV 2 htb (gX7_paymentAt bw2_193) rfl rfl rfl hdX7_paymentAt ⟨Nat.le_of_ble_eq_true rfl, Nat.le_of_ble_eq_true rfl⟩) hK (hDa _) hG hA hP hS (sr_Dk_Vn cI d a V) hl.1 rfl 0 (pVn_0 _ _ _) rfl rfl (Nat.le_of_ble_eq_true rfl) dX0_refund_67 (fun H locs hP hS => ?_)
          refine lv_iload hx hb dX0_refund_70 (lv_at hl 3 rfl) ?_
          obtain ⟨r12, M11, hM11, hF⟩ := b2_use hF
          refine cl_VI ⟨hx, hb, hml, hown, htb⟩ (kX0_refundPayment l D cS g cI d a V r10 x4 _ _ hM11) (cwV 2 htb (gX0_refundPayment bw2_197) rfl rfl rfl hdX0_refundPayment ⟨Nat.le_of_ble_eq_true rfl, Nat.le_of_ble_eq_true rfl⟩) hK (hDa _) hG hA hP hS (sg_Dk_Dk cI d a V M11) hl.1 rfl 0 (pDk_0 _ _ _ _) rfl rfl (Nat.le_of_ble_eq_true rfl) dX0_refund_72 (fun H locs hP hS => ?_)
          refine lv_isub hx hb dX0_refund_75 ?_
          refine lv_topi (fun v13 ev13 => ?_)
          have hF := nm_use hF ev13
          refine lv_istore (lv' := [(4, .int v13), (0, .ref d), (1, .int x1), (2, .int x2), (5, .int x5)]) hx hb dX0_refund_76 hl (by decide) rfl (fun ls hl => ?_)
          obtain ⟨v14, ev14⟩ : ∃ z : Int32, z = x5 + (-1) := ⟨_, rfl⟩
          refine lv_iinc (v := v14) (lv' := [(5, .int v14), (4, .int v13), (0, .ref d), (1, .int x1), (2, .int x2)]) hx hb dX0_refund_78 hl (k := 4) rfl (by rw [ev14]; rfl) (by decide) rfl (fun ls hl => ?_)
          have hF := nm_use hF ev14
          refine lv_goto (tgt := 47) hx hb dX0_refund_81 (by decide) ?_
          exact ihn M11 v13 v14 _ _ _ hF hP hS (lv_sub hl [2, 3, 4, 1, 0] rfl) after
  refine lv_iload_n hx hb dX0_refund_0 rfl (lv_at hl 2 rfl) ?_
  refine lv_aload_n hx hb dX0_refund_1 rfl (lv_at hl 0 rfl) ?_
  refine va_get (ci := 0) (v := .ref (a 3)) (C := RX0) (T := TX0) (N := 5) hx hb htb kin0 hown hK hP 0 (pDk_0 cI d a V) rfl 2 (by decide) (htb _ bw1_137) (fun _ h9 => h9) rfl dX0_refund_2 ?_
  refine lv_iload_n hx hb dX0_refund_5 rfl (lv_at hl 1 rfl) ?_
  refine lv_iconst (v := 5) hx hb dX0_refund_6 (by decide) ?_
  obtain ⟨r1, hr1, hF⟩ := bd_use hF
  refine cl_VI ⟨hx, hb, hml, hown, htb⟩ (kX6_cell l D cS g cI (a 3) (a 4) 160 16 10 (V.2.1) x1 5 _ hr1) (cwV 2 htb (gX6_cell bw2_115) rfl rfl rfl hdX6_cell ⟨Nat.le_of_ble_eq_true rfl, Nat.le_of_ble_eq_true rfl⟩) hK (hDa _) hG hA hP hS (sr_Dk_bookings cI d a V) hl.1 rfl 0 (pTb_0 _ _ _ _ _ _ _) rfl rfl (Nat.le_of_ble_eq_true rfl) dX0_refund_7 (fun H locs hP hS => ?_)
  refine va_mmin hx hb (hml.trans hl.1.symm) hown (htb _ bw2_140) (htb _ bw2_66) (htb _ bw1_5) (htb _ bw2_67) (Nat.le_of_ble_eq_true rfl) (Nat.le_of_ble_eq_true rfl) (Nat.zero_le _) (Nat.zero_le _) dX0_refund_10 ?_
  refine lv_topi (fun v2 ev2 => ?_)
  have hF := nm_use hF ev2
  refine lv_istore_n (lv' := [(3, .int v2), (0, .ref d), (1, .int x1), (2, .int x2)]) hx hb dX0_refund_13 rfl hl (by decide) rfl (fun ls hl => ?_)
  refine lv_aload_n hx hb dX0_refund_14 rfl (lv_at hl 1 rfl) ?_
  refine va_get (ci := 0) (v := .ref (a 3)) (C := RX0) (T := TX0) (N := 5) hx hb htb kin0 hown hK hP 0 (pDk_0 cI d a V) rfl 2 (by decide) (htb _ bw1_137) (fun _ h9 => h9) rfl dX0_refund_15 ?_
  refine lv_iload_n hx hb dX0_refund_18 rfl (lv_at hl 2 rfl) ?_
  refine lv_iconst (v := 5) hx hb dX0_refund_19 (by decide) ?_
  refine lv_iload_n hx hb dX0_refund_20 rfl (lv_at hl 0 rfl) ?_
  refine lv_ineg hx hb dX0_refund_21 ?_
  obtain ⟨M3, hM3, hF⟩ := bd_use hF
  refine cl_VV ⟨hx, hb, hml, hown, htb⟩ (kX6_raise l D cS g cI (a 3) (a 4) 160 16 10 (V.2.1) x1 5 (-v2) _ hM3) (cwV 3 htb (gX6_raise bw2_141) rfl rfl rfl hdX6_raise ⟨Nat.le_of_ble_eq_true rfl, Nat.le_of_ble_eq_true rfl⟩) hK (hDa _) hG hA hP hS (sg_Dk_bookings cI d a V M3) hl.1 rfl 0 (pTb_0 _ _ _ _ _ _ _) rfl rfl (Nat.le_of_ble_eq_true rfl) dX0_refund_22 (fun H locs hP hS => ?_)
  obtain ⟨M4, eM4⟩ : ∃ z : Vn, z = (V.1, M3, V.2.2) := ⟨_, rfl⟩
  have hF := nm_use hF eM4
  have hP : va_P D vwCl (wDk cI d a M4) H := by rw [eM4]; exact hP
  refine lv_aload_n hx hb dX0_refund_25 rfl (lv_at hl 1 rfl) ?_
  refine va_get (ci := 0) (v := .ref (a 0)) (C := RX0) (T := TX0) (N := 5) hx hb htb kin0 hown hK hP 0 (pDk_0 cI d a M4) rfl 0 (by decide) (htb _ bw1_135) (fun _ h9 => h9) rfl dX0_refund_26 ?_
  refine lv_dup hx hb dX0_refund_29 rfl ?_
  refine va_get (ci := 7) (v := .int (M4.2.2.2.2.2)) (C := RX7) (T := TX7) (N := 6) hx hb htb kin7 hown hK hP 1 (pDk_1 cI d a M4) rfl 5 (by decide) (htb _ bw1_87) (fun _ h9 => h9) rfl dX0_refund_30 ?_
  refine lv_iload_n hx hb dX0_refund_33 rfl (lv_at hl 0 rfl) ?_
  refine lv_isub hx hb dX0_refund_34 ?_
  refine lv_topi (fun v5 ev5 => ?_)
  have hF := nm_use hF ev5
  refine va_put (ci := 7) (v := .int v5) (ty := .int) (C := RX7) (T := TX7) (N := 6) hx hb htb kin7 tyX7 tyX7_ok nmX7 hown hK hP (hDa _) hS 1 (pDk_1 cI d a M4) rfl 5 (by decide) (htb _ bw1_87) (fun _ h9 => h9) rfl (by decide +kernel) rfl rfl (Nat.le_of_ble_eq_true rfl) dX0_refund_35 (fun H locs hP _ hS => ?_)
  obtain ⟨M6, eM6⟩ : ∃ z : Vn, z = (M4.1, M4.2.1, M4.2.2.1, M4.2.2.2.1, M4.2.2.2.2.1, v5) := ⟨_, rfl⟩
  have hF := nm_use hF eM6
  have hP : va_P D vwCl (wDk cI d a M6) H := by rw [eM6]; exact hP
  refine lv_iload_n hx hb dX0_refund_38 rfl (lv_at hl 3 rfl) ?_
  refine lv_iload_n hx hb dX0_refund_39 rfl (lv_at hl 0 rfl) ?_
  refine lv_isub hx hb dX0_refund_40 ?_
  refine lv_topi (fun v7 ev7 => ?_)
  have hF := nm_use hF ev7
  refine lv_istore (lv' := [(4, .int v7), (3, .int v2), (0, .ref d), (1, .int x1), (2, .int x2)]) hx hb dX0_refund_41 hl (by decide) rfl (fun ls hl => ?_)
  refine lv_bipush (v := 15) hx hb dX0_refund_43 (by decide) ?_
  refine lv_istore (lv' := [(5, .int 15), (4, .int v7), (3, .int v2), (0, .ref d), (1, .int x1), (2, .int x2)]) hx hb dX0_refund_45 hl (by decide) rfl (fun ls hl => ?_)
  refine l47 x1 x2 _ _ M6 v7 15 _ _ _ hF hP hS (lv_sub hl [3, 4, 5, 1, 0] rfl) ?_
  · intro M16 y15 H locs ls hF hP hS hl
    refine lv_aload_n hx hb dX0_refund_84 rfl (lv_at hl 0 rfl) ?_
    refine va_get (ci := 0) (v := .ref (a 3)) (C := RX0) (T := TX0) (N := 5) hx hb htb kin0 hown hK hP 0 (pDk_0 cI d a M16) rfl 2 (by decide) (htb _ bw1_137) (fun _ h9 => h9) rfl dX0_refund_85 ?_
    refine lv_iload_n hx hb dX0_refund_88 rfl (lv_at hl 1 rfl) ?_
    refine lv_bipush (v := 7) hx hb dX0_refund_89 (by decide) ?_
    refine lv_iload_n hx hb dX0_refund_91 rfl (lv_at hl 2 rfl) ?_
    refine lv_iload hx hb dX0_refund_92 (lv_at hl 3 rfl) ?_
    refine lv_isub hx hb dX0_refund_94 ?_
    obtain ⟨M17, hM17, hF⟩ := bd_use hF
    refine cl_VV ⟨hx, hb, hml, hown, htb⟩ (kX6_raise l D cS g cI (a 3) (a 4) 160 16 10 (M16.2.1) x1 7 (x2 - y15) _ hM17) (cwV 3 htb (gX6_raise bw2_141) rfl rfl rfl hdX6_raise ⟨Nat.le_of_ble_eq_true rfl, Nat.le_of_ble_eq_true rfl⟩) hK (hDa _) hG hA hP hS (sg_Dk_bookings cI d a M16 M17) hl.1 rfl 0 (pTb_0 _ _ _ _ _ _ _) rfl rfl (Nat.le_of_ble_eq_true rfl) dX0_refund_95 (fun H locs hP hS => ?_)
    obtain ⟨M18, eM18⟩ : ∃ z : Vn, z = (M16.1, M17, M16.2.2) := ⟨_, rfl⟩
    have hF := nm_use hF eM18
    have hP : va_P D vwCl (wDk cI d a M18) H := by rw [eM18]; exact hP
    exact rt_V hx hb hr hlocks hS (by rw [← so_use hF]; exact hP) dX0_refund_98
noncomputable def fX0_callOff_j84  (V : Vn) (x1 : Int32) (s0 : Int32) : Option (Int32 × Vn) := (fX6_put 160 16 10 (V.2.1) x1 3 2).bind fun M14 => nm ((V.1, M14, V.2.2)) fun M15 => (fX0_refund M15 x1 s0).bind fun M16 => some (s0, M16)
noncomputable def fX0_callOff  (V : Vn) (x1 : Int32) : Option (Int32 × Vn) := (fX6_has 160 16 10 (V.2.1) x1).bind fun r1 => if r1 = 0 then (some ((-1), V)) else ((fX7_isBooked V x1).bind fun r3 => if r3 = 0 then (some ((-2), V)) else ((fX7_forecastStart V x1).bind fun r5 => (fX6_cell 160 16 10 (V.2.1) x1 1).bind fun r6 => nm (r5 - r6) fun v7 => (fX6_cell 160 16 10 (V.2.1) x1 5).bind fun r8 => (fX7_paidByVouchers V x1).bind fun r9 => nm (r8 + r9) fun v10 => (fX7_setting V 3).bind fun r11 => if v7 ≤ r11 then (Dv v10 2 fun v13 => fX0_callOff_j84 V x1 v13) else (fX0_callOff_j84 V x1 v10)))
abbrev vX0_callOff : List Cond := Cond.code yX0_callOff cX0_callOff 5 (some .int) :: BIG
theorem gX0_callOff {own : String} {idx : Nat} (h : (Cond.methodLink own idx yX0_callOff) ∈ BIG) : GoodIn BIG (wsV own idx RX0 yX0_callOff vX0_callOff) := gdV h bw2_169 bw2_170 bw1_7 bw2_171
def rmX0_callOff : Room := { frames := 4, cells := 0, slots := 0, locals := 96 }
theorem hdX0_callOff : yX0_callOff.cls = RX0 ∧ yX0_callOff.cls ≠ "java/lang/invoke/MethodHandle" ∧ yX0_callOff.cls ≠ "java/lang/invoke/VarHandle" ∧ (parseMethodDescriptor yX0_callOff.desc).map (fun d => d.parameters.length) = some 1 := by decide +kernel
set_option maxHeartbeats 4000000 in
set_option maxRecDepth 100000 in
theorem kX0_callOff (l : Launch) (D : va_G) (cS : ClassId) (g : Nat → Nat) (cI : ClassId) (d : Nat) (a : Nat → Nat) (V : Vn) (x1 : Int32) (r : Int32) (M' : Vn) (hF : fX0_callOff V x1 = some (r, M')) : mI l yX0_callOff vX0_callOff rmX0_callOff D cI cS g [.ref d, .int x1] (wDk cI d a V) r (wDk cI d a (M')) := by
  refine st_I rfl (by decide) (Nat.le_of_ble_eq_true rfl) ?_
  intro p e s m args below meth c A ls hx hb hr hml hlocks hown hts hA hK hD0 hG hP hS hl
  have hown : s.vm.findClass RX0 = some m.cls := hown
  have hDa : ∀ V, va_D A (wDk cI d a V) := fun V => hD0.adr rfl
  have htb : ∀ w ∈ BIG, w.before args s = true := fun w h => hts w (List.mem_cons_of_mem _ h)
  have hl : lv_has ls 5 [(0, .ref d), (1, .int x1)] := hl
  have j84 : ∀ (V : Vn) (x1 : Int32) (s0 : Int32) (H : Heap) (locs : List Loc) (ls : Array Slot), fX0_callOff_j84 V x1 s0 = some (r, M') → va_P D vwCl (wDk cI d a V) H → va_S A s.heap H locs → lv_has ls 5 [(0, .ref d), (1, .int x1)] → W p l e rmX0_callOff s m args below meth c H locs 0 0 (MQ below (qI D r (wDk cI d a (M')) A) args s 0 0 A) (F0 m 84 ls [.int s0]) := by
    intro V x1 s0 H locs ls hF hP hS hl
    refine lv_istore (lv' := [(4, .int s0), (0, .ref d), (1, .int x1)]) hx hb dX0_callOff_84 hl (by decide) rfl (fun ls hl => ?_)
    refine lv_aload_n hx hb dX0_callOff_86 rfl (lv_at hl 1 rfl) ?_
    refine va_get (ci := 0) (v := .ref (a 3)) (C := RX0) (T := TX0) (N := 5) hx hb htb kin0 hown hK hP 0 (pDk_0 cI d a V) rfl 2 (by decide) (htb _ bw1_137) (fun _ h9 => h9) rfl dX0_callOff_87 ?_
    refine lv_iload_n hx hb dX0_callOff_90 rfl (lv_at hl 2 rfl) ?_
    refine lv_iconst (v := 3) hx hb dX0_callOff_91 (by decide) ?_
    refine lv_iconst (v := 2) hx hb dX0_callOff_92 (by decide) ?_
    obtain ⟨M14, hM14, hF⟩ := bd_use hF
    refine cl_VV ⟨hx, hb, hml, hown, htb⟩ (kX6_put l D cS g cI (a 3) (a 4) 160 16 10 (V.2.1) x1 3 2 _ hM14) (cwV 3 htb (gX6_put bw2_83) rfl rfl rfl hdX6_put ⟨Nat.le_of_ble_eq_true rfl, Nat.le_of_ble_eq_true rfl⟩) hK (hDa _) hG hA hP hS (sg_Dk_bookings cI d a V M14) hl.1 rfl 0 (pTb_0 _ _ _ _ _ _ _) rfl rfl (Nat.le_of_ble_eq_true rfl) dX0_callOff_93 (fun H locs hP hS => ?_)
    obtain ⟨M15, eM15⟩ : ∃ z : Vn, z = (V.1, M14, V.2.2) := ⟨_, rfl⟩
    have hF := nm_use hF eM15
    have hP : va_P D vwCl (wDk cI d a M15) H := by rw [eM15]; exact hP
    refine lv_aload_n hx hb dX0_callOff_96 rfl (lv_at hl 1 rfl) ?_
    refine lv_iload_n hx hb dX0_callOff_97 rfl (lv_at hl 2 rfl) ?_
    refine lv_iload hx hb dX0_callOff_98 (lv_at hl 0 rfl) ?_
    obtain ⟨M16, hM16, hF⟩ := bd_use hF
    refine cl_VV ⟨hx, hb, hml, hown, htb⟩ (kX0_refund l D cS g cI d a M15 x1 s0 _ hM16) (cwV 2 htb (gX0_refund bw2_189) rfl rfl rfl hdX0_refund ⟨Nat.le_of_ble_eq_true rfl, Nat.le_of_ble_eq_true rfl⟩) hK (hDa _) hG hA hP hS (sg_Dk_Dk cI d a M15 M16) hl.1 rfl 0 (pDk_0 _ _ _ _) rfl rfl (Nat.le_of_ble_eq_true rfl) dX0_callOff_100 (fun H locs hP hS => ?_)
    refine lv_iload hx hb dX0_callOff_103 (lv_at hl 0 rfl) ?_
    obtain ⟨er, eM⟩ := pr_use hF
    exact rt_I hx hb hr hlocks hS (by rw [← eM]; exact hP) er dX0_callOff_105
  refine lv_aload_n hx hb dX0_callOff_0 rfl (lv_at hl 0 rfl) ?_
  refine va_get (ci := 0) (v := .ref (a 3)) (C := RX0) (T := TX0) (N := 5) hx hb htb kin0 hown hK hP 0 (pDk_0 cI d a V) rfl 2 (by decide) (htb _ bw1_137) (fun _ h9 => h9) rfl dX0_callOff_1 ?_
  refine lv_iload_n hx hb dX0_callOff_4 rfl (lv_at hl 1 rfl) ?_
  obtain ⟨r1, hr1, hF⟩ := bd_use hF
  refine cl_VI ⟨hx, hb, hml, hown, htb⟩ (kX6_has l D cS g cI (a 3) (a 4) 160 16 10 (V.2.1) x1 _ hr1) (cwV 1 htb (gX6_has bw2_111) rfl rfl rfl hdX6_has ⟨Nat.le_of_ble_eq_true rfl, Nat.le_of_ble_eq_true rfl⟩) hK (hDa _) hG hA hP hS (sr_Dk_bookings cI d a V) hl.1 rfl 0 (pTb_0 _ _ _ _ _ _ _) rfl rfl (Nat.le_of_ble_eq_true rfl) dX0_callOff_5 (fun H locs hP hS => ?_)
  refine lv_if_ne (tgt := 13) hx hb dX0_callOff_8 (by decide) (fun c2 => ?_) (fun c2 => ?_)
  · have hF := it_f hF c2
    refine lv_aload_n hx hb dX0_callOff_13 rfl (lv_at hl 0 rfl) ?_
    refine va_get (ci := 0) (v := .ref (a 0)) (C := RX0) (T := TX0) (N := 5) hx hb htb kin0 hown hK hP 0 (pDk_0 cI d a V) rfl 0 (by decide) (htb _ bw1_135) (fun _ h9 => h9) rfl dX0_callOff_14 ?_
    refine lv_iload_n hx hb dX0_callOff_17 rfl (lv_at hl 1 rfl) ?_
    obtain ⟨r3, hr3, hF⟩ := bd_use hF
    refine cl_VI ⟨hx, hb, hml, hown, htb⟩ (kX7_isBooked l D cS g cI a V x1 _ hr3) (cwV 1 htb (gX7_isBooked bw2_172) rfl rfl rfl hdX7_isBooked ⟨Nat.le_of_ble_eq_true rfl, Nat.le_of_ble_eq_true rfl⟩) hK (hDa _) hG hA hP hS (sr_Dk_Vn cI d a V) hl.1 rfl 0 (pVn_0 _ _ _) rfl rfl (Nat.le_of_ble_eq_true rfl) dX0_callOff_18 (fun H locs hP hS => ?_)
    refine lv_if_ne (tgt := 27) hx hb dX0_callOff_21 (by decide) (fun c4 => ?_) (fun c4 => ?_)
    · have hF := it_f hF c4
      refine lv_aload_n hx hb dX0_callOff_27 rfl (lv_at hl 0 rfl) ?_
      refine va_get (ci := 0) (v := .ref (a 0)) (C := RX0) (T := TX0) (N := 5) hx hb htb kin0 hown hK hP 0 (pDk_0 cI d a V) rfl 0 (by decide) (htb _ bw1_135) (fun _ h9 => h9) rfl dX0_callOff_28 ?_
      refine lv_iload_n hx hb dX0_callOff_31 rfl (lv_at hl 1 rfl) ?_
      obtain ⟨r5, hr5, hF⟩ := bd_use hF
      refine cl_VI ⟨hx, hb, hml, hown, htb⟩ (kX7_forecastStart l D cS g cI a V x1 _ hr5) (cwV 1 htb (gX7_forecastStart bw2_177) rfl rfl rfl hdX7_forecastStart ⟨Nat.le_of_ble_eq_true rfl, Nat.le_of_ble_eq_true rfl⟩) hK (hDa _) hG hA hP hS (sr_Dk_Vn cI d a V) hl.1 rfl 0 (pVn_0 _ _ _) rfl rfl (Nat.le_of_ble_eq_true rfl) dX0_callOff_32 (fun H locs hP hS => ?_)
      refine lv_aload_n hx hb dX0_callOff_35 rfl (lv_at hl 0 rfl) ?_
      refine va_get (ci := 0) (v := .ref (a 3)) (C := RX0) (T := TX0) (N := 5) hx hb htb kin0 hown hK hP 0 (pDk_0 cI d a V) rfl 2 (by decide) (htb _ bw1_137) (fun _ h9 => h9) rfl dX0_callOff_36 ?_
      refine lv_iload_n hx hb dX0_callOff_39 rfl (lv_at hl 1 rfl) ?_
      refine lv_iconst (v := 1) hx hb dX0_callOff_40 (by decide) ?_
      obtain ⟨r6, hr6, hF⟩ := bd_use hF
      refine cl_VI ⟨hx, hb, hml, hown, htb⟩ (kX6_cell l D cS g cI (a 3) (a 4) 160 16 10 (V.2.1) x1 1 _ hr6) (cwV 2 htb (gX6_cell bw2_115) rfl rfl rfl hdX6_cell ⟨Nat.le_of_ble_eq_true rfl, Nat.le_of_ble_eq_true rfl⟩) hK (hDa _) hG hA hP hS (sr_Dk_bookings cI d a V) hl.1 rfl 0 (pTb_0 _ _ _ _ _ _ _) rfl rfl (Nat.le_of_ble_eq_true rfl) dX0_callOff_41 (fun H locs hP hS => ?_)
      refine lv_isub hx hb dX0_callOff_44 ?_
      refine lv_topi (fun v7 ev7 => ?_)
      have hF := nm_use hF ev7
      refine lv_istore_n (lv' := [(2, .int v7), (0, .ref d), (1, .int x1)]) hx hb dX0_callOff_45 rfl hl (by decide) rfl (fun ls hl => ?_)
      refine lv_aload_n hx hb dX0_callOff_46 rfl (lv_at hl 1 rfl) ?_
      refine va_get (ci := 0) (v := .ref (a 3)) (C := RX0) (T := TX0) (N := 5) hx hb htb kin0 hown hK hP 0 (pDk_0 cI d a V) rfl 2 (by decide) (htb _ bw1_137) (fun _ h9 => h9) rfl dX0_callOff_47 ?_
      refine lv_iload_n hx hb dX0_callOff_50 rfl (lv_at hl 2 rfl) ?_
      refine lv_iconst (v := 5) hx hb dX0_callOff_51 (by decide) ?_
      obtain ⟨r8, hr8, hF⟩ := bd_use hF
      refine cl_VI ⟨hx, hb, hml, hown, htb⟩ (kX6_cell l D cS g cI (a 3) (a 4) 160 16 10 (V.2.1) x1 5 _ hr8) (cwV 2 htb (gX6_cell bw2_115) rfl rfl rfl hdX6_cell ⟨Nat.le_of_ble_eq_true rfl, Nat.le_of_ble_eq_true rfl⟩) hK (hDa _) hG hA hP hS (sr_Dk_bookings cI d a V) hl.1 rfl 0 (pTb_0 _ _ _ _ _ _ _) rfl rfl (Nat.le_of_ble_eq_true rfl) dX0_callOff_52 (fun H locs hP hS => ?_)
      refine lv_aload_n hx hb dX0_callOff_55 rfl (lv_at hl 1 rfl) ?_
      refine va_get (ci := 0) (v := .ref (a 0)) (C := RX0) (T := TX0) (N := 5) hx hb htb kin0 hown hK hP 0 (pDk_0 cI d a V) rfl 0 (by decide) (htb _ bw1_135) (fun _ h9 => h9) rfl dX0_callOff_56 ?_
      refine lv_iload_n hx hb dX0_callOff_59 rfl (lv_at hl 2 rfl) ?_
      obtain ⟨r9, hr9, hF⟩ := bd_use hF
      refine cl_VI ⟨hx, hb, hml, hown, htb⟩ (kX7_paidByVouchers l D cS g cI a V x1 _ hr9) (cwV 1 htb (gX7_paidByVouchers bw2_185) rfl rfl rfl hdX7_paidByVouchers ⟨Nat.le_of_ble_eq_true rfl, Nat.le_of_ble_eq_true rfl⟩) hK (hDa _) hG hA hP hS (sr_Dk_Vn cI d a V) hl.1 rfl 0 (pVn_0 _ _ _) rfl rfl (Nat.le_of_ble_eq_true rfl) dX0_callOff_60 (fun H locs hP hS => ?_)
      refine lv_iadd hx hb dX0_callOff_63 ?_
      refine lv_topi (fun v10 ev10 => ?_)
      have hF := nm_use hF ev10
      refine lv_istore_n (lv' := [(3, .int v10), (2, .int v7), (0, .ref d), (1, .int x1)]) hx hb dX0_callOff_64 rfl hl (by decide) rfl (fun ls hl => ?_)
      refine lv_iload_n hx hb dX0_callOff_65 rfl (lv_at hl 1 rfl) ?_
      refine lv_aload_n hx hb dX0_callOff_66 rfl (lv_at hl 2 rfl) ?_
      refine va_get (ci := 0) (v := .ref (a 0)) (C := RX0) (T := TX0) (N := 5) hx hb htb kin0 hown hK hP 0 (pDk_0 cI d a V) rfl 0 (by decide) (htb _ bw1_135) (fun _ h9 => h9) rfl dX0_callOff_67 ?_
      refine lv_iconst (v := 3) hx hb dX0_callOff_70 (by decide) ?_
      obtain ⟨r11, hr11, hF⟩ := bd_use hF
      refine cl_VI ⟨hx, hb, hml, hown, htb⟩ (kX7_setting l D cS g cI a V 3 _ hr11) (cwV 1 htb (gX7_setting bw2_163) rfl rfl rfl hdX7_setting ⟨Nat.le_of_ble_eq_true rfl, Nat.le_of_ble_eq_true rfl⟩) hK (hDa _) hG hA hP hS (sr_Dk_Vn cI d a V) hl.1 rfl 0 (pVn_0 _ _ _) rfl rfl (Nat.le_of_ble_eq_true rfl) dX0_callOff_71 (fun H locs hP hS => ?_)
      refine lv_icmp_le (tgt := 81) hx hb dX0_callOff_74 (by decide) (fun c12 => ?_) (fun c12 => ?_)
      · have hF := it_t hF c12
        refine lv_iload_n hx hb dX0_callOff_81 rfl (lv_at hl 0 rfl) ?_
        refine lv_iconst (v := 2) hx hb dX0_callOff_82 (by decide) ?_
        obtain ⟨hd, hF⟩ := dv_use hF
        refine lv_idiv hx hb dX0_callOff_83 hd ?_
        refine lv_topi (fun v13 ev13 => ?_)
        have hF := hF v13 ev13
        exact j84 V x1 v13 _ _ _ hF hP hS (lv_sub hl [2, 3] rfl)
      · have hF := it_f hF c12
        refine lv_iload_n hx hb dX0_callOff_77 rfl (lv_at hl 0 rfl) ?_
        refine lv_goto (tgt := 84) hx hb dX0_callOff_78 (by decide) ?_
        exact j84 V x1 v10 _ _ _ hF hP hS (lv_sub hl [2, 3] rfl)
    · have hF := it_t hF c4
      refine lv_bipush (v := (-2)) hx hb dX0_callOff_24 (by decide) ?_
      obtain ⟨er, eM⟩ := pr_use hF
      exact rt_I hx hb hr hlocks hS (by rw [← eM]; exact hP) er dX0_callOff_26
  · have hF := it_t hF c2
    refine lv_iconst (v := (-1)) hx hb dX0_callOff_11 (by decide) ?_
    obtain ⟨er, eM⟩ := pr_use hF
    exact rt_I hx hb hr hlocks hS (by rw [← eM]; exact hP) er dX0_callOff_12
noncomputable def fX0_handOver  (V : Vn) (x1 : Int32) (x2 : Int32) (x3 : Int32) : Option (Vn) := (fX6_cell 160 16 10 (V.2.1) x1 x3).bind fun r1 => (fX6_raise 160 16 10 (V.2.1) x2 x3 r1).bind fun M2 => nm ((V.1, M2, V.2.2)) fun M3 => (fX6_put 160 16 10 (M3.2.1) x1 x3 0).bind fun M4 => nm ((M3.1, M4, M3.2.2)) fun M5 => some M5
abbrev vX0_handOver : List Cond := Cond.code yX0_handOver cX0_handOver 4 none :: BIG
theorem gX0_handOver {own : String} {idx : Nat} (h : (Cond.methodLink own idx yX0_handOver) ∈ BIG) : GoodIn BIG (wsV own idx RX0 yX0_handOver vX0_handOver) := gdV h bw2_219 bs5 bw1_7 bw2_220
def rmX0_handOver : Room := { frames := 2, cells := 0, slots := 0, locals := 48 }
theorem hdX0_handOver : yX0_handOver.cls = RX0 ∧ yX0_handOver.cls ≠ "java/lang/invoke/MethodHandle" ∧ yX0_handOver.cls ≠ "java/lang/invoke/VarHandle" ∧ (parseMethodDescriptor yX0_handOver.desc).map (fun d => d.parameters.length) = some 3 := by decide +kernel
set_option maxHeartbeats 4000000 in
set_option maxRecDepth 100000 in
theorem kX0_handOver (l : Launch) (D : va_G) (cS : ClassId) (g : Nat → Nat) (cI : ClassId) (d : Nat) (a : Nat → Nat) (V : Vn) (x1 : Int32) (x2 : Int32) (x3 : Int32) (M' : Vn) (hF : fX0_handOver V x1 x2 x3 = some M') : mV l yX0_handOver vX0_handOver rmX0_handOver D cI cS g [.ref d, .int x1, .int x2, .int x3] (wDk cI d a V) (wDk cI d a (M')) := by
  refine st_V rfl (by decide) (Nat.le_of_ble_eq_true rfl) ?_
  intro p e s m args below meth c A ls hx hb hr hml hlocks hown hts hA hK hD0 hG hP hS hl
  have hown : s.vm.findClass RX0 = some m.cls := hown
  have hDa : ∀ V, va_D A (wDk cI d a V) := fun V => hD0.adr rfl
  have htb : ∀ w ∈ BIG, w.before args s = true := fun w h => hts w (List.mem_cons_of_mem _ h)
  have hl : lv_has ls 4 [(0, .ref d), (1, .int x1), (2, .int x2), (3, .int x3)] := hl
  refine lv_aload_n hx hb dX0_handOver_0 rfl (lv_at hl 0 rfl) ?_
  refine va_get (ci := 0) (v := .ref (a 3)) (C := RX0) (T := TX0) (N := 5) hx hb htb kin0 hown hK hP 0 (pDk_0 cI d a V) rfl 2 (by decide) (htb _ bw1_137) (fun _ h9 => h9) rfl dX0_handOver_1 ?_
  refine lv_iload_n hx hb dX0_handOver_4 rfl (lv_at hl 2 rfl) ?_
  refine lv_iload_n hx hb dX0_handOver_5 rfl (lv_at hl 3 rfl) ?_
  refine lv_aload_n hx hb dX0_handOver_6 rfl (lv_at hl 0 rfl) ?_
  refine va_get (ci := 0) (v := .ref (a 3)) (C := RX0) (T := TX0) (N := 5) hx hb htb kin0 hown hK hP 0 (pDk_0 cI d a V) rfl 2 (by decide) (htb _ bw1_137) (fun _ h9 => h9) rfl dX0_handOver_7 ?_
  refine lv_iload_n hx hb dX0_handOver_10 rfl (lv_at hl 1 rfl) ?_
  refine lv_iload_n hx hb dX0_handOver_11 rfl (lv_at hl 3 rfl) ?_
  obtain ⟨r1, hr1, hF⟩ := bd_use hF
  refine cl_VI ⟨hx, hb, hml, hown, htb⟩ (kX6_cell l D cS g cI (a 3) (a 4) 160 16 10 (V.2.1) x1 x3 _ hr1) (cwV 2 htb (gX6_cell bw2_115) rfl rfl rfl hdX6_cell ⟨Nat.le_of_ble_eq_true rfl, Nat.le_of_ble_eq_true rfl⟩) hK (hDa _) hG hA hP hS (sr_Dk_bookings cI d a V) hl.1 rfl 0 (pTb_0 _ _ _ _ _ _ _) rfl rfl (Nat.le_of_ble_eq_true rfl) dX0_handOver_12 (fun H locs hP hS => ?_)
  obtain ⟨M2, hM2, hF⟩ := bd_use hF
  refine cl_VV ⟨hx, hb, hml, hown, htb⟩ (kX6_raise l D cS g cI (a 3) (a 4) 160 16 10 (V.2.1) x2 x3 r1 _ hM2) (cwV 3 htb (gX6_raise bw2_141) rfl rfl rfl hdX6_raise ⟨Nat.le_of_ble_eq_true rfl, Nat.le_of_ble_eq_true rfl⟩) hK (hDa _) hG hA hP hS (sg_Dk_bookings cI d a V M2) hl.1 rfl 0 (pTb_0 _ _ _ _ _ _ _) rfl rfl (Nat.le_of_ble_eq_true rfl) dX0_handOver_15 (fun H locs hP hS => ?_)
  obtain ⟨M3, eM3⟩ : ∃ z : Vn, z = (V.1, M2, V.2.2) := ⟨_, rfl⟩
  have hF := nm_use hF eM3
  have hP : va_P D vwCl (wDk cI d a M3) H := by rw [eM3]; exact hP
  refine lv_aload_n hx hb dX0_handOver_18 rfl (lv_at hl 0 rfl) ?_
  refine va_get (ci := 0) (v := .ref (a 3)) (C := RX0) (T := TX0) (N := 5) hx hb htb kin0 hown hK hP 0 (pDk_0 cI d a M3) rfl 2 (by decide) (htb _ bw1_137) (fun _ h9 => h9) rfl dX0_handOver_19 ?_
  refine lv_iload_n hx hb dX0_handOver_22 rfl (lv_at hl 1 rfl) ?_
  refine lv_iload_n hx hb dX0_handOver_23 rfl (lv_at hl 3 rfl) ?_
  refine lv_iconst (v := 0) hx hb dX0_handOver_24 (by decide) ?_
  obtain ⟨M4, hM4, hF⟩ := bd_use hF
  refine cl_VV ⟨hx, hb, hml, hown, htb⟩ (kX6_put l D cS g cI (a 3) (a 4) 160 16 10 (M3.2.1) x1 x3 0 _ hM4) (cwV 3 htb (gX6_put bw2_83) rfl rfl rfl hdX6_put ⟨Nat.le_of_ble_eq_true rfl, Nat.le_of_ble_eq_true rfl⟩) hK (hDa _) hG hA hP hS (sg_Dk_bookings cI d a M3 M4) hl.1 rfl 0 (pTb_0 _ _ _ _ _ _ _) rfl rfl (Nat.le_of_ble_eq_true rfl) dX0_handOver_25 (fun H locs hP hS => ?_)
  obtain ⟨M5, eM5⟩ : ∃ z : Vn, z = (M3.1, M4, M3.2.2) := ⟨_, rfl⟩
  have hF := nm_use hF eM5
  have hP : va_P D vwCl (wDk cI d a M5) H := by rw [eM5]; exact hP
  exact rt_V hx hb hr hlocks hS (by rw [← so_use hF]; exact hP) dX0_handOver_28
noncomputable def fX0_handOverPayments_j60  (x1 : Int32) (x2 : Int32) (x3 : Int32) (ih : Vn → Int32 → Option (Vn)) (V : Vn) (x4 : Int32) : Option (Vn) := nm (x4 + 1) fun v6 => ih V v6
noncomputable def fX0_handOverPayments_l12  (x1 : Int32) (x2 : Int32) (x3 : Int32) : Nat → Vn → Int32 → Option (Vn) := fun fu => Nat.rec (motive := fun _ => Vn → Int32 → Option (Vn)) (fun _ _ => none) (fun _ ih => fun V x4 => (fX6_size 64 16 4 (V.2.2.2.1)).bind fun r2 => if r2 ≤ x4 then (some V) else ((fX6_cell 64 16 4 (V.2.2.2.1) x4 0).bind fun r4 => if r4 = x1 then ((fX6_put 64 16 4 (V.2.2.2.1) x4 0 x2).bind fun M7 => nm ((V.1, V.2.1, V.2.2.1, M7, V.2.2.2.2)) fun M8 => (fX6_raise 64 16 4 (M8.2.2.2.1) x4 3 x3).bind fun M9 => nm ((M8.1, M8.2.1, M8.2.2.1, M9, M8.2.2.2.2)) fun M10 => fX0_handOverPayments_j60 x1 x2 x3 ih M10 x4) else (fX0_handOverPayments_j60 x1 x2 x3 ih V x4))) fu
theorem fX0_handOverPayments_l12_s  (x1 : Int32) (x2 : Int32) (x3 : Int32) (fu : Nat) (V : Vn) (x4 : Int32) : fX0_handOverPayments_l12 x1 x2 x3 (fu + 1) V x4 = ((fX6_size 64 16 4 (V.2.2.2.1)).bind fun r2 => if r2 ≤ x4 then (some V) else ((fX6_cell 64 16 4 (V.2.2.2.1) x4 0).bind fun r4 => if r4 = x1 then ((fX6_put 64 16 4 (V.2.2.2.1) x4 0 x2).bind fun M7 => nm ((V.1, V.2.1, V.2.2.1, M7, V.2.2.2.2)) fun M8 => (fX6_raise 64 16 4 (M8.2.2.2.1) x4 3 x3).bind fun M9 => nm ((M8.1, M8.2.1, M8.2.2.1, M9, M8.2.2.2.2)) fun M10 => fX0_handOverPayments_j60 x1 x2 x3 (fX0_handOverPayments_l12 x1 x2 x3 fu) M10 x4) else (fX0_handOverPayments_j60 x1 x2 x3 (fX0_handOverPayments_l12 x1 x2 x3 fu) V x4))) := rfl
theorem fX0_handOverPayments_l12_z  (x1 : Int32) (x2 : Int32) (x3 : Int32) (V : Vn) (x4 : Int32) : fX0_handOverPayments_l12 x1 x2 x3 0 V x4 = none := rfl
noncomputable def fX0_handOverPayments  (V : Vn) (x1 : Int32) (x2 : Int32) : Option (Vn) := (fX7_paymentsLeft V x2).bind fun r1 => fX0_handOverPayments_l12 x1 x2 r1 FU V 0
abbrev vX0_handOverPayments : List Cond := Cond.code yX0_handOverPayments cX0_handOverPayments 5 none :: BIG
theorem gX0_handOverPayments {own : String} {idx : Nat} (h : (Cond.methodLink own idx yX0_handOverPayments) ∈ BIG) : GoodIn BIG (wsV own idx RX0 yX0_handOverPayments vX0_handOverPayments) := gdV h bw2_223 bs6 bw1_7 bw2_224
def rmX0_handOverPayments : Room := { frames := 2, cells := 0, slots := 0, locals := 48 }
theorem hdX0_handOverPayments : yX0_handOverPayments.cls = RX0 ∧ yX0_handOverPayments.cls ≠ "java/lang/invoke/MethodHandle" ∧ yX0_handOverPayments.cls ≠ "java/lang/invoke/VarHandle" ∧ (parseMethodDescriptor yX0_handOverPayments.desc).map (fun d => d.parameters.length) = some 2 := by decide +kernel
set_option maxHeartbeats 4000000 in
set_option maxRecDepth 100000 in
theorem kX0_handOverPayments (l : Launch) (D : va_G) (cS : ClassId) (g : Nat → Nat) (cI : ClassId) (d : Nat) (a : Nat → Nat) (V : Vn) (x1 : Int32) (x2 : Int32) (M' : Vn) (hF : fX0_handOverPayments V x1 x2 = some M') : mV l yX0_handOverPayments vX0_handOverPayments rmX0_handOverPayments D cI cS g [.ref d, .int x1, .int x2] (wDk cI d a V) (wDk cI d a (M')) := by
  refine st_V rfl (by decide) (Nat.le_of_ble_eq_true rfl) ?_
  intro p e s m args below meth c A ls hx hb hr hml hlocks hown hts hA hK hD0 hG hP hS hl
  have hown : s.vm.findClass RX0 = some m.cls := hown
  have hDa : ∀ V, va_D A (wDk cI d a V) := fun V => hD0.adr rfl
  have htb : ∀ w ∈ BIG, w.before args s = true := fun w h => hts w (List.mem_cons_of_mem _ h)
  have hl : lv_has ls 5 [(0, .ref d), (1, .int x1), (2, .int x2)] := hl
  have l12 : ∀ (x1 : Int32) (x2 : Int32) (x3 : Int32) (fu : Nat) (V : Vn) (x4 : Int32) (H : Heap) (locs : List Loc) (ls : Array Slot), fX0_handOverPayments_l12 x1 x2 x3 fu V x4 = some M' → va_P D vwCl (wDk cI d a V) H → va_S A s.heap H locs → lv_has ls 5 [(0, .ref d), (1, .int x1), (2, .int x2), (3, .int x3), (4, .int x4)] → W p l e rmX0_handOverPayments s m args below meth c H locs 0 0 (MQ below (qV D (wDk cI d a (M')) A) args s 0 0 A) (F0 m 12 ls []) := by
    intro x1 x2 x3  fu
    induction fu with
    | zero => intro V x4 H locs ls hF; exact nn_use hF
    | succ fu ihn =>
      intro V x4 H locs ls hF hP hS hl 
      rw [fX0_handOverPayments_l12_s] at hF
      have j60 : ∀ (V : Vn) (x4 : Int32) (H : Heap) (locs : List Loc) (ls : Array Slot), fX0_handOverPayments_j60 x1 x2 x3  (fX0_handOverPayments_l12 x1 x2 x3 fu) V x4 = some M' → va_P D vwCl (wDk cI d a V) H → va_S A s.heap H locs → lv_has ls 5 [(0, .ref d), (1, .int x1), (2, .int x2), (3, .int x3), (4, .int x4)] → W p l e rmX0_handOverPayments s m args below meth c H locs 0 0 (MQ below (qV D (wDk cI d a (M')) A) args s 0 0 A) (F0 m 60 ls []) := by
        intro V x4 H locs ls hF hP hS hl
        obtain ⟨v6, ev6⟩ : ∃ z : Int32, z = x4 + 1 := ⟨_, rfl⟩
        refine lv_iinc (v := v6) (lv' := [(4, .int v6), (0, .ref d), (1, .int x1), (2, .int x2), (3, .int x3)]) hx hb dX0_handOverPayments_60 hl (k := 4) rfl (by rw [ev6]; rfl) (by decide) rfl (fun ls hl => ?_)
        have hF := nm_use hF ev6
        refine lv_goto (tgt := 12) hx hb dX0_handOverPayments_63 (by decide) ?_
        exact ihn V v6 _ _ _ hF hP hS (lv_sub hl [1, 2, 3, 4, 0] rfl)
      refine lv_iload hx hb dX0_handOverPayments_12 (lv_at hl 4 rfl) ?_
      refine lv_aload_n hx hb dX0_handOverPayments_14 rfl (lv_at hl 0 rfl) ?_
      refine va_get (ci := 0) (v := .ref (a 7)) (C := RX0) (T := TX0) (N := 5) hx hb htb kin0 hown hK hP 0 (pDk_0 cI d a V) rfl 4 (by decide) (htb _ bw1_139) (fun _ h9 => h9) rfl dX0_handOverPayments_15 ?_
      obtain ⟨r2, hr2, hF⟩ := bd_use hF
      refine cl_VI ⟨hx, hb, hml, hown, htb⟩ (kX6_size l D cS g cI (a 7) (a 8) 64 16 4 (V.2.2.2.1)  _ hr2) (cwV 0 htb (gX6_size bw2_229) rfl rfl rfl hdX6_size ⟨Nat.le_of_ble_eq_true rfl, Nat.le_of_ble_eq_true rfl⟩) hK (hDa _) hG hA hP hS (sr_Dk_payments cI d a V) hl.1 rfl 0 (pTb_0 _ _ _ _ _ _ _) rfl rfl (Nat.le_of_ble_eq_true rfl) dX0_handOverPayments_18 (fun H locs hP hS => ?_)
      refine lv_icmp_ge (tgt := 66) hx hb dX0_handOverPayments_21 (by decide) (fun c3 => ?_) (fun c3 => ?_)
      · have hF := it_t hF c3
        exact rt_V hx hb hr hlocks hS (by rw [← so_use hF]; exact hP) dX0_handOverPayments_66
      · have hF := it_f hF c3
        refine lv_aload_n hx hb dX0_handOverPayments_24 rfl (lv_at hl 0 rfl) ?_
        refine va_get (ci := 0) (v := .ref (a 7)) (C := RX0) (T := TX0) (N := 5) hx hb htb kin0 hown hK hP 0 (pDk_0 cI d a V) rfl 4 (by decide) (htb _ bw1_139) (fun _ h9 => h9) rfl dX0_handOverPayments_25 ?_
        refine lv_iload hx hb dX0_handOverPayments_28 (lv_at hl 4 rfl) ?_
        refine lv_iconst (v := 0) hx hb dX0_handOverPayments_30 (by decide) ?_
        obtain ⟨r4, hr4, hF⟩ := bd_use hF
        refine cl_VI ⟨hx, hb, hml, hown, htb⟩ (kX6_cell l D cS g cI (a 7) (a 8) 64 16 4 (V.2.2.2.1) x4 0 _ hr4) (cwV 2 htb (gX6_cell bw2_115) rfl rfl rfl hdX6_cell ⟨Nat.le_of_ble_eq_true rfl, Nat.le_of_ble_eq_true rfl⟩) hK (hDa _) hG hA hP hS (sr_Dk_payments cI d a V) hl.1 rfl 0 (pTb_0 _ _ _ _ _ _ _) rfl rfl (Nat.le_of_ble_eq_true rfl) dX0_handOverPayments_31 (fun H locs hP hS => ?_)
        refine lv_iload_n hx hb dX0_handOverPayments_34 rfl (lv_at hl 1 rfl) ?_
        refine lv_icmp_ne (tgt := 60) hx hb dX0_handOverPayments_35 (by decide) (fun c5 => ?_) (fun c5 => ?_)
        · have hF := it_f hF c5
          exact j60 V x4 _ _ _ hF hP hS (lv_sub hl [0, 1, 2, 3, 4] rfl)
        · have hF := it_t hF c5
          refine lv_aload_n hx hb dX0_handOverPayments_38 rfl (lv_at hl 0 rfl) ?_
          refine va_get (ci := 0) (v := .ref (a 7)) (C := RX0) (T := TX0) (N := 5) hx hb htb kin0 hown hK hP 0 (pDk_0 cI d a V) rfl 4 (by decide) (htb _ bw1_139) (fun _ h9 => h9) rfl dX0_handOverPayments_39 ?_
          refine lv_iload hx hb dX0_handOverPayments_42 (lv_at hl 4 rfl) ?_
          refine lv_iconst (v := 0) hx hb dX0_handOverPayments_44 (by decide) ?_
          refine lv_iload_n hx hb dX0_handOverPayments_45 rfl (lv_at hl 2 rfl) ?_
          obtain ⟨M7, hM7, hF⟩ := bd_use hF
          refine cl_VV ⟨hx, hb, hml, hown, htb⟩ (kX6_put l D cS g cI (a 7) (a 8) 64 16 4 (V.2.2.2.1) x4 0 x2 _ hM7) (cwV 3 htb (gX6_put bw2_83) rfl rfl rfl hdX6_put ⟨Nat.le_of_ble_eq_true rfl, Nat.le_of_ble_eq_true rfl⟩) hK (hDa _) hG hA hP hS (sg_Dk_payments cI d a V M7) hl.1 rfl 0 (pTb_0 _ _ _ _ _ _ _) rfl rfl (Nat.le_of_ble_eq_true rfl) dX0_handOverPayments_46 (fun H locs hP hS => ?_)
          obtain ⟨M8, eM8⟩ : ∃ z : Vn, z = (V.1, V.2.1, V.2.2.1, M7, V.2.2.2.2) := ⟨_, rfl⟩
          have hF := nm_use hF eM8
          have hP : va_P D vwCl (wDk cI d a M8) H := by rw [eM8]; exact hP
          refine lv_aload_n hx hb dX0_handOverPayments_49 rfl (lv_at hl 0 rfl) ?_
          refine va_get (ci := 0) (v := .ref (a 7)) (C := RX0) (T := TX0) (N := 5) hx hb htb kin0 hown hK hP 0 (pDk_0 cI d a M8) rfl 4 (by decide) (htb _ bw1_139) (fun _ h9 => h9) rfl dX0_handOverPayments_50 ?_
          refine lv_iload hx hb dX0_handOverPayments_53 (lv_at hl 4 rfl) ?_
          refine lv_iconst (v := 3) hx hb dX0_handOverPayments_55 (by decide) ?_
          refine lv_iload_n hx hb dX0_handOverPayments_56 rfl (lv_at hl 3 rfl) ?_
          obtain ⟨M9, hM9, hF⟩ := bd_use hF
          refine cl_VV ⟨hx, hb, hml, hown, htb⟩ (kX6_raise l D cS g cI (a 7) (a 8) 64 16 4 (M8.2.2.2.1) x4 3 x3 _ hM9) (cwV 3 htb (gX6_raise bw2_141) rfl rfl rfl hdX6_raise ⟨Nat.le_of_ble_eq_true rfl, Nat.le_of_ble_eq_true rfl⟩) hK (hDa _) hG hA hP hS (sg_Dk_payments cI d a M8 M9) hl.1 rfl 0 (pTb_0 _ _ _ _ _ _ _) rfl rfl (Nat.le_of_ble_eq_true rfl) dX0_handOverPayments_57 (fun H locs hP hS => ?_)
          obtain ⟨M10, eM10⟩ : ∃ z : Vn, z = (M8.1, M8.2.1, M8.2.2.1, M9, M8.2.2.2.2) := ⟨_, rfl⟩
          have hF := nm_use hF eM10
          have hP : va_P D vwCl (wDk cI d a M10) H := by rw [eM10]; exact hP
          exact j60 M10 x4 _ _ _ hF hP hS (lv_sub hl [0, 1, 2, 3, 4] rfl)
  refine lv_aload_n hx hb dX0_handOverPayments_0 rfl (lv_at hl 0 rfl) ?_
  refine va_get (ci := 0) (v := .ref (a 0)) (C := RX0) (T := TX0) (N := 5) hx hb htb kin0 hown hK hP 0 (pDk_0 cI d a V) rfl 0 (by decide) (htb _ bw1_135) (fun _ h9 => h9) rfl dX0_handOverPayments_1 ?_
  refine lv_iload_n hx hb dX0_handOverPayments_4 rfl (lv_at hl 2 rfl) ?_
  obtain ⟨r1, hr1, hF⟩ := bd_use hF
  refine cl_VI ⟨hx, hb, hml, hown, htb⟩ (kX7_paymentsLeft l D cS g cI a V x2 _ hr1) (cwV 1 htb (gX7_paymentsLeft bw2_225) rfl rfl rfl hdX7_paymentsLeft ⟨Nat.le_of_ble_eq_true rfl, Nat.le_of_ble_eq_true rfl⟩) hK (hDa _) hG hA hP hS (sr_Dk_Vn cI d a V) hl.1 rfl 0 (pVn_0 _ _ _) rfl rfl (Nat.le_of_ble_eq_true rfl) dX0_handOverPayments_5 (fun H locs hP hS => ?_)
  refine lv_istore_n (lv' := [(3, .int r1), (0, .ref d), (1, .int x1), (2, .int x2)]) hx hb dX0_handOverPayments_8 rfl hl (by decide) rfl (fun ls hl => ?_)
  refine lv_iconst (v := 0) hx hb dX0_handOverPayments_9 (by decide) ?_
  refine lv_istore (lv' := [(4, .int 0), (3, .int r1), (0, .ref d), (1, .int x1), (2, .int x2)]) hx hb dX0_handOverPayments_10 hl (by decide) rfl (fun ls hl => ?_)
  refine l12 x1 x2 r1  _ V 0 _ _ _ hF hP hS (lv_sub hl [2, 3, 4, 1, 0] rfl)
noncomputable def fX0_joinTeams  (V : Vn) (x1 : Int32) (x2 : Int32) : Option (Int32 × Vn) := (fX6_has 160 16 10 (V.2.1) x1).bind fun r1 => if r1 = 0 then (some ((-1), V)) else ((fX6_has 160 16 10 (V.2.1) x2).bind fun r3 => if r3 = 0 then (some ((-1), V)) else (if x1 = x2 then (some ((-1), V)) else ((fX6_cell 160 16 10 (V.2.1) x2 0).bind fun r6 => (fX7_isBooked V x1).bind fun r7 => if r7 = 0 then (some ((-2), V)) else ((fX7_isBooked V x2).bind fun r9 => if r9 = 0 then (some ((-2), V)) else ((fX6_cell 160 16 10 (V.2.1) x1 0).bind fun r11 => if r11 = r6 then ((fX6_cell 160 16 10 (V.2.1) x1 2).bind fun r13 => (fX6_cell 160 16 10 (V.2.1) x2 2).bind fun r14 => nm (r13 + r14) fun v15 => (fX6_cell 44 4 11 (V.1) r6 3).bind fun r16 => if v15 ≤ r16 then ((fX0_handOver V x1 x2 2).bind fun M18 => (fX0_handOver M18 x1 x2 4).bind fun M19 => (fX0_handOver M19 x1 x2 5).bind fun M20 => (fX0_handOverPayments M20 x1 x2).bind fun M21 => (fX6_put 160 16 10 (M21.2.1) x1 3 3).bind fun M22 => nm ((M21.1, M22, M21.2.2)) fun M23 => some (v15, M23)) else (some ((-3), V))) else (some ((-2), V)))))))
abbrev vX0_joinTeams : List Cond := Cond.code yX0_joinTeams cX0_joinTeams 5 (some .int) :: BIG
theorem gX0_joinTeams {own : String} {idx : Nat} (h : (Cond.methodLink own idx yX0_joinTeams) ∈ BIG) : GoodIn BIG (wsV own idx RX0 yX0_joinTeams vX0_joinTeams) := gdV h bw2_214 bw2_215 bw1_7 bw2_216
def rmX0_joinTeams : Room := { frames := 3, cells := 0, slots := 0, locals := 72 }
theorem hdX0_joinTeams : yX0_joinTeams.cls = RX0 ∧ yX0_joinTeams.cls ≠ "java/lang/invoke/MethodHandle" ∧ yX0_joinTeams.cls ≠ "java/lang/invoke/VarHandle" ∧ (parseMethodDescriptor yX0_joinTeams.desc).map (fun d => d.parameters.length) = some 2 := by decide +kernel
set_option maxHeartbeats 4000000 in
set_option maxRecDepth 100000 in
theorem kX0_joinTeams (l : Launch) (D : va_G) (cS : ClassId) (g : Nat → Nat) (cI : ClassId) (d : Nat) (a : Nat → Nat) (V : Vn) (x1 : Int32) (x2 : Int32) (r : Int32) (M' : Vn) (hF : fX0_joinTeams V x1 x2 = some (r, M')) : mI l yX0_joinTeams vX0_joinTeams rmX0_joinTeams D cI cS g [.ref d, .int x1, .int x2] (wDk cI d a V) r (wDk cI d a (M')) := by
  refine st_I rfl (by decide) (Nat.le_of_ble_eq_true rfl) ?_
  intro p e s m args below meth c A ls hx hb hr hml hlocks hown hts hA hK hD0 hG hP hS hl
  have hown : s.vm.findClass RX0 = some m.cls := hown
  have hDa : ∀ V, va_D A (wDk cI d a V) := fun V => hD0.adr rfl
  have htb : ∀ w ∈ BIG, w.before args s = true := fun w h => hts w (List.mem_cons_of_mem _ h)
  have hl : lv_has ls 5 [(0, .ref d), (1, .int x1), (2, .int x2)] := hl
  refine lv_aload_n hx hb dX0_joinTeams_0 rfl (lv_at hl 0 rfl) ?_
  refine va_get (ci := 0) (v := .ref (a 3)) (C := RX0) (T := TX0) (N := 5) hx hb htb kin0 hown hK hP 0 (pDk_0 cI d a V) rfl 2 (by decide) (htb _ bw1_137) (fun _ h9 => h9) rfl dX0_joinTeams_1 ?_
  refine lv_iload_n hx hb dX0_joinTeams_4 rfl (lv_at hl 1 rfl) ?_
  obtain ⟨r1, hr1, hF⟩ := bd_use hF
  refine cl_VI ⟨hx, hb, hml, hown, htb⟩ (kX6_has l D cS g cI (a 3) (a 4) 160 16 10 (V.2.1) x1 _ hr1) (cwV 1 htb (gX6_has bw2_111) rfl rfl rfl hdX6_has ⟨Nat.le_of_ble_eq_true rfl, Nat.le_of_ble_eq_true rfl⟩) hK (hDa _) hG hA hP hS (sr_Dk_bookings cI d a V) hl.1 rfl 0 (pTb_0 _ _ _ _ _ _ _) rfl rfl (Nat.le_of_ble_eq_true rfl) dX0_joinTeams_5 (fun H locs hP hS => ?_)
  refine lv_if_eq (tgt := 27) hx hb dX0_joinTeams_8 (by decide) (fun c2 => ?_) (fun c2 => ?_)
  · have hF := it_t hF c2
    refine lv_iconst (v := (-1)) hx hb dX0_joinTeams_27 (by decide) ?_
    obtain ⟨er, eM⟩ := pr_use hF
    exact rt_I hx hb hr hlocks hS (by rw [← eM]; exact hP) er dX0_joinTeams_28
  · have hF := it_f hF c2
    refine lv_aload_n hx hb dX0_joinTeams_11 rfl (lv_at hl 0 rfl) ?_
    refine va_get (ci := 0) (v := .ref (a 3)) (C := RX0) (T := TX0) (N := 5) hx hb htb kin0 hown hK hP 0 (pDk_0 cI d a V) rfl 2 (by decide) (htb _ bw1_137) (fun _ h9 => h9) rfl dX0_joinTeams_12 ?_
    refine lv_iload_n hx hb dX0_joinTeams_15 rfl (lv_at hl 2 rfl) ?_
    obtain ⟨r3, hr3, hF⟩ := bd_use hF
    refine cl_VI ⟨hx, hb, hml, hown, htb⟩ (kX6_has l D cS g cI (a 3) (a 4) 160 16 10 (V.2.1) x2 _ hr3) (cwV 1 htb (gX6_has bw2_111) rfl rfl rfl hdX6_has ⟨Nat.le_of_ble_eq_true rfl, Nat.le_of_ble_eq_true rfl⟩) hK (hDa _) hG hA hP hS (sr_Dk_bookings cI d a V) hl.1 rfl 0 (pTb_0 _ _ _ _ _ _ _) rfl rfl (Nat.le_of_ble_eq_true rfl) dX0_joinTeams_16 (fun H locs hP hS => ?_)
    refine lv_if_eq (tgt := 27) hx hb dX0_joinTeams_19 (by decide) (fun c4 => ?_) (fun c4 => ?_)
    · have hF := it_t hF c4
      refine lv_iconst (v := (-1)) hx hb dX0_joinTeams_27 (by decide) ?_
      obtain ⟨er, eM⟩ := pr_use hF
      exact rt_I hx hb hr hlocks hS (by rw [← eM]; exact hP) er dX0_joinTeams_28
    · have hF := it_f hF c4
      refine lv_iload_n hx hb dX0_joinTeams_22 rfl (lv_at hl 1 rfl) ?_
      refine lv_iload_n hx hb dX0_joinTeams_23 rfl (lv_at hl 2 rfl) ?_
      refine lv_icmp_ne (tgt := 29) hx hb dX0_joinTeams_24 (by decide) (fun c5 => ?_) (fun c5 => ?_)
      · have hF := it_f hF c5
        refine lv_aload_n hx hb dX0_joinTeams_29 rfl (lv_at hl 0 rfl) ?_
        refine va_get (ci := 0) (v := .ref (a 3)) (C := RX0) (T := TX0) (N := 5) hx hb htb kin0 hown hK hP 0 (pDk_0 cI d a V) rfl 2 (by decide) (htb _ bw1_137) (fun _ h9 => h9) rfl dX0_joinTeams_30 ?_
        refine lv_iload_n hx hb dX0_joinTeams_33 rfl (lv_at hl 2 rfl) ?_
        refine lv_iconst (v := 0) hx hb dX0_joinTeams_34 (by decide) ?_
        obtain ⟨r6, hr6, hF⟩ := bd_use hF
        refine cl_VI ⟨hx, hb, hml, hown, htb⟩ (kX6_cell l D cS g cI (a 3) (a 4) 160 16 10 (V.2.1) x2 0 _ hr6) (cwV 2 htb (gX6_cell bw2_115) rfl rfl rfl hdX6_cell ⟨Nat.le_of_ble_eq_true rfl, Nat.le_of_ble_eq_true rfl⟩) hK (hDa _) hG hA hP hS (sr_Dk_bookings cI d a V) hl.1 rfl 0 (pTb_0 _ _ _ _ _ _ _) rfl rfl (Nat.le_of_ble_eq_true rfl) dX0_joinTeams_35 (fun H locs hP hS => ?_)
        refine lv_istore_n (lv' := [(3, .int r6), (0, .ref d), (1, .int x1), (2, .int x2)]) hx hb dX0_joinTeams_38 rfl hl (by decide) rfl (fun ls hl => ?_)
        refine lv_aload_n hx hb dX0_joinTeams_39 rfl (lv_at hl 1 rfl) ?_
        refine va_get (ci := 0) (v := .ref (a 0)) (C := RX0) (T := TX0) (N := 5) hx hb htb kin0 hown hK hP 0 (pDk_0 cI d a V) rfl 0 (by decide) (htb _ bw1_135) (fun _ h9 => h9) rfl dX0_joinTeams_40 ?_
        refine lv_iload_n hx hb dX0_joinTeams_43 rfl (lv_at hl 2 rfl) ?_
        obtain ⟨r7, hr7, hF⟩ := bd_use hF
        refine cl_VI ⟨hx, hb, hml, hown, htb⟩ (kX7_isBooked l D cS g cI a V x1 _ hr7) (cwV 1 htb (gX7_isBooked bw2_172) rfl rfl rfl hdX7_isBooked ⟨Nat.le_of_ble_eq_true rfl, Nat.le_of_ble_eq_true rfl⟩) hK (hDa _) hG hA hP hS (sr_Dk_Vn cI d a V) hl.1 rfl 0 (pVn_0 _ _ _) rfl rfl (Nat.le_of_ble_eq_true rfl) dX0_joinTeams_44 (fun H locs hP hS => ?_)
        refine lv_if_eq (tgt := 74) hx hb dX0_joinTeams_47 (by decide) (fun c8 => ?_) (fun c8 => ?_)
        · have hF := it_t hF c8
          refine lv_bipush (v := (-2)) hx hb dX0_joinTeams_74 (by decide) ?_
          obtain ⟨er, eM⟩ := pr_use hF
          exact rt_I hx hb hr hlocks hS (by rw [← eM]; exact hP) er dX0_joinTeams_76
        · have hF := it_f hF c8
          refine lv_aload_n hx hb dX0_joinTeams_50 rfl (lv_at hl 1 rfl) ?_
          refine va_get (ci := 0) (v := .ref (a 0)) (C := RX0) (T := TX0) (N := 5) hx hb htb kin0 hown hK hP 0 (pDk_0 cI d a V) rfl 0 (by decide) (htb _ bw1_135) (fun _ h9 => h9) rfl dX0_joinTeams_51 ?_
          refine lv_iload_n hx hb dX0_joinTeams_54 rfl (lv_at hl 3 rfl) ?_
          obtain ⟨r9, hr9, hF⟩ := bd_use hF
          refine cl_VI ⟨hx, hb, hml, hown, htb⟩ (kX7_isBooked l D cS g cI a V x2 _ hr9) (cwV 1 htb (gX7_isBooked bw2_172) rfl rfl rfl hdX7_isBooked ⟨Nat.le_of_ble_eq_true rfl, Nat.le_of_ble_eq_true rfl⟩) hK (hDa _) hG hA hP hS (sr_Dk_Vn cI d a V) hl.1 rfl 0 (pVn_0 _ _ _) rfl rfl (Nat.le_of_ble_eq_true rfl) dX0_joinTeams_55 (fun H locs hP hS => ?_)
          refine lv_if_eq (tgt := 74) hx hb dX0_joinTeams_58 (by decide) (fun c10 => ?_) (fun c10 => ?_)
          · have hF := it_t hF c10
            refine lv_bipush (v := (-2)) hx hb dX0_joinTeams_74 (by decide) ?_
            obtain ⟨er, eM⟩ := pr_use hF
            exact rt_I hx hb hr hlocks hS (by rw [← eM]; exact hP) er dX0_joinTeams_76
          · have hF := it_f hF c10
            refine lv_aload_n hx hb dX0_joinTeams_61 rfl (lv_at hl 1 rfl) ?_
            refine va_get (ci := 0) (v := .ref (a 3)) (C := RX0) (T := TX0) (N := 5) hx hb htb kin0 hown hK hP 0 (pDk_0 cI d a V) rfl 2 (by decide) (htb _ bw1_137) (fun _ h9 => h9) rfl dX0_joinTeams_62 ?_
            refine lv_iload_n hx hb dX0_joinTeams_65 rfl (lv_at hl 2 rfl) ?_
            refine lv_iconst (v := 0) hx hb dX0_joinTeams_66 (by decide) ?_
            obtain ⟨r11, hr11, hF⟩ := bd_use hF
            refine cl_VI ⟨hx, hb, hml, hown, htb⟩ (kX6_cell l D cS g cI (a 3) (a 4) 160 16 10 (V.2.1) x1 0 _ hr11) (cwV 2 htb (gX6_cell bw2_115) rfl rfl rfl hdX6_cell ⟨Nat.le_of_ble_eq_true rfl, Nat.le_of_ble_eq_true rfl⟩) hK (hDa _) hG hA hP hS (sr_Dk_bookings cI d a V) hl.1 rfl 0 (pTb_0 _ _ _ _ _ _ _) rfl rfl (Nat.le_of_ble_eq_true rfl) dX0_joinTeams_67 (fun H locs hP hS => ?_)
            refine lv_iload_n hx hb dX0_joinTeams_70 rfl (lv_at hl 0 rfl) ?_
            refine lv_icmp_eq (tgt := 77) hx hb dX0_joinTeams_71 (by decide) (fun c12 => ?_) (fun c12 => ?_)
            · have hF := it_t hF c12
              refine lv_aload_n hx hb dX0_joinTeams_77 rfl (lv_at hl 1 rfl) ?_
              refine va_get (ci := 0) (v := .ref (a 3)) (C := RX0) (T := TX0) (N := 5) hx hb htb kin0 hown hK hP 0 (pDk_0 cI d a V) rfl 2 (by decide) (htb _ bw1_137) (fun _ h9 => h9) rfl dX0_joinTeams_78 ?_
              refine lv_iload_n hx hb dX0_joinTeams_81 rfl (lv_at hl 2 rfl) ?_
              refine lv_iconst (v := 2) hx hb dX0_joinTeams_82 (by decide) ?_
              obtain ⟨r13, hr13, hF⟩ := bd_use hF
              refine cl_VI ⟨hx, hb, hml, hown, htb⟩ (kX6_cell l D cS g cI (a 3) (a 4) 160 16 10 (V.2.1) x1 2 _ hr13) (cwV 2 htb (gX6_cell bw2_115) rfl rfl rfl hdX6_cell ⟨Nat.le_of_ble_eq_true rfl, Nat.le_of_ble_eq_true rfl⟩) hK (hDa _) hG hA hP hS (sr_Dk_bookings cI d a V) hl.1 rfl 0 (pTb_0 _ _ _ _ _ _ _) rfl rfl (Nat.le_of_ble_eq_true rfl) dX0_joinTeams_83 (fun H locs hP hS => ?_)
              refine lv_aload_n hx hb dX0_joinTeams_86 rfl (lv_at hl 1 rfl) ?_
              refine va_get (ci := 0) (v := .ref (a 3)) (C := RX0) (T := TX0) (N := 5) hx hb htb kin0 hown hK hP 0 (pDk_0 cI d a V) rfl 2 (by decide) (htb _ bw1_137) (fun _ h9 => h9) rfl dX0_joinTeams_87 ?_
              refine lv_iload_n hx hb dX0_joinTeams_90 rfl (lv_at hl 3 rfl) ?_
              refine lv_iconst (v := 2) hx hb dX0_joinTeams_91 (by decide) ?_
              obtain ⟨r14, hr14, hF⟩ := bd_use hF
              refine cl_VI ⟨hx, hb, hml, hown, htb⟩ (kX6_cell l D cS g cI (a 3) (a 4) 160 16 10 (V.2.1) x2 2 _ hr14) (cwV 2 htb (gX6_cell bw2_115) rfl rfl rfl hdX6_cell ⟨Nat.le_of_ble_eq_true rfl, Nat.le_of_ble_eq_true rfl⟩) hK (hDa _) hG hA hP hS (sr_Dk_bookings cI d a V) hl.1 rfl 0 (pTb_0 _ _ _ _ _ _ _) rfl rfl (Nat.le_of_ble_eq_true rfl) dX0_joinTeams_92 (fun H locs hP hS => ?_)
              refine lv_iadd hx hb dX0_joinTeams_95 ?_
              refine lv_topi (fun v15 ev15 => ?_)
              have hF := nm_use hF ev15
              refine lv_istore (lv' := [(4, .int v15), (3, .int r6), (0, .ref d), (1, .int x1), (2, .int x2)]) hx hb dX0_joinTeams_96 hl (by decide) rfl (fun ls hl => ?_)
              refine lv_iload hx hb dX0_joinTeams_98 (lv_at hl 0 rfl) ?_
              refine lv_aload_n hx hb dX0_joinTeams_100 rfl (lv_at hl 2 rfl) ?_
              refine va_get (ci := 0) (v := .ref (a 1)) (C := RX0) (T := TX0) (N := 5) hx hb htb kin0 hown hK hP 0 (pDk_0 cI d a V) rfl 1 (by decide) (htb _ bw1_136) (fun _ h9 => h9) rfl dX0_joinTeams_101 ?_
              refine lv_iload_n hx hb dX0_joinTeams_104 rfl (lv_at hl 1 rfl) ?_
              refine lv_iconst (v := 3) hx hb dX0_joinTeams_105 (by decide) ?_
              obtain ⟨r16, hr16, hF⟩ := bd_use hF
              refine cl_VI ⟨hx, hb, hml, hown, htb⟩ (kX6_cell l D cS g cI (a 1) (a 2) 44 4 11 (V.1) r6 3 _ hr16) (cwV 2 htb (gX6_cell bw2_115) rfl rfl rfl hdX6_cell ⟨Nat.le_of_ble_eq_true rfl, Nat.le_of_ble_eq_true rfl⟩) hK (hDa _) hG hA hP hS (sr_Dk_rooms cI d a V) hl.1 rfl 0 (pTb_0 _ _ _ _ _ _ _) rfl rfl (Nat.le_of_ble_eq_true rfl) dX0_joinTeams_106 (fun H locs hP hS => ?_)
              refine lv_icmp_le (tgt := 115) hx hb dX0_joinTeams_109 (by decide) (fun c17 => ?_) (fun c17 => ?_)
              · have hF := it_t hF c17
                refine lv_aload_n hx hb dX0_joinTeams_115 rfl (lv_at hl 2 rfl) ?_
                refine lv_iload_n hx hb dX0_joinTeams_116 rfl (lv_at hl 3 rfl) ?_
                refine lv_iload_n hx hb dX0_joinTeams_117 rfl (lv_at hl 4 rfl) ?_
                refine lv_iconst (v := 2) hx hb dX0_joinTeams_118 (by decide) ?_
                obtain ⟨M18, hM18, hF⟩ := bd_use hF
                refine cl_VV ⟨hx, hb, hml, hown, htb⟩ (kX0_handOver l D cS g cI d a V x1 x2 2 _ hM18) (cwV 3 htb (gX0_handOver bw2_217) rfl rfl rfl hdX0_handOver ⟨Nat.le_of_ble_eq_true rfl, Nat.le_of_ble_eq_true rfl⟩) hK (hDa _) hG hA hP hS (sg_Dk_Dk cI d a V M18) hl.1 rfl 0 (pDk_0 _ _ _ _) rfl rfl (Nat.le_of_ble_eq_true rfl) dX0_joinTeams_119 (fun H locs hP hS => ?_)
                refine lv_aload_n hx hb dX0_joinTeams_122 rfl (lv_at hl 2 rfl) ?_
                refine lv_iload_n hx hb dX0_joinTeams_123 rfl (lv_at hl 3 rfl) ?_
                refine lv_iload_n hx hb dX0_joinTeams_124 rfl (lv_at hl 4 rfl) ?_
                refine lv_iconst (v := 4) hx hb dX0_joinTeams_125 (by decide) ?_
                obtain ⟨M19, hM19, hF⟩ := bd_use hF
                refine cl_VV ⟨hx, hb, hml, hown, htb⟩ (kX0_handOver l D cS g cI d a M18 x1 x2 4 _ hM19) (cwV 3 htb (gX0_handOver bw2_217) rfl rfl rfl hdX0_handOver ⟨Nat.le_of_ble_eq_true rfl, Nat.le_of_ble_eq_true rfl⟩) hK (hDa _) hG hA hP hS (sg_Dk_Dk cI d a M18 M19) hl.1 rfl 0 (pDk_0 _ _ _ _) rfl rfl (Nat.le_of_ble_eq_true rfl) dX0_joinTeams_126 (fun H locs hP hS => ?_)
                refine lv_aload_n hx hb dX0_joinTeams_129 rfl (lv_at hl 2 rfl) ?_
                refine lv_iload_n hx hb dX0_joinTeams_130 rfl (lv_at hl 3 rfl) ?_
                refine lv_iload_n hx hb dX0_joinTeams_131 rfl (lv_at hl 4 rfl) ?_
                refine lv_iconst (v := 5) hx hb dX0_joinTeams_132 (by decide) ?_
                obtain ⟨M20, hM20, hF⟩ := bd_use hF
                refine cl_VV ⟨hx, hb, hml, hown, htb⟩ (kX0_handOver l D cS g cI d a M19 x1 x2 5 _ hM20) (cwV 3 htb (gX0_handOver bw2_217) rfl rfl rfl hdX0_handOver ⟨Nat.le_of_ble_eq_true rfl, Nat.le_of_ble_eq_true rfl⟩) hK (hDa _) hG hA hP hS (sg_Dk_Dk cI d a M19 M20) hl.1 rfl 0 (pDk_0 _ _ _ _) rfl rfl (Nat.le_of_ble_eq_true rfl) dX0_joinTeams_133 (fun H locs hP hS => ?_)
                refine lv_aload_n hx hb dX0_joinTeams_136 rfl (lv_at hl 2 rfl) ?_
                refine lv_iload_n hx hb dX0_joinTeams_137 rfl (lv_at hl 3 rfl) ?_
                refine lv_iload_n hx hb dX0_joinTeams_138 rfl (lv_at hl 4 rfl) ?_
                obtain ⟨M21, hM21, hF⟩ := bd_use hF
                refine cl_VV ⟨hx, hb, hml, hown, htb⟩ (kX0_handOverPayments l D cS g cI d a M20 x1 x2 _ hM21) (cwV 2 htb (gX0_handOverPayments bw2_221) rfl rfl rfl hdX0_handOverPayments ⟨Nat.le_of_ble_eq_true rfl, Nat.le_of_ble_eq_true rfl⟩) hK (hDa _) hG hA hP hS (sg_Dk_Dk cI d a M20 M21) hl.1 rfl 0 (pDk_0 _ _ _ _) rfl rfl (Nat.le_of_ble_eq_true rfl) dX0_joinTeams_139 (fun H locs hP hS => ?_)
                refine lv_aload_n hx hb dX0_joinTeams_142 rfl (lv_at hl 2 rfl) ?_
                refine va_get (ci := 0) (v := .ref (a 3)) (C := RX0) (T := TX0) (N := 5) hx hb htb kin0 hown hK hP 0 (pDk_0 cI d a M21) rfl 2 (by decide) (htb _ bw1_137) (fun _ h9 => h9) rfl dX0_joinTeams_143 ?_
                refine lv_iload_n hx hb dX0_joinTeams_146 rfl (lv_at hl 3 rfl) ?_
                refine lv_iconst (v := 3) hx hb dX0_joinTeams_147 (by decide) ?_
                refine lv_iconst (v := 3) hx hb dX0_joinTeams_148 (by decide) ?_
                obtain ⟨M22, hM22, hF⟩ := bd_use hF
                refine cl_VV ⟨hx, hb, hml, hown, htb⟩ (kX6_put l D cS g cI (a 3) (a 4) 160 16 10 (M21.2.1) x1 3 3 _ hM22) (cwV 3 htb (gX6_put bw2_83) rfl rfl rfl hdX6_put ⟨Nat.le_of_ble_eq_true rfl, Nat.le_of_ble_eq_true rfl⟩) hK (hDa _) hG hA hP hS (sg_Dk_bookings cI d a M21 M22) hl.1 rfl 0 (pTb_0 _ _ _ _ _ _ _) rfl rfl (Nat.le_of_ble_eq_true rfl) dX0_joinTeams_149 (fun H locs hP hS => ?_)
                obtain ⟨M23, eM23⟩ : ∃ z : Vn, z = (M21.1, M22, M21.2.2) := ⟨_, rfl⟩
                have hF := nm_use hF eM23
                have hP : va_P D vwCl (wDk cI d a M23) H := by rw [eM23]; exact hP
                refine lv_iload hx hb dX0_joinTeams_152 (lv_at hl 0 rfl) ?_
                obtain ⟨er, eM⟩ := pr_use hF
                exact rt_I hx hb hr hlocks hS (by rw [← eM]; exact hP) er dX0_joinTeams_154
              · have hF := it_f hF c17
                refine lv_bipush (v := (-3)) hx hb dX0_joinTeams_112 (by decide) ?_
                obtain ⟨er, eM⟩ := pr_use hF
                exact rt_I hx hb hr hlocks hS (by rw [← eM]; exact hP) er dX0_joinTeams_114
            · have hF := it_f hF c12
              refine lv_bipush (v := (-2)) hx hb dX0_joinTeams_74 (by decide) ?_
              obtain ⟨er, eM⟩ := pr_use hF
              exact rt_I hx hb hr hlocks hS (by rw [← eM]; exact hP) er dX0_joinTeams_76
      · have hF := it_t hF c5
        refine lv_iconst (v := (-1)) hx hb dX0_joinTeams_27 (by decide) ?_
        obtain ⟨er, eM⟩ := pr_use hF
        exact rt_I hx hb hr hlocks hS (by rw [← eM]; exact hP) er dX0_joinTeams_28
noncomputable def fX0_occupy  (V : Vn) (x1 : Int32) (x2 : Int32) (x3 : Int32) : Option (Int32 × Vn) := (fX6_cell 160 16 10 (V.2.1) x1 0).bind fun r1 => (fX6_cell 160 16 10 (V.2.1) x1 1).bind fun r2 => (fX6_cell 44 4 11 (V.1) r1 4).bind fun r3 => nm (jmax r2 r3) fun v4 => nm (v4 - r2) fun v5 => (fX6_cell 44 4 11 (V.1) r1 1).bind fun r6 => (fX7_setting V 2).bind fun r7 => nm (r6 + (x3 * r7)) fun v8 => (fX6_put 44 4 11 (V.1) r1 4 ((v4 + x2) + v8)).bind fun M9 => nm ((M9, V.2)) fun M10 => (fX6_cell 44 4 11 (M10.1) r1 9).bind fun r11 => nm (jmax v5 r11) fun v12 => (fX6_put 44 4 11 (M10.1) r1 9 v12).bind fun M13 => nm ((M13, M10.2)) fun M14 => (fX6_put 160 16 10 (M14.2.1) x1 3 1).bind fun M15 => nm ((M14.1, M15, M14.2.2)) fun M16 => (fX6_put 160 16 10 (M16.2.1) x1 8 v4).bind fun M17 => nm ((M16.1, M17, M16.2.2)) fun M18 => (fX6_put 160 16 10 (M18.2.1) x1 9 x2).bind fun M19 => nm ((M18.1, M19, M18.2.2)) fun M20 => some (v5, M20)
abbrev vX0_occupy : List Cond := Cond.code yX0_occupy cX0_occupy 9 (some .int) :: BIG
theorem gX0_occupy {own : String} {idx : Nat} (h : (Cond.methodLink own idx yX0_occupy) ∈ BIG) : GoodIn BIG (wsV own idx RX0 yX0_occupy vX0_occupy) := gdV h bw3_1 bs7 bw1_7 bw3_2
def rmX0_occupy : Room := { frames := 2, cells := 0, slots := 0, locals := 45 }
theorem hdX0_occupy : yX0_occupy.cls = RX0 ∧ yX0_occupy.cls ≠ "java/lang/invoke/MethodHandle" ∧ yX0_occupy.cls ≠ "java/lang/invoke/VarHandle" ∧ (parseMethodDescriptor yX0_occupy.desc).map (fun d => d.parameters.length) = some 3 := by decide +kernel
set_option maxHeartbeats 4000000 in
set_option maxRecDepth 100000 in
theorem kX0_occupy (l : Launch) (D : va_G) (cS : ClassId) (g : Nat → Nat) (cI : ClassId) (d : Nat) (a : Nat → Nat) (V : Vn) (x1 : Int32) (x2 : Int32) (x3 : Int32) (r : Int32) (M' : Vn) (hF : fX0_occupy V x1 x2 x3 = some (r, M')) : mI l yX0_occupy vX0_occupy rmX0_occupy D cI cS g [.ref d, .int x1, .int x2, .int x3] (wDk cI d a V) r (wDk cI d a (M')) := by
  refine st_I rfl (by decide) (Nat.le_of_ble_eq_true rfl) ?_
  intro p e s m args below meth c A ls hx hb hr hml hlocks hown hts hA hK hD0 hG hP hS hl
  have hown : s.vm.findClass RX0 = some m.cls := hown
  have hDa : ∀ V, va_D A (wDk cI d a V) := fun V => hD0.adr rfl
  have htb : ∀ w ∈ BIG, w.before args s = true := fun w h => hts w (List.mem_cons_of_mem _ h)
  have hl : lv_has ls 9 [(0, .ref d), (1, .int x1), (2, .int x2), (3, .int x3)] := hl
  refine lv_aload_n hx hb dX0_occupy_0 rfl (lv_at hl 0 rfl) ?_
  refine va_get (ci := 0) (v := .ref (a 3)) (C := RX0) (T := TX0) (N := 5) hx hb htb kin0 hown hK hP 0 (pDk_0 cI d a V) rfl 2 (by decide) (htb _ bw1_137) (fun _ h9 => h9) rfl dX0_occupy_1 ?_
  refine lv_iload_n hx hb dX0_occupy_4 rfl (lv_at hl 1 rfl) ?_
  refine lv_iconst (v := 0) hx hb dX0_occupy_5 (by decide) ?_
  obtain ⟨r1, hr1, hF⟩ := bd_use hF
  refine cl_VI ⟨hx, hb, hml, hown, htb⟩ (kX6_cell l D cS g cI (a 3) (a 4) 160 16 10 (V.2.1) x1 0 _ hr1) (cwV 2 htb (gX6_cell bw2_115) rfl rfl rfl hdX6_cell ⟨Nat.le_of_ble_eq_true rfl, Nat.le_of_ble_eq_true rfl⟩) hK (hDa _) hG hA hP hS (sr_Dk_bookings cI d a V) hl.1 rfl 0 (pTb_0 _ _ _ _ _ _ _) rfl rfl (Nat.le_of_ble_eq_true rfl) dX0_occupy_6 (fun H locs hP hS => ?_)
  refine lv_istore (lv' := [(4, .int r1), (0, .ref d), (1, .int x1), (2, .int x2), (3, .int x3)]) hx hb dX0_occupy_9 hl (by decide) rfl (fun ls hl => ?_)
  refine lv_aload_n hx hb dX0_occupy_11 rfl (lv_at hl 1 rfl) ?_
  refine va_get (ci := 0) (v := .ref (a 3)) (C := RX0) (T := TX0) (N := 5) hx hb htb kin0 hown hK hP 0 (pDk_0 cI d a V) rfl 2 (by decide) (htb _ bw1_137) (fun _ h9 => h9) rfl dX0_occupy_12 ?_
  refine lv_iload_n hx hb dX0_occupy_15 rfl (lv_at hl 2 rfl) ?_
  refine lv_iconst (v := 1) hx hb dX0_occupy_16 (by decide) ?_
  obtain ⟨r2, hr2, hF⟩ := bd_use hF
  refine cl_VI ⟨hx, hb, hml, hown, htb⟩ (kX6_cell l D cS g cI (a 3) (a 4) 160 16 10 (V.2.1) x1 1 _ hr2) (cwV 2 htb (gX6_cell bw2_115) rfl rfl rfl hdX6_cell ⟨Nat.le_of_ble_eq_true rfl, Nat.le_of_ble_eq_true rfl⟩) hK (hDa _) hG hA hP hS (sr_Dk_bookings cI d a V) hl.1 rfl 0 (pTb_0 _ _ _ _ _ _ _) rfl rfl (Nat.le_of_ble_eq_true rfl) dX0_occupy_17 (fun H locs hP hS => ?_)
  refine lv_istore (lv' := [(5, .int r2), (4, .int r1), (0, .ref d), (1, .int x1), (2, .int x2), (3, .int x3)]) hx hb dX0_occupy_20 hl (by decide) rfl (fun ls hl => ?_)
  refine lv_iload hx hb dX0_occupy_22 (lv_at hl 0 rfl) ?_
  refine lv_aload_n hx hb dX0_occupy_24 rfl (lv_at hl 2 rfl) ?_
  refine va_get (ci := 0) (v := .ref (a 1)) (C := RX0) (T := TX0) (N := 5) hx hb htb kin0 hown hK hP 0 (pDk_0 cI d a V) rfl 1 (by decide) (htb _ bw1_136) (fun _ h9 => h9) rfl dX0_occupy_25 ?_
  refine lv_iload hx hb dX0_occupy_28 (lv_at hl 1 rfl) ?_
  refine lv_iconst (v := 4) hx hb dX0_occupy_30 (by decide) ?_
  obtain ⟨r3, hr3, hF⟩ := bd_use hF
  refine cl_VI ⟨hx, hb, hml, hown, htb⟩ (kX6_cell l D cS g cI (a 1) (a 2) 44 4 11 (V.1) r1 4 _ hr3) (cwV 2 htb (gX6_cell bw2_115) rfl rfl rfl hdX6_cell ⟨Nat.le_of_ble_eq_true rfl, Nat.le_of_ble_eq_true rfl⟩) hK (hDa _) hG hA hP hS (sr_Dk_rooms cI d a V) hl.1 rfl 0 (pTb_0 _ _ _ _ _ _ _) rfl rfl (Nat.le_of_ble_eq_true rfl) dX0_occupy_31 (fun H locs hP hS => ?_)
  refine va_mmax hx hb (hml.trans hl.1.symm) hown (htb _ bw3_3) (htb _ bw1_39) (htb _ bw1_5) (htb _ bw1_40) (Nat.le_of_ble_eq_true rfl) (Nat.le_of_ble_eq_true rfl) (Nat.zero_le _) (Nat.zero_le _) dX0_occupy_34 ?_
  refine lv_topi (fun v4 ev4 => ?_)
  have hF := nm_use hF ev4
  refine lv_istore (lv' := [(6, .int v4), (5, .int r2), (4, .int r1), (0, .ref d), (1, .int x1), (2, .int x2), (3, .int x3)]) hx hb dX0_occupy_37 hl (by decide) rfl (fun ls hl => ?_)
  refine lv_iload hx hb dX0_occupy_39 (lv_at hl 0 rfl) ?_
  refine lv_iload hx hb dX0_occupy_41 (lv_at hl 1 rfl) ?_
  refine lv_isub hx hb dX0_occupy_43 ?_
  refine lv_topi (fun v5 ev5 => ?_)
  have hF := nm_use hF ev5
  refine lv_istore (lv' := [(7, .int v5), (6, .int v4), (5, .int r2), (4, .int r1), (0, .ref d), (1, .int x1), (2, .int x2), (3, .int x3)]) hx hb dX0_occupy_44 hl (by decide) rfl (fun ls hl => ?_)
  refine lv_aload_n hx hb dX0_occupy_46 rfl (lv_at hl 4 rfl) ?_
  refine va_get (ci := 0) (v := .ref (a 1)) (C := RX0) (T := TX0) (N := 5) hx hb htb kin0 hown hK hP 0 (pDk_0 cI d a V) rfl 1 (by decide) (htb _ bw1_136) (fun _ h9 => h9) rfl dX0_occupy_47 ?_
  refine lv_iload hx hb dX0_occupy_50 (lv_at hl 3 rfl) ?_
  refine lv_iconst (v := 1) hx hb dX0_occupy_52 (by decide) ?_
  obtain ⟨r6, hr6, hF⟩ := bd_use hF
  refine cl_VI ⟨hx, hb, hml, hown, htb⟩ (kX6_cell l D cS g cI (a 1) (a 2) 44 4 11 (V.1) r1 1 _ hr6) (cwV 2 htb (gX6_cell bw2_115) rfl rfl rfl hdX6_cell ⟨Nat.le_of_ble_eq_true rfl, Nat.le_of_ble_eq_true rfl⟩) hK (hDa _) hG hA hP hS (sr_Dk_rooms cI d a V) hl.1 rfl 0 (pTb_0 _ _ _ _ _ _ _) rfl rfl (Nat.le_of_ble_eq_true rfl) dX0_occupy_53 (fun H locs hP hS => ?_)
  refine lv_iload_n hx hb dX0_occupy_56 rfl (lv_at hl 7 rfl) ?_
  refine lv_aload_n hx hb dX0_occupy_57 rfl (lv_at hl 4 rfl) ?_
  refine va_get (ci := 0) (v := .ref (a 0)) (C := RX0) (T := TX0) (N := 5) hx hb htb kin0 hown hK hP 0 (pDk_0 cI d a V) rfl 0 (by decide) (htb _ bw1_135) (fun _ h9 => h9) rfl dX0_occupy_58 ?_
  refine lv_iconst (v := 2) hx hb dX0_occupy_61 (by decide) ?_
  obtain ⟨r7, hr7, hF⟩ := bd_use hF
  refine cl_VI ⟨hx, hb, hml, hown, htb⟩ (kX7_setting l D cS g cI a V 2 _ hr7) (cwV 1 htb (gX7_setting bw2_163) rfl rfl rfl hdX7_setting ⟨Nat.le_of_ble_eq_true rfl, Nat.le_of_ble_eq_true rfl⟩) hK (hDa _) hG hA hP hS (sr_Dk_Vn cI d a V) hl.1 rfl 0 (pVn_0 _ _ _) rfl rfl (Nat.le_of_ble_eq_true rfl) dX0_occupy_62 (fun H locs hP hS => ?_)
  refine lv_imul hx hb dX0_occupy_65 ?_
  refine lv_iadd hx hb dX0_occupy_66 ?_
  refine lv_topi (fun v8 ev8 => ?_)
  have hF := nm_use hF ev8
  refine lv_istore (lv' := [(8, .int v8), (7, .int v5), (6, .int v4), (5, .int r2), (4, .int r1), (0, .ref d), (1, .int x1), (2, .int x2), (3, .int x3)]) hx hb dX0_occupy_67 hl (by decide) rfl (fun ls hl => ?_)
  refine lv_aload_n hx hb dX0_occupy_69 rfl (lv_at hl 5 rfl) ?_
  refine va_get (ci := 0) (v := .ref (a 1)) (C := RX0) (T := TX0) (N := 5) hx hb htb kin0 hown hK hP 0 (pDk_0 cI d a V) rfl 1 (by decide) (htb _ bw1_136) (fun _ h9 => h9) rfl dX0_occupy_70 ?_
  refine lv_iload hx hb dX0_occupy_73 (lv_at hl 4 rfl) ?_
  refine lv_iconst (v := 4) hx hb dX0_occupy_75 (by decide) ?_
  refine lv_iload hx hb dX0_occupy_76 (lv_at hl 2 rfl) ?_
  refine lv_iload_n hx hb dX0_occupy_78 rfl (lv_at hl 7 rfl) ?_
  refine lv_iadd hx hb dX0_occupy_79 ?_
  refine lv_iload hx hb dX0_occupy_80 (lv_at hl 0 rfl) ?_
  refine lv_iadd hx hb dX0_occupy_82 ?_
  obtain ⟨M9, hM9, hF⟩ := bd_use hF
  refine cl_VV ⟨hx, hb, hml, hown, htb⟩ (kX6_put l D cS g cI (a 1) (a 2) 44 4 11 (V.1) r1 4 ((v4 + x2) + v8) _ hM9) (cwV 3 htb (gX6_put bw2_83) rfl rfl rfl hdX6_put ⟨Nat.le_of_ble_eq_true rfl, Nat.le_of_ble_eq_true rfl⟩) hK (hDa _) hG hA hP hS (sg_Dk_rooms cI d a V M9) hl.1 rfl 0 (pTb_0 _ _ _ _ _ _ _) rfl rfl (Nat.le_of_ble_eq_true rfl) dX0_occupy_83 (fun H locs hP hS => ?_)
  obtain ⟨M10, eM10⟩ : ∃ z : Vn, z = (M9, V.2) := ⟨_, rfl⟩
  have hF := nm_use hF eM10
  have hP : va_P D vwCl (wDk cI d a M10) H := by rw [eM10]; exact hP
  refine lv_aload_n hx hb dX0_occupy_86 rfl (lv_at hl 5 rfl) ?_
  refine va_get (ci := 0) (v := .ref (a 1)) (C := RX0) (T := TX0) (N := 5) hx hb htb kin0 hown hK hP 0 (pDk_0 cI d a M10) rfl 1 (by decide) (htb _ bw1_136) (fun _ h9 => h9) rfl dX0_occupy_87 ?_
  refine lv_iload hx hb dX0_occupy_90 (lv_at hl 4 rfl) ?_
  refine lv_bipush (v := 9) hx hb dX0_occupy_92 (by decide) ?_
  refine lv_iload hx hb dX0_occupy_94 (lv_at hl 1 rfl) ?_
  refine lv_aload_n hx hb dX0_occupy_96 rfl (lv_at hl 5 rfl) ?_
  refine va_get (ci := 0) (v := .ref (a 1)) (C := RX0) (T := TX0) (N := 5) hx hb htb kin0 hown hK hP 0 (pDk_0 cI d a M10) rfl 1 (by decide) (htb _ bw1_136) (fun _ h9 => h9) rfl dX0_occupy_97 ?_
  refine lv_iload hx hb dX0_occupy_100 (lv_at hl 4 rfl) ?_
  refine lv_bipush (v := 9) hx hb dX0_occupy_102 (by decide) ?_
  obtain ⟨r11, hr11, hF⟩ := bd_use hF
  refine cl_VI ⟨hx, hb, hml, hown, htb⟩ (kX6_cell l D cS g cI (a 1) (a 2) 44 4 11 (M10.1) r1 9 _ hr11) (cwV 2 htb (gX6_cell bw2_115) rfl rfl rfl hdX6_cell ⟨Nat.le_of_ble_eq_true rfl, Nat.le_of_ble_eq_true rfl⟩) hK (hDa _) hG hA hP hS (sr_Dk_rooms cI d a M10) hl.1 rfl 0 (pTb_0 _ _ _ _ _ _ _) rfl rfl (Nat.le_of_ble_eq_true rfl) dX0_occupy_104 (fun H locs hP hS => ?_)
  refine va_mmax hx hb (hml.trans hl.1.symm) hown (htb _ bw3_3) (htb _ bw1_39) (htb _ bw1_5) (htb _ bw1_40) (Nat.le_of_ble_eq_true rfl) (Nat.le_of_ble_eq_true rfl) (Nat.zero_le _) (Nat.zero_le _) dX0_occupy_107 ?_
  refine lv_topi (fun v12 ev12 => ?_)
  have hF := nm_use hF ev12
  obtain ⟨M13, hM13, hF⟩ := bd_use hF
  refine cl_VV ⟨hx, hb, hml, hown, htb⟩ (kX6_put l D cS g cI (a 1) (a 2) 44 4 11 (M10.1) r1 9 v12 _ hM13) (cwV 3 htb (gX6_put bw2_83) rfl rfl rfl hdX6_put ⟨Nat.le_of_ble_eq_true rfl, Nat.le_of_ble_eq_true rfl⟩) hK (hDa _) hG hA hP hS (sg_Dk_rooms cI d a M10 M13) hl.1 rfl 0 (pTb_0 _ _ _ _ _ _ _) rfl rfl (Nat.le_of_ble_eq_true rfl) dX0_occupy_110 (fun H locs hP hS => ?_)
  obtain ⟨M14, eM14⟩ : ∃ z : Vn, z = (M13, M10.2) := ⟨_, rfl⟩
  have hF := nm_use hF eM14
  have hP : va_P D vwCl (wDk cI d a M14) H := by rw [eM14]; exact hP
  refine lv_aload_n hx hb dX0_occupy_113 rfl (lv_at hl 5 rfl) ?_
  refine va_get (ci := 0) (v := .ref (a 3)) (C := RX0) (T := TX0) (N := 5) hx hb htb kin0 hown hK hP 0 (pDk_0 cI d a M14) rfl 2 (by decide) (htb _ bw1_137) (fun _ h9 => h9) rfl dX0_occupy_114 ?_
  refine lv_iload_n hx hb dX0_occupy_117 rfl (lv_at hl 6 rfl) ?_
  refine lv_iconst (v := 3) hx hb dX0_occupy_118 (by decide) ?_
  refine lv_iconst (v := 1) hx hb dX0_occupy_119 (by decide) ?_
  obtain ⟨M15, hM15, hF⟩ := bd_use hF
  refine cl_VV ⟨hx, hb, hml, hown, htb⟩ (kX6_put l D cS g cI (a 3) (a 4) 160 16 10 (M14.2.1) x1 3 1 _ hM15) (cwV 3 htb (gX6_put bw2_83) rfl rfl rfl hdX6_put ⟨Nat.le_of_ble_eq_true rfl, Nat.le_of_ble_eq_true rfl⟩) hK (hDa _) hG hA hP hS (sg_Dk_bookings cI d a M14 M15) hl.1 rfl 0 (pTb_0 _ _ _ _ _ _ _) rfl rfl (Nat.le_of_ble_eq_true rfl) dX0_occupy_120 (fun H locs hP hS => ?_)
  obtain ⟨M16, eM16⟩ : ∃ z : Vn, z = (M14.1, M15, M14.2.2) := ⟨_, rfl⟩
  have hF := nm_use hF eM16
  have hP : va_P D vwCl (wDk cI d a M16) H := by rw [eM16]; exact hP
  refine lv_aload_n hx hb dX0_occupy_123 rfl (lv_at hl 5 rfl) ?_
  refine va_get (ci := 0) (v := .ref (a 3)) (C := RX0) (T := TX0) (N := 5) hx hb htb kin0 hown hK hP 0 (pDk_0 cI d a M16) rfl 2 (by decide) (htb _ bw1_137) (fun _ h9 => h9) rfl dX0_occupy_124 ?_
  refine lv_iload_n hx hb dX0_occupy_127 rfl (lv_at hl 6 rfl) ?_
  refine lv_bipush (v := 8) hx hb dX0_occupy_128 (by decide) ?_
  refine lv_iload hx hb dX0_occupy_130 (lv_at hl 2 rfl) ?_
  obtain ⟨M17, hM17, hF⟩ := bd_use hF
  refine cl_VV ⟨hx, hb, hml, hown, htb⟩ (kX6_put l D cS g cI (a 3) (a 4) 160 16 10 (M16.2.1) x1 8 v4 _ hM17) (cwV 3 htb (gX6_put bw2_83) rfl rfl rfl hdX6_put ⟨Nat.le_of_ble_eq_true rfl, Nat.le_of_ble_eq_true rfl⟩) hK (hDa _) hG hA hP hS (sg_Dk_bookings cI d a M16 M17) hl.1 rfl 0 (pTb_0 _ _ _ _ _ _ _) rfl rfl (Nat.le_of_ble_eq_true rfl) dX0_occupy_132 (fun H locs hP hS => ?_)
  obtain ⟨M18, eM18⟩ : ∃ z : Vn, z = (M16.1, M17, M16.2.2) := ⟨_, rfl⟩
  have hF := nm_use hF eM18
  have hP : va_P D vwCl (wDk cI d a M18) H := by rw [eM18]; exact hP
  refine lv_aload_n hx hb dX0_occupy_135 rfl (lv_at hl 5 rfl) ?_
  refine va_get (ci := 0) (v := .ref (a 3)) (C := RX0) (T := TX0) (N := 5) hx hb htb kin0 hown hK hP 0 (pDk_0 cI d a M18) rfl 2 (by decide) (htb _ bw1_137) (fun _ h9 => h9) rfl dX0_occupy_136 ?_
  refine lv_iload_n hx hb dX0_occupy_139 rfl (lv_at hl 6 rfl) ?_
  refine lv_bipush (v := 9) hx hb dX0_occupy_140 (by decide) ?_
  refine lv_iload_n hx hb dX0_occupy_142 rfl (lv_at hl 7 rfl) ?_
  obtain ⟨M19, hM19, hF⟩ := bd_use hF
  refine cl_VV ⟨hx, hb, hml, hown, htb⟩ (kX6_put l D cS g cI (a 3) (a 4) 160 16 10 (M18.2.1) x1 9 x2 _ hM19) (cwV 3 htb (gX6_put bw2_83) rfl rfl rfl hdX6_put ⟨Nat.le_of_ble_eq_true rfl, Nat.le_of_ble_eq_true rfl⟩) hK (hDa _) hG hA hP hS (sg_Dk_bookings cI d a M18 M19) hl.1 rfl 0 (pTb_0 _ _ _ _ _ _ _) rfl rfl (Nat.le_of_ble_eq_true rfl) dX0_occupy_143 (fun H locs hP hS => ?_)
  obtain ⟨M20, eM20⟩ : ∃ z : Vn, z = (M18.1, M19, M18.2.2) := ⟨_, rfl⟩
  have hF := nm_use hF eM20
  have hP : va_P D vwCl (wDk cI d a M20) H := by rw [eM20]; exact hP
  refine lv_iload hx hb dX0_occupy_146 (lv_at hl 1 rfl) ?_
  obtain ⟨er, eM⟩ := pr_use hF
  exact rt_I hx hb hr hlocks hS (by rw [← eM]; exact hP) er dX0_occupy_148
noncomputable def fX0_letPlay_j235  (V : Vn) (x1 : Int32) (x4 : Int32) (x9 : Int32) (s1 : Int32) (s2 : Int32) (s3 : Int32) : Option (Int32 × Vn) := (fX6_raise 44 4 11 (V.1) s1 s2 s3).bind fun M32 => nm ((M32, V.2)) fun M33 => b2 (fX0_occupy M33 x1 x9 x4) fun r35 M34 => (fX7_refundForDelay M34 x1 r35).bind fun r36 => (fX0_refund M34 x1 r36).bind fun M37 => some (x9, M37)
noncomputable def fX0_letPlay_j234  (V : Vn) (x1 : Int32) (x4 : Int32) (x9 : Int32) (s1 : Int32) (s2 : Int32) : Option (Int32 × Vn) := fX0_letPlay_j235 V x1 x4 x9 s1 s2 0
noncomputable def fX0_letPlay_j183  (V : Vn) (x1 : Int32) (x2 : Int32) (x3 : Int32) (x4 : Int32) (x5 : Int32) (x6 : Int32) (x8 : Int32) (x9 : Int32) (s1 : Int32) (s2 : Int32) (s3 : Int32) : Option (Int32 × Vn) := (fX6_raise 44 4 11 (V.1) s1 s2 s3).bind fun M25 => nm ((M25, V.2)) fun M26 => (fX6_raise 44 4 11 (M26.1) x5 7 x3).bind fun M27 => nm ((M27, M26.2)) fun M28 => (fX6_raise 44 4 11 (M28.1) x5 8 x9).bind fun M29 => nm ((M29, M28.2)) fun M30 => if x2 ≤ 0 then (fX0_letPlay_j234 M30 x1 x4 x9 x5 10) else (if x8 ≤ x6 then (fX0_letPlay_j234 M30 x1 x4 x9 x5 10) else (fX0_letPlay_j235 M30 x1 x4 x9 x5 10 1))
noncomputable def fX0_letPlay_j182  (V : Vn) (x1 : Int32) (x2 : Int32) (x3 : Int32) (x4 : Int32) (x5 : Int32) (x6 : Int32) (x8 : Int32) (x9 : Int32) (s1 : Int32) (s2 : Int32) : Option (Int32 × Vn) := fX0_letPlay_j183 V x1 x2 x3 x4 x5 x6 x8 x9 s1 s2 0
noncomputable def fX0_letPlay_j146  (V : Vn) (x1 : Int32) (x2 : Int32) (x3 : Int32) (x4 : Int32) (x5 : Int32) (x6 : Int32) (x7 : Int32) (x8 : Int32) (s0 : Int32) : Option (Int32 × Vn) := (fX6_raise 44 4 11 (V.1) x5 5 1).bind fun M22 => nm ((M22, V.2)) fun M23 => if x2 ≤ 0 then (fX0_letPlay_j182 M23 x1 x2 x3 x4 x5 x6 x8 s0 x5 6) else (if x7 < x8 then (fX0_letPlay_j182 M23 x1 x2 x3 x4 x5 x6 x8 s0 x5 6) else (fX0_letPlay_j183 M23 x1 x2 x3 x4 x5 x6 x8 s0 x5 6 1))
noncomputable def fX0_letPlay  (V : Vn) (x1 : Int32) (x2 : Int32) (x3 : Int32) (x4 : Int32) : Option (Int32 × Vn) := (fX6_cell 160 16 10 (V.2.1) x1 0).bind fun r1 => (fX6_has 160 16 10 (V.2.1) x1).bind fun r2 => if r2 = 0 then (some ((-1), V)) else ((fX6_cell 44 4 11 (V.1) r1 0).bind fun r4 => (fX8_inRange x2 0 r4).bind fun r5 => if r5 = 0 then (some ((-1), V)) else ((fX8_inRange x3 0 20).bind fun r7 => if r7 = 0 then (some ((-1), V)) else ((fX8_inRange x4 0 9).bind fun r9 => if r9 = 0 then (some ((-1), V)) else ((fX7_isBooked V x1).bind fun r11 => if r11 = 0 then (some ((-2), V)) else ((fX7_nextBooked V r1 (-1)).bind fun r13 => if r13 = x1 then ((fX6_cell 44 4 11 (V.1) r1 0).bind fun r15 => (fX7_setting V 1).bind fun r16 => nm (r15 + r16) fun v17 => (fX7_setting V 0).bind fun r18 => nm (x2 + (x3 * r18)) fun v19 => if x2 = 0 then (fX0_letPlay_j146 V x1 x2 x3 x4 r1 r15 v17 v19 r15) else (nm (jmin v19 v17) fun v21 => fX0_letPlay_j146 V x1 x2 x3 x4 r1 r15 v17 v19 v21)) else (some ((-2), V)))))))
abbrev vX0_letPlay : List Cond := Cond.code yX0_letPlay cX0_letPlay 11 (some .int) :: BIG
theorem gX0_letPlay {own : String} {idx : Nat} (h : (Cond.methodLink own idx yX0_letPlay) ∈ BIG) : GoodIn BIG (wsV own idx RX0 yX0_letPlay vX0_letPlay) := gdV h bw2_235 bw2_236 bw1_7 bw2_237
def rmX0_letPlay : Room := { frames := 4, cells := 0, slots := 0, locals := 96 }
theorem hdX0_letPlay : yX0_letPlay.cls = RX0 ∧ yX0_letPlay.cls ≠ "java/lang/invoke/MethodHandle" ∧ yX0_letPlay.cls ≠ "java/lang/invoke/VarHandle" ∧ (parseMethodDescriptor yX0_letPlay.desc).map (fun d => d.parameters.length) = some 4 := by decide +kernel
set_option maxHeartbeats 4000000 in
set_option maxRecDepth 100000 in
theorem kX0_letPlay (l : Launch) (D : va_G) (cS : ClassId) (g : Nat → Nat) (cI : ClassId) (d : Nat) (a : Nat → Nat) (V : Vn) (x1 : Int32) (x2 : Int32) (x3 : Int32) (x4 : Int32) (r : Int32) (M' : Vn) (hF : fX0_letPlay V x1 x2 x3 x4 = some (r, M')) : mI l yX0_letPlay vX0_letPlay rmX0_letPlay D cI cS g [.ref d, .int x1, .int x2, .int x3, .int x4] (wDk cI d a V) r (wDk cI d a (M')) := by
  refine st_I rfl (by decide) (Nat.le_of_ble_eq_true rfl) ?_
  intro p e s m args below meth c A ls hx hb hr hml hlocks hown hts hA hK hD0 hG hP hS hl
  have hown : s.vm.findClass RX0 = some m.cls := hown
  have hDa : ∀ V, va_D A (wDk cI d a V) := fun V => hD0.adr rfl
  have htb : ∀ w ∈ BIG, w.before args s = true := fun w h => hts w (List.mem_cons_of_mem _ h)
  have hl : lv_has ls 11 [(0, .ref d), (1, .int x1), (2, .int x2), (3, .int x3), (4, .int x4)] := hl
  have j235 : ∀ (V : Vn) (x1 : Int32) (x4 : Int32) (x9 : Int32) (s1 : Int32) (s2 : Int32) (s3 : Int32) (H : Heap) (locs : List Loc) (ls : Array Slot), fX0_letPlay_j235 V x1 x4 x9 s1 s2 s3 = some (r, M') → va_P D vwCl (wDk cI d a V) H → va_S A s.heap H locs → lv_has ls 11 [(0, .ref d), (1, .int x1), (4, .int x4), (9, .int x9)] → W p l e rmX0_letPlay s m args below meth c H locs 0 0 (MQ below (qI D r (wDk cI d a (M')) A) args s 0 0 A) (F0 m 235 ls [.int s3, .int s2, .int s1, .ref (a 1)]) := by
    intro V x1 x4 x9 s1 s2 s3 H locs ls hF hP hS hl
    obtain ⟨M32, hM32, hF⟩ := bd_use hF
    refine cl_VV ⟨hx, hb, hml, hown, htb⟩ (kX6_raise l D cS g cI (a 1) (a 2) 44 4 11 (V.1) s1 s2 s3 _ hM32) (cwV 3 htb (gX6_raise bw2_141) rfl rfl rfl hdX6_raise ⟨Nat.le_of_ble_eq_true rfl, Nat.le_of_ble_eq_true rfl⟩) hK (hDa _) hG hA hP hS (sg_Dk_rooms cI d a V M32) hl.1 rfl 0 (pTb_0 _ _ _ _ _ _ _) rfl rfl (Nat.le_of_ble_eq_true rfl) dX0_letPlay_235 (fun H locs hP hS => ?_)
    obtain ⟨M33, eM33⟩ : ∃ z : Vn, z = (M32, V.2) := ⟨_, rfl⟩
    have hF := nm_use hF eM33
    have hP : va_P D vwCl (wDk cI d a M33) H := by rw [eM33]; exact hP
    refine lv_aload_n hx hb dX0_letPlay_238 rfl (lv_at hl 0 rfl) ?_
    refine lv_iload_n hx hb dX0_letPlay_239 rfl (lv_at hl 1 rfl) ?_
    refine lv_iload hx hb dX0_letPlay_240 (lv_at hl 3 rfl) ?_
    refine lv_iload hx hb dX0_letPlay_242 (lv_at hl 2 rfl) ?_
    obtain ⟨r35, M34, hM34, hF⟩ := b2_use hF
    refine cl_VI ⟨hx, hb, hml, hown, htb⟩ (kX0_occupy l D cS g cI d a M33 x1 x9 x4 _ _ hM34) (cwV 3 htb (gX0_occupy bw2_239) rfl rfl rfl hdX0_occupy ⟨Nat.le_of_ble_eq_true rfl, Nat.le_of_ble_eq_true rfl⟩) hK (hDa _) hG hA hP hS (sg_Dk_Dk cI d a M33 M34) hl.1 rfl 0 (pDk_0 _ _ _ _) rfl rfl (Nat.le_of_ble_eq_true rfl) dX0_letPlay_244 (fun H locs hP hS => ?_)
    refine lv_istore (lv' := [(10, .int r35), (0, .ref d), (1, .int x1), (4, .int x4), (9, .int x9)]) hx hb dX0_letPlay_247 hl (by decide) rfl (fun ls hl => ?_)
    refine lv_aload_n hx hb dX0_letPlay_249 rfl (lv_at hl 1 rfl) ?_
    refine lv_iload_n hx hb dX0_letPlay_250 rfl (lv_at hl 2 rfl) ?_
    refine lv_aload_n hx hb dX0_letPlay_251 rfl (lv_at hl 1 rfl) ?_
    refine va_get (ci := 0) (v := .ref (a 0)) (C := RX0) (T := TX0) (N := 5) hx hb htb kin0 hown hK hP 0 (pDk_0 cI d a M34) rfl 0 (by decide) (htb _ bw1_135) (fun _ h9 => h9) rfl dX0_letPlay_252 ?_
    refine lv_iload_n hx hb dX0_letPlay_255 rfl (lv_at hl 2 rfl) ?_
    refine lv_iload hx hb dX0_letPlay_256 (lv_at hl 0 rfl) ?_
    obtain ⟨r36, hr36, hF⟩ := bd_use hF
    refine cl_VI ⟨hx, hb, hml, hown, htb⟩ (kX7_refundForDelay l D cS g cI a M34 x1 r35 _ hr36) (cwV 2 htb (gX7_refundForDelay bw3_4) rfl rfl rfl hdX7_refundForDelay ⟨Nat.le_of_ble_eq_true rfl, Nat.le_of_ble_eq_true rfl⟩) hK (hDa _) hG hA hP hS (sr_Dk_Vn cI d a M34) hl.1 rfl 0 (pVn_0 _ _ _) rfl rfl (Nat.le_of_ble_eq_true rfl) dX0_letPlay_258 (fun H locs hP hS => ?_)
    obtain ⟨M37, hM37, hF⟩ := bd_use hF
    refine cl_VV ⟨hx, hb, hml, hown, htb⟩ (kX0_refund l D cS g cI d a M34 x1 r36 _ hM37) (cwV 2 htb (gX0_refund bw2_189) rfl rfl rfl hdX0_refund ⟨Nat.le_of_ble_eq_true rfl, Nat.le_of_ble_eq_true rfl⟩) hK (hDa _) hG hA hP hS (sg_Dk_Dk cI d a M34 M37) hl.1 rfl 0 (pDk_0 _ _ _ _) rfl rfl (Nat.le_of_ble_eq_true rfl) dX0_letPlay_261 (fun H locs hP hS => ?_)
    refine lv_iload hx hb dX0_letPlay_264 (lv_at hl 4 rfl) ?_
    obtain ⟨er, eM⟩ := pr_use hF
    exact rt_I hx hb hr hlocks hS (by rw [← eM]; exact hP) er dX0_letPlay_266
  have j234 : ∀ (V : Vn) (x1 : Int32) (x4 : Int32) (x9 : Int32) (s1 : Int32) (s2 : Int32) (H : Heap) (locs : List Loc) (ls : Array Slot), fX0_letPlay_j234 V x1 x4 x9 s1 s2 = some (r, M') → va_P D vwCl (wDk cI d a V) H → va_S A s.heap H locs → lv_has ls 11 [(0, .ref d), (1, .int x1), (4, .int x4), (9, .int x9)] → W p l e rmX0_letPlay s m args below meth c H locs 0 0 (MQ below (qI D r (wDk cI d a (M')) A) args s 0 0 A) (F0 m 234 ls [.int s2, .int s1, .ref (a 1)]) := by
    intro V x1 x4 x9 s1 s2 H locs ls hF hP hS hl
    refine lv_iconst (v := 0) hx hb dX0_letPlay_234 (by decide) ?_
    exact j235 V x1 x4 x9 s1 s2 0 _ _ _ hF hP hS (lv_sub hl [0, 1, 2, 3] rfl)
  have j183 : ∀ (V : Vn) (x1 : Int32) (x2 : Int32) (x3 : Int32) (x4 : Int32) (x5 : Int32) (x6 : Int32) (x8 : Int32) (x9 : Int32) (s1 : Int32) (s2 : Int32) (s3 : Int32) (H : Heap) (locs : List Loc) (ls : Array Slot), fX0_letPlay_j183 V x1 x2 x3 x4 x5 x6 x8 x9 s1 s2 s3 = some (r, M') → va_P D vwCl (wDk cI d a V) H → va_S A s.heap H locs → lv_has ls 11 [(0, .ref d), (1, .int x1), (2, .int x2), (3, .int x3), (4, .int x4), (5, .int x5), (6, .int x6), (8, .int x8), (9, .int x9)] → W p l e rmX0_letPlay s m args below meth c H locs 0 0 (MQ below (qI D r (wDk cI d a (M')) A) args s 0 0 A) (F0 m 183 ls [.int s3, .int s2, .int s1, .ref (a 1)]) := by
    intro V x1 x2 x3 x4 x5 x6 x8 x9 s1 s2 s3 H locs ls hF hP hS hl
    obtain ⟨M25, hM25, hF⟩ := bd_use hF
    refine cl_VV ⟨hx, hb, hml, hown, htb⟩ (kX6_raise l D cS g cI (a 1) (a 2) 44 4 11 (V.1) s1 s2 s3 _ hM25) (cwV 3 htb (gX6_raise bw2_141) rfl rfl rfl hdX6_raise ⟨Nat.le_of_ble_eq_true rfl, Nat.le_of_ble_eq_true rfl⟩) hK (hDa _) hG hA hP hS (sg_Dk_rooms cI d a V M25) hl.1 rfl 0 (pTb_0 _ _ _ _ _ _ _) rfl rfl (Nat.le_of_ble_eq_true rfl) dX0_letPlay_183 (fun H locs hP hS => ?_)
    obtain ⟨M26, eM26⟩ : ∃ z : Vn, z = (M25, V.2) := ⟨_, rfl⟩
    have hF := nm_use hF eM26
    have hP : va_P D vwCl (wDk cI d a M26) H := by rw [eM26]; exact hP
    refine lv_aload_n hx hb dX0_letPlay_186 rfl (lv_at hl 0 rfl) ?_
    refine va_get (ci := 0) (v := .ref (a 1)) (C := RX0) (T := TX0) (N := 5) hx hb htb kin0 hown hK hP 0 (pDk_0 cI d a M26) rfl 1 (by decide) (htb _ bw1_136) (fun _ h9 => h9) rfl dX0_letPlay_187 ?_
    refine lv_iload hx hb dX0_letPlay_190 (lv_at hl 5 rfl) ?_
    refine lv_bipush (v := 7) hx hb dX0_letPlay_192 (by decide) ?_
    refine lv_iload_n hx hb dX0_letPlay_194 rfl (lv_at hl 3 rfl) ?_
    obtain ⟨M27, hM27, hF⟩ := bd_use hF
    refine cl_VV ⟨hx, hb, hml, hown, htb⟩ (kX6_raise l D cS g cI (a 1) (a 2) 44 4 11 (M26.1) x5 7 x3 _ hM27) (cwV 3 htb (gX6_raise bw2_141) rfl rfl rfl hdX6_raise ⟨Nat.le_of_ble_eq_true rfl, Nat.le_of_ble_eq_true rfl⟩) hK (hDa _) hG hA hP hS (sg_Dk_rooms cI d a M26 M27) hl.1 rfl 0 (pTb_0 _ _ _ _ _ _ _) rfl rfl (Nat.le_of_ble_eq_true rfl) dX0_letPlay_195 (fun H locs hP hS => ?_)
    obtain ⟨M28, eM28⟩ : ∃ z : Vn, z = (M27, M26.2) := ⟨_, rfl⟩
    have hF := nm_use hF eM28
    have hP : va_P D vwCl (wDk cI d a M28) H := by rw [eM28]; exact hP
    refine lv_aload_n hx hb dX0_letPlay_198 rfl (lv_at hl 0 rfl) ?_
    refine va_get (ci := 0) (v := .ref (a 1)) (C := RX0) (T := TX0) (N := 5) hx hb htb kin0 hown hK hP 0 (pDk_0 cI d a M28) rfl 1 (by decide) (htb _ bw1_136) (fun _ h9 => h9) rfl dX0_letPlay_199 ?_
    refine lv_iload hx hb dX0_letPlay_202 (lv_at hl 5 rfl) ?_
    refine lv_bipush (v := 8) hx hb dX0_letPlay_204 (by decide) ?_
    refine lv_iload hx hb dX0_letPlay_206 (lv_at hl 8 rfl) ?_
    obtain ⟨M29, hM29, hF⟩ := bd_use hF
    refine cl_VV ⟨hx, hb, hml, hown, htb⟩ (kX6_raise l D cS g cI (a 1) (a 2) 44 4 11 (M28.1) x5 8 x9 _ hM29) (cwV 3 htb (gX6_raise bw2_141) rfl rfl rfl hdX6_raise ⟨Nat.le_of_ble_eq_true rfl, Nat.le_of_ble_eq_true rfl⟩) hK (hDa _) hG hA hP hS (sg_Dk_rooms cI d a M28 M29) hl.1 rfl 0 (pTb_0 _ _ _ _ _ _ _) rfl rfl (Nat.le_of_ble_eq_true rfl) dX0_letPlay_208 (fun H locs hP hS => ?_)
    obtain ⟨M30, eM30⟩ : ∃ z : Vn, z = (M29, M28.2) := ⟨_, rfl⟩
    have hF := nm_use hF eM30
    have hP : va_P D vwCl (wDk cI d a M30) H := by rw [eM30]; exact hP
    refine lv_aload_n hx hb dX0_letPlay_211 rfl (lv_at hl 0 rfl) ?_
    refine va_get (ci := 0) (v := .ref (a 1)) (C := RX0) (T := TX0) (N := 5) hx hb htb kin0 hown hK hP 0 (pDk_0 cI d a M30) rfl 1 (by decide) (htb _ bw1_136) (fun _ h9 => h9) rfl dX0_letPlay_212 ?_
    refine lv_iload hx hb dX0_letPlay_215 (lv_at hl 5 rfl) ?_
    refine lv_bipush (v := 10) hx hb dX0_letPlay_217 (by decide) ?_
    refine lv_iload_n hx hb dX0_letPlay_219 rfl (lv_at hl 2 rfl) ?_
    refine lv_if_le (tgt := 234) hx hb dX0_letPlay_220 (by decide) (fun c31 => ?_) (fun c31 => ?_)
    · have hF := it_t hF c31
      exact j234 M30 x1 x4 x9 x5 10 _ _ _ hF hP hS (lv_sub hl [0, 1, 4, 8] rfl)
    · have hF := it_f hF c31
      refine lv_iload hx hb dX0_letPlay_223 (lv_at hl 7 rfl) ?_
      refine lv_iload hx hb dX0_letPlay_225 (lv_at hl 6 rfl) ?_
      refine lv_icmp_le (tgt := 234) hx hb dX0_letPlay_227 (by decide) (fun c38 => ?_) (fun c38 => ?_)
      · have hF := it_t hF c38
        exact j234 M30 x1 x4 x9 x5 10 _ _ _ hF hP hS (lv_sub hl [0, 1, 4, 8] rfl)
      · have hF := it_f hF c38
        refine lv_iconst (v := 1) hx hb dX0_letPlay_230 (by decide) ?_
        refine lv_goto (tgt := 235) hx hb dX0_letPlay_231 (by decide) ?_
        exact j235 M30 x1 x4 x9 x5 10 1 _ _ _ hF hP hS (lv_sub hl [0, 1, 4, 8] rfl)
  have j182 : ∀ (V : Vn) (x1 : Int32) (x2 : Int32) (x3 : Int32) (x4 : Int32) (x5 : Int32) (x6 : Int32) (x8 : Int32) (x9 : Int32) (s1 : Int32) (s2 : Int32) (H : Heap) (locs : List Loc) (ls : Array Slot), fX0_letPlay_j182 V x1 x2 x3 x4 x5 x6 x8 x9 s1 s2 = some (r, M') → va_P D vwCl (wDk cI d a V) H → va_S A s.heap H locs → lv_has ls 11 [(0, .ref d), (1, .int x1), (2, .int x2), (3, .int x3), (4, .int x4), (5, .int x5), (6, .int x6), (8, .int x8), (9, .int x9)] → W p l e rmX0_letPlay s m args below meth c H locs 0 0 (MQ below (qI D r (wDk cI d a (M')) A) args s 0 0 A) (F0 m 182 ls [.int s2, .int s1, .ref (a 1)]) := by
    intro V x1 x2 x3 x4 x5 x6 x8 x9 s1 s2 H locs ls hF hP hS hl
    refine lv_iconst (v := 0) hx hb dX0_letPlay_182 (by decide) ?_
    exact j183 V x1 x2 x3 x4 x5 x6 x8 x9 s1 s2 0 _ _ _ hF hP hS (lv_sub hl [0, 1, 2, 3, 4, 5, 6, 7, 8] rfl)
  have j146 : ∀ (V : Vn) (x1 : Int32) (x2 : Int32) (x3 : Int32) (x4 : Int32) (x5 : Int32) (x6 : Int32) (x7 : Int32) (x8 : Int32) (s0 : Int32) (H : Heap) (locs : List Loc) (ls : Array Slot), fX0_letPlay_j146 V x1 x2 x3 x4 x5 x6 x7 x8 s0 = some (r, M') → va_P D vwCl (wDk cI d a V) H → va_S A s.heap H locs → lv_has ls 11 [(0, .ref d), (1, .int x1), (2, .int x2), (3, .int x3), (4, .int x4), (5, .int x5), (6, .int x6), (7, .int x7), (8, .int x8)] → W p l e rmX0_letPlay s m args below meth c H locs 0 0 (MQ below (qI D r (wDk cI d a (M')) A) args s 0 0 A) (F0 m 146 ls [.int s0]) := by
    intro V x1 x2 x3 x4 x5 x6 x7 x8 s0 H locs ls hF hP hS hl
    refine lv_istore (lv' := [(9, .int s0), (0, .ref d), (1, .int x1), (2, .int x2), (3, .int x3), (4, .int x4), (5, .int x5), (6, .int x6), (7, .int x7), (8, .int x8)]) hx hb dX0_letPlay_146 hl (by decide) rfl (fun ls hl => ?_)
    refine lv_aload_n hx hb dX0_letPlay_148 rfl (lv_at hl 1 rfl) ?_
    refine va_get (ci := 0) (v := .ref (a 1)) (C := RX0) (T := TX0) (N := 5) hx hb htb kin0 hown hK hP 0 (pDk_0 cI d a V) rfl 1 (by decide) (htb _ bw1_136) (fun _ h9 => h9) rfl dX0_letPlay_149 ?_
    refine lv_iload hx hb dX0_letPlay_152 (lv_at hl 6 rfl) ?_
    refine lv_iconst (v := 5) hx hb dX0_letPlay_154 (by decide) ?_
    refine lv_iconst (v := 1) hx hb dX0_letPlay_155 (by decide) ?_
    obtain ⟨M22, hM22, hF⟩ := bd_use hF
    refine cl_VV ⟨hx, hb, hml, hown, htb⟩ (kX6_raise l D cS g cI (a 1) (a 2) 44 4 11 (V.1) x5 5 1 _ hM22) (cwV 3 htb (gX6_raise bw2_141) rfl rfl rfl hdX6_raise ⟨Nat.le_of_ble_eq_true rfl, Nat.le_of_ble_eq_true rfl⟩) hK (hDa _) hG hA hP hS (sg_Dk_rooms cI d a V M22) hl.1 rfl 0 (pTb_0 _ _ _ _ _ _ _) rfl rfl (Nat.le_of_ble_eq_true rfl) dX0_letPlay_156 (fun H locs hP hS => ?_)
    obtain ⟨M23, eM23⟩ : ∃ z : Vn, z = (M22, V.2) := ⟨_, rfl⟩
    have hF := nm_use hF eM23
    have hP : va_P D vwCl (wDk cI d a M23) H := by rw [eM23]; exact hP
    refine lv_aload_n hx hb dX0_letPlay_159 rfl (lv_at hl 1 rfl) ?_
    refine va_get (ci := 0) (v := .ref (a 1)) (C := RX0) (T := TX0) (N := 5) hx hb htb kin0 hown hK hP 0 (pDk_0 cI d a M23) rfl 1 (by decide) (htb _ bw1_136) (fun _ h9 => h9) rfl dX0_letPlay_160 ?_
    refine lv_iload hx hb dX0_letPlay_163 (lv_at hl 6 rfl) ?_
    refine lv_bipush (v := 6) hx hb dX0_letPlay_165 (by decide) ?_
    refine lv_iload_n hx hb dX0_letPlay_167 rfl (lv_at hl 3 rfl) ?_
    refine lv_if_le (tgt := 182) hx hb dX0_letPlay_168 (by decide) (fun c24 => ?_) (fun c24 => ?_)
    · have hF := it_t hF c24
      exact j182 M23 x1 x2 x3 x4 x5 x6 x8 s0 x5 6 _ _ _ hF hP hS (lv_sub hl [1, 2, 3, 4, 5, 6, 7, 9, 0] rfl)
    · have hF := it_f hF c24
      refine lv_iload hx hb dX0_letPlay_171 (lv_at hl 9 rfl) ?_
      refine lv_iload hx hb dX0_letPlay_173 (lv_at hl 8 rfl) ?_
      refine lv_icmp_gt (tgt := 182) hx hb dX0_letPlay_175 (by decide) (fun c39 => ?_) (fun c39 => ?_)
      · have hF := it_t hF c39
        exact j182 M23 x1 x2 x3 x4 x5 x6 x8 s0 x5 6 _ _ _ hF hP hS (lv_sub hl [1, 2, 3, 4, 5, 6, 7, 9, 0] rfl)
      · have hF := it_f hF c39
        refine lv_iconst (v := 1) hx hb dX0_letPlay_178 (by decide) ?_
        refine lv_goto (tgt := 183) hx hb dX0_letPlay_179 (by decide) ?_
        exact j183 M23 x1 x2 x3 x4 x5 x6 x8 s0 x5 6 1 _ _ _ hF hP hS (lv_sub hl [1, 2, 3, 4, 5, 6, 7, 9, 0] rfl)
  refine lv_aload_n hx hb dX0_letPlay_0 rfl (lv_at hl 0 rfl) ?_
  refine va_get (ci := 0) (v := .ref (a 3)) (C := RX0) (T := TX0) (N := 5) hx hb htb kin0 hown hK hP 0 (pDk_0 cI d a V) rfl 2 (by decide) (htb _ bw1_137) (fun _ h9 => h9) rfl dX0_letPlay_1 ?_
  refine lv_iload_n hx hb dX0_letPlay_4 rfl (lv_at hl 1 rfl) ?_
  refine lv_iconst (v := 0) hx hb dX0_letPlay_5 (by decide) ?_
  obtain ⟨r1, hr1, hF⟩ := bd_use hF
  refine cl_VI ⟨hx, hb, hml, hown, htb⟩ (kX6_cell l D cS g cI (a 3) (a 4) 160 16 10 (V.2.1) x1 0 _ hr1) (cwV 2 htb (gX6_cell bw2_115) rfl rfl rfl hdX6_cell ⟨Nat.le_of_ble_eq_true rfl, Nat.le_of_ble_eq_true rfl⟩) hK (hDa _) hG hA hP hS (sr_Dk_bookings cI d a V) hl.1 rfl 0 (pTb_0 _ _ _ _ _ _ _) rfl rfl (Nat.le_of_ble_eq_true rfl) dX0_letPlay_6 (fun H locs hP hS => ?_)
  refine lv_istore (lv' := [(5, .int r1), (0, .ref d), (1, .int x1), (2, .int x2), (3, .int x3), (4, .int x4)]) hx hb dX0_letPlay_9 hl (by decide) rfl (fun ls hl => ?_)
  refine lv_aload_n hx hb dX0_letPlay_11 rfl (lv_at hl 1 rfl) ?_
  refine va_get (ci := 0) (v := .ref (a 3)) (C := RX0) (T := TX0) (N := 5) hx hb htb kin0 hown hK hP 0 (pDk_0 cI d a V) rfl 2 (by decide) (htb _ bw1_137) (fun _ h9 => h9) rfl dX0_letPlay_12 ?_
  refine lv_iload_n hx hb dX0_letPlay_15 rfl (lv_at hl 2 rfl) ?_
  obtain ⟨r2, hr2, hF⟩ := bd_use hF
  refine cl_VI ⟨hx, hb, hml, hown, htb⟩ (kX6_has l D cS g cI (a 3) (a 4) 160 16 10 (V.2.1) x1 _ hr2) (cwV 1 htb (gX6_has bw2_111) rfl rfl rfl hdX6_has ⟨Nat.le_of_ble_eq_true rfl, Nat.le_of_ble_eq_true rfl⟩) hK (hDa _) hG hA hP hS (sr_Dk_bookings cI d a V) hl.1 rfl 0 (pTb_0 _ _ _ _ _ _ _) rfl rfl (Nat.le_of_ble_eq_true rfl) dX0_letPlay_16 (fun H locs hP hS => ?_)
  refine lv_if_eq (tgt := 61) hx hb dX0_letPlay_19 (by decide) (fun c3 => ?_) (fun c3 => ?_)
  · have hF := it_t hF c3
    refine lv_iconst (v := (-1)) hx hb dX0_letPlay_61 (by decide) ?_
    obtain ⟨er, eM⟩ := pr_use hF
    exact rt_I hx hb hr hlocks hS (by rw [← eM]; exact hP) er dX0_letPlay_62
  · have hF := it_f hF c3
    refine lv_iload_n hx hb dX0_letPlay_22 rfl (lv_at hl 3 rfl) ?_
    refine lv_iconst (v := 0) hx hb dX0_letPlay_23 (by decide) ?_
    refine lv_aload_n hx hb dX0_letPlay_24 rfl (lv_at hl 1 rfl) ?_
    refine va_get (ci := 0) (v := .ref (a 1)) (C := RX0) (T := TX0) (N := 5) hx hb htb kin0 hown hK hP 0 (pDk_0 cI d a V) rfl 1 (by decide) (htb _ bw1_136) (fun _ h9 => h9) rfl dX0_letPlay_25 ?_
    refine lv_iload hx hb dX0_letPlay_28 (lv_at hl 0 rfl) ?_
    refine lv_iconst (v := 0) hx hb dX0_letPlay_30 (by decide) ?_
    obtain ⟨r4, hr4, hF⟩ := bd_use hF
    refine cl_VI ⟨hx, hb, hml, hown, htb⟩ (kX6_cell l D cS g cI (a 1) (a 2) 44 4 11 (V.1) r1 0 _ hr4) (cwV 2 htb (gX6_cell bw2_115) rfl rfl rfl hdX6_cell ⟨Nat.le_of_ble_eq_true rfl, Nat.le_of_ble_eq_true rfl⟩) hK (hDa _) hG hA hP hS (sr_Dk_rooms cI d a V) hl.1 rfl 0 (pTb_0 _ _ _ _ _ _ _) rfl rfl (Nat.le_of_ble_eq_true rfl) dX0_letPlay_31 (fun H locs hP hS => ?_)
    obtain ⟨r5, hr5, hF⟩ := bd_use hF
    refine cl_SNI ⟨hx, hb, hml, hown, htb⟩ (kX8_inRange l D cS g cI x2 0 r4 _ hr5) ⟨va_cnB 3 htb gX8_inRange_n rfl rfl rfl hG.2.2.2.1 (htb _ bw1_1) hdX8_inRange ⟨Nat.le_of_ble_eq_true rfl, Nat.le_of_ble_eq_true rfl⟩, (htb _ bw1_229), trivial⟩ hK (hDa _) hG hA hP hS sg_nil hl.1 rfl rfl (Nat.le_of_ble_eq_true rfl) dX0_letPlay_34 (fun H locs hP hS => ?_)
    refine lv_if_eq (tgt := 61) hx hb dX0_letPlay_37 (by decide) (fun c6 => ?_) (fun c6 => ?_)
    · have hF := it_t hF c6
      refine lv_iconst (v := (-1)) hx hb dX0_letPlay_61 (by decide) ?_
      obtain ⟨er, eM⟩ := pr_use hF
      exact rt_I hx hb hr hlocks hS (by rw [← eM]; exact hP) er dX0_letPlay_62
    · have hF := it_f hF c6
      refine lv_iload_n hx hb dX0_letPlay_40 rfl (lv_at hl 4 rfl) ?_
      refine lv_iconst (v := 0) hx hb dX0_letPlay_41 (by decide) ?_
      refine lv_bipush (v := 20) hx hb dX0_letPlay_42 (by decide) ?_
      obtain ⟨r7, hr7, hF⟩ := bd_use hF
      refine cl_SNI ⟨hx, hb, hml, hown, htb⟩ (kX8_inRange l D cS g cI x3 0 20 _ hr7) ⟨va_cnB 3 htb gX8_inRange_n rfl rfl rfl hG.2.2.2.1 (htb _ bw1_1) hdX8_inRange ⟨Nat.le_of_ble_eq_true rfl, Nat.le_of_ble_eq_true rfl⟩, (htb _ bw1_229), trivial⟩ hK (hDa _) hG hA hP hS sg_nil hl.1 rfl rfl (Nat.le_of_ble_eq_true rfl) dX0_letPlay_44 (fun H locs hP hS => ?_)
      refine lv_if_eq (tgt := 61) hx hb dX0_letPlay_47 (by decide) (fun c8 => ?_) (fun c8 => ?_)
      · have hF := it_t hF c8
        refine lv_iconst (v := (-1)) hx hb dX0_letPlay_61 (by decide) ?_
        obtain ⟨er, eM⟩ := pr_use hF
        exact rt_I hx hb hr hlocks hS (by rw [← eM]; exact hP) er dX0_letPlay_62
      · have hF := it_f hF c8
        refine lv_iload hx hb dX0_letPlay_50 (lv_at hl 5 rfl) ?_
        refine lv_iconst (v := 0) hx hb dX0_letPlay_52 (by decide) ?_
        refine lv_bipush (v := 9) hx hb dX0_letPlay_53 (by decide) ?_
        obtain ⟨r9, hr9, hF⟩ := bd_use hF
        refine cl_SNI ⟨hx, hb, hml, hown, htb⟩ (kX8_inRange l D cS g cI x4 0 9 _ hr9) ⟨va_cnB 3 htb gX8_inRange_n rfl rfl rfl hG.2.2.2.1 (htb _ bw1_1) hdX8_inRange ⟨Nat.le_of_ble_eq_true rfl, Nat.le_of_ble_eq_true rfl⟩, (htb _ bw1_229), trivial⟩ hK (hDa _) hG hA hP hS sg_nil hl.1 rfl rfl (Nat.le_of_ble_eq_true rfl) dX0_letPlay_55 (fun H locs hP hS => ?_)
        refine lv_if_ne (tgt := 63) hx hb dX0_letPlay_58 (by decide) (fun c10 => ?_) (fun c10 => ?_)
        · have hF := it_f hF c10
          refine lv_aload_n hx hb dX0_letPlay_63 rfl (lv_at hl 1 rfl) ?_
          refine va_get (ci := 0) (v := .ref (a 0)) (C := RX0) (T := TX0) (N := 5) hx hb htb kin0 hown hK hP 0 (pDk_0 cI d a V) rfl 0 (by decide) (htb _ bw1_135) (fun _ h9 => h9) rfl dX0_letPlay_64 ?_
          refine lv_iload_n hx hb dX0_letPlay_67 rfl (lv_at hl 2 rfl) ?_
          obtain ⟨r11, hr11, hF⟩ := bd_use hF
          refine cl_VI ⟨hx, hb, hml, hown, htb⟩ (kX7_isBooked l D cS g cI a V x1 _ hr11) (cwV 1 htb (gX7_isBooked bw2_172) rfl rfl rfl hdX7_isBooked ⟨Nat.le_of_ble_eq_true rfl, Nat.le_of_ble_eq_true rfl⟩) hK (hDa _) hG hA hP hS (sr_Dk_Vn cI d a V) hl.1 rfl 0 (pVn_0 _ _ _) rfl rfl (Nat.le_of_ble_eq_true rfl) dX0_letPlay_68 (fun H locs hP hS => ?_)
          refine lv_if_eq (tgt := 88) hx hb dX0_letPlay_71 (by decide) (fun c12 => ?_) (fun c12 => ?_)
          · have hF := it_t hF c12
            refine lv_bipush (v := (-2)) hx hb dX0_letPlay_88 (by decide) ?_
            obtain ⟨er, eM⟩ := pr_use hF
            exact rt_I hx hb hr hlocks hS (by rw [← eM]; exact hP) er dX0_letPlay_90
          · have hF := it_f hF c12
            refine lv_aload_n hx hb dX0_letPlay_74 rfl (lv_at hl 1 rfl) ?_
            refine va_get (ci := 0) (v := .ref (a 0)) (C := RX0) (T := TX0) (N := 5) hx hb htb kin0 hown hK hP 0 (pDk_0 cI d a V) rfl 0 (by decide) (htb _ bw1_135) (fun _ h9 => h9) rfl dX0_letPlay_75 ?_
            refine lv_iload hx hb dX0_letPlay_78 (lv_at hl 0 rfl) ?_
            refine lv_iconst (v := (-1)) hx hb dX0_letPlay_80 (by decide) ?_
            obtain ⟨r13, hr13, hF⟩ := bd_use hF
            refine cl_VI ⟨hx, hb, hml, hown, htb⟩ (kX7_nextBooked l D cS g cI a V r1 (-1) _ hr13) (cwV 2 htb (gX7_nextBooked bw2_238) rfl rfl rfl hdX7_nextBooked ⟨Nat.le_of_ble_eq_true rfl, Nat.le_of_ble_eq_true rfl⟩) hK (hDa _) hG hA hP hS (sr_Dk_Vn cI d a V) hl.1 rfl 0 (pVn_0 _ _ _) rfl rfl (Nat.le_of_ble_eq_true rfl) dX0_letPlay_81 (fun H locs hP hS => ?_)
            refine lv_iload_n hx hb dX0_letPlay_84 rfl (lv_at hl 2 rfl) ?_
            refine lv_icmp_eq (tgt := 91) hx hb dX0_letPlay_85 (by decide) (fun c14 => ?_) (fun c14 => ?_)
            · have hF := it_t hF c14
              refine lv_aload_n hx hb dX0_letPlay_91 rfl (lv_at hl 1 rfl) ?_
              refine va_get (ci := 0) (v := .ref (a 1)) (C := RX0) (T := TX0) (N := 5) hx hb htb kin0 hown hK hP 0 (pDk_0 cI d a V) rfl 1 (by decide) (htb _ bw1_136) (fun _ h9 => h9) rfl dX0_letPlay_92 ?_
              refine lv_iload hx hb dX0_letPlay_95 (lv_at hl 0 rfl) ?_
              refine lv_iconst (v := 0) hx hb dX0_letPlay_97 (by decide) ?_
              obtain ⟨r15, hr15, hF⟩ := bd_use hF
              refine cl_VI ⟨hx, hb, hml, hown, htb⟩ (kX6_cell l D cS g cI (a 1) (a 2) 44 4 11 (V.1) r1 0 _ hr15) (cwV 2 htb (gX6_cell bw2_115) rfl rfl rfl hdX6_cell ⟨Nat.le_of_ble_eq_true rfl, Nat.le_of_ble_eq_true rfl⟩) hK (hDa _) hG hA hP hS (sr_Dk_rooms cI d a V) hl.1 rfl 0 (pTb_0 _ _ _ _ _ _ _) rfl rfl (Nat.le_of_ble_eq_true rfl) dX0_letPlay_98 (fun H locs hP hS => ?_)
              refine lv_istore (lv' := [(6, .int r15), (5, .int r1), (0, .ref d), (1, .int x1), (2, .int x2), (3, .int x3), (4, .int x4)]) hx hb dX0_letPlay_101 hl (by decide) rfl (fun ls hl => ?_)
              refine lv_iload hx hb dX0_letPlay_103 (lv_at hl 0 rfl) ?_
              refine lv_aload_n hx hb dX0_letPlay_105 rfl (lv_at hl 2 rfl) ?_
              refine va_get (ci := 0) (v := .ref (a 0)) (C := RX0) (T := TX0) (N := 5) hx hb htb kin0 hown hK hP 0 (pDk_0 cI d a V) rfl 0 (by decide) (htb _ bw1_135) (fun _ h9 => h9) rfl dX0_letPlay_106 ?_
              refine lv_iconst (v := 1) hx hb dX0_letPlay_109 (by decide) ?_
              obtain ⟨r16, hr16, hF⟩ := bd_use hF
              refine cl_VI ⟨hx, hb, hml, hown, htb⟩ (kX7_setting l D cS g cI a V 1 _ hr16) (cwV 1 htb (gX7_setting bw2_163) rfl rfl rfl hdX7_setting ⟨Nat.le_of_ble_eq_true rfl, Nat.le_of_ble_eq_true rfl⟩) hK (hDa _) hG hA hP hS (sr_Dk_Vn cI d a V) hl.1 rfl 0 (pVn_0 _ _ _) rfl rfl (Nat.le_of_ble_eq_true rfl) dX0_letPlay_110 (fun H locs hP hS => ?_)
              refine lv_iadd hx hb dX0_letPlay_113 ?_
              refine lv_topi (fun v17 ev17 => ?_)
              have hF := nm_use hF ev17
              refine lv_istore (lv' := [(7, .int v17), (6, .int r15), (5, .int r1), (0, .ref d), (1, .int x1), (2, .int x2), (3, .int x3), (4, .int x4)]) hx hb dX0_letPlay_114 hl (by decide) rfl (fun ls hl => ?_)
              refine lv_iload_n hx hb dX0_letPlay_116 rfl (lv_at hl 5 rfl) ?_
              refine lv_iload_n hx hb dX0_letPlay_117 rfl (lv_at hl 6 rfl) ?_
              refine lv_aload_n hx hb dX0_letPlay_118 rfl (lv_at hl 3 rfl) ?_
              refine va_get (ci := 0) (v := .ref (a 0)) (C := RX0) (T := TX0) (N := 5) hx hb htb kin0 hown hK hP 0 (pDk_0 cI d a V) rfl 0 (by decide) (htb _ bw1_135) (fun _ h9 => h9) rfl dX0_letPlay_119 ?_
              refine lv_iconst (v := 0) hx hb dX0_letPlay_122 (by decide) ?_
              obtain ⟨r18, hr18, hF⟩ := bd_use hF
              refine cl_VI ⟨hx, hb, hml, hown, htb⟩ (kX7_setting l D cS g cI a V 0 _ hr18) (cwV 1 htb (gX7_setting bw2_163) rfl rfl rfl hdX7_setting ⟨Nat.le_of_ble_eq_true rfl, Nat.le_of_ble_eq_true rfl⟩) hK (hDa _) hG hA hP hS (sr_Dk_Vn cI d a V) hl.1 rfl 0 (pVn_0 _ _ _) rfl rfl (Nat.le_of_ble_eq_true rfl) dX0_letPlay_123 (fun H locs hP hS => ?_)
              refine lv_imul hx hb dX0_letPlay_126 ?_
              refine lv_iadd hx hb dX0_letPlay_127 ?_
              refine lv_topi (fun v19 ev19 => ?_)
              have hF := nm_use hF ev19
              refine lv_istore (lv' := [(8, .int v19), (7, .int v17), (6, .int r15), (5, .int r1), (0, .ref d), (1, .int x1), (2, .int x2), (3, .int x3), (4, .int x4)]) hx hb dX0_letPlay_128 hl (by decide) rfl (fun ls hl => ?_)
              refine lv_iload_n hx hb dX0_letPlay_130 rfl (lv_at hl 6 rfl) ?_
              refine lv_if_ne (tgt := 139) hx hb dX0_letPlay_131 (by decide) (fun c20 => ?_) (fun c20 => ?_)
              · have hF := it_f hF c20
                refine lv_iload hx hb dX0_letPlay_139 (lv_at hl 0 rfl) ?_
                refine lv_iload hx hb dX0_letPlay_141 (lv_at hl 1 rfl) ?_
                refine va_mmin hx hb (hml.trans hl.1.symm) hown (htb _ bw2_140) (htb _ bw2_66) (htb _ bw1_5) (htb _ bw2_67) (Nat.le_of_ble_eq_true rfl) (Nat.le_of_ble_eq_true rfl) (Nat.zero_le _) (Nat.zero_le _) dX0_letPlay_143 ?_
                refine lv_topi (fun v21 ev21 => ?_)
                have hF := nm_use hF ev21
                exact j146 V x1 x2 x3 x4 r1 r15 v17 v19 v21 _ _ _ hF hP hS (lv_sub hl [4, 5, 6, 7, 8, 3, 2, 1, 0] rfl)
              · have hF := it_t hF c20
                refine lv_iload hx hb dX0_letPlay_134 (lv_at hl 2 rfl) ?_
                refine lv_goto (tgt := 146) hx hb dX0_letPlay_136 (by decide) ?_
                exact j146 V x1 x2 x3 x4 r1 r15 v17 v19 r15 _ _ _ hF hP hS (lv_sub hl [4, 5, 6, 7, 8, 3, 2, 1, 0] rfl)
            · have hF := it_f hF c14
              refine lv_bipush (v := (-2)) hx hb dX0_letPlay_88 (by decide) ?_
              obtain ⟨er, eM⟩ := pr_use hF
              exact rt_I hx hb hr hlocks hS (by rw [← eM]; exact hP) er dX0_letPlay_90
        · have hF := it_t hF c10
          refine lv_iconst (v := (-1)) hx hb dX0_letPlay_61 (by decide) ?_
          obtain ⟨er, eM⟩ := pr_use hF
          exact rt_I hx hb hr hlocks hS (by rw [← eM]; exact hP) er dX0_letPlay_62

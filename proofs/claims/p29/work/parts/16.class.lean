noncomputable def fX8_addRoom  (M : Xm) (x1 : Int32) (x2 : Int32) (x3 : Int32) (x4 : Int32) : Option (Int32 × Xm) := (fX1_prepare ((M.2.1, M.1))).bind fun M1 => nm ((M1.2, M1.1, M.2.2)) fun M2 => b2 (fX0_newRoom (M2.1.1) x1 x2 x3 x4) fun r4 M3 => nm (((M3, M2.1.2), M2.2)) fun M5 => b2 (fX1_settle (M5.2.1) r4) fun r7 M6 => nm ((M5.1, M6, M5.2.2)) fun M8 => some (r7, M8)
abbrev vX8_addRoom : List Cond := Cond.code yX8_addRoom cX8_addRoom 5 (some .int) :: BIG
theorem gX8_addRoom {own : String} {idx : Nat} (h : (Cond.methodLink own idx yX8_addRoom) ∈ BIG) : GoodIn BIG (wsV own idx RX8 yX8_addRoom vX8_addRoom) := gdV h bw2_42 bw2_43 bw1_1 bw2_44
def rmX8_addRoom : Room := { frames := 7, cells := 0, slots := 0, locals := 147 }
theorem hdX8_addRoom : yX8_addRoom.cls = RX8 ∧ yX8_addRoom.cls ≠ "java/lang/invoke/MethodHandle" ∧ yX8_addRoom.cls ≠ "java/lang/invoke/VarHandle" ∧ (parseMethodDescriptor yX8_addRoom.desc).map (fun d => d.parameters.length) = some 4 := by decide +kernel
set_option maxHeartbeats 4000000 in
set_option maxRecDepth 100000 in
theorem kX8_addRoom (l : Launch) (D : va_G) (cS : ClassId) (g : Nat → Nat) (cI : ClassId) (xx xd xo hh ha : Nat) (z : Nat → Nat → Nat) (zn q : Nat → Nat) (M : Xm) (x1 : Int32) (x2 : Int32) (x3 : Int32) (x4 : Int32) (r : Int32) (M' : Xm) (hF : fX8_addRoom M x1 x2 x3 x4 = some (r, M')) : mI l yX8_addRoom vX8_addRoom rmX8_addRoom D cI cS g [.ref xx, .int x1, .int x2, .int x3, .int x4] (wXX cI cS xx xd xo hh ha z zn q M) r (wXX cI cS xx xd xo hh ha z zn q (M')) := by
  refine st_I rfl (by decide) (Nat.le_of_ble_eq_true rfl) ?_
  intro p e s m args below meth c A ls hx hb hr hml hlocks hown hts hA hK hD0 hG hP hS hl
  have hown : s.vm.findClass RX8 = some m.cls := hown
  have hDa : ∀ M, va_D A (wXX cI cS xx xd xo hh ha z zn q M) := fun M => hD0.adr (adr_XX _ _ _ _ _ _ _ _ _ _ _ _)
  have htb : ∀ w ∈ BIG, w.before args s = true := fun w h => hts w (List.mem_cons_of_mem _ h)
  have hl : lv_has ls 5 [(0, .ref xx), (1, .int x1), (2, .int x2), (3, .int x3), (4, .int x4)] := hl
  refine lv_aload_n hx hb dX8_addRoom_0 rfl (lv_at hl 0 rfl) ?_
  refine va_get (ci := 8) (v := .ref hh) (C := RX8) (T := TX8) (N := 6) hx hb htb kin8 hown hK hP 0 (pXX_0 cI cS xx xd xo hh ha z zn q M) rfl 4 (by decide) (htb _ bw1_209) (fun _ h9 => h9) rfl dX8_addRoom_1 ?_
  refine lv_aload_n hx hb dX8_addRoom_4 rfl (lv_at hl 0 rfl) ?_
  refine va_get (ci := 8) (v := .ref (zn 0)) (C := RX8) (T := TX8) (N := 6) hx hb htb kin8 hown hK hP 0 (pXX_0 cI cS xx xd xo hh ha z zn q M) rfl 0 (by decide) (htb _ bw1_205) (fun _ h9 => h9) rfl dX8_addRoom_5 ?_
  obtain ⟨M1, hM1, hF⟩ := bd_use hF
  refine cl_VV ⟨hx, hb, hml, hown, htb⟩ (kX1_prepare l D cS g cI hh ha z zn ((M.2.1, M.1))  _ hM1) (cwV 1 htb (gX1_prepare bw2_45) rfl rfl rfl hdX1_prepare ⟨Nat.le_of_ble_eq_true rfl, Nat.le_of_ble_eq_true rfl⟩) hK (hDa _) hG hA hP hS (sg_XX_HQ cI cS xx xd xo hh ha z zn q M M1) hl.1 rfl 0 (pHQ_0 _ _ _ _ _ _ _) rfl rfl (Nat.le_of_ble_eq_true rfl) dX8_addRoom_8 (fun H locs hP hS => ?_)
  obtain ⟨M2, eM2⟩ : ∃ z : Xm, z = (M1.2, M1.1, M.2.2) := ⟨_, rfl⟩
  have hF := nm_use hF eM2
  have hP : va_P D vwCl (wXX cI cS xx xd xo hh ha z zn q M2) H := by rw [eM2]; exact hP
  refine lv_aload_n hx hb dX8_addRoom_11 rfl (lv_at hl 0 rfl) ?_
  refine va_get (ci := 8) (v := .ref hh) (C := RX8) (T := TX8) (N := 6) hx hb htb kin8 hown hK hP 0 (pXX_0 cI cS xx xd xo hh ha z zn q M2) rfl 4 (by decide) (htb _ bw1_209) (fun _ h9 => h9) rfl dX8_addRoom_12 ?_
  refine lv_aload_n hx hb dX8_addRoom_15 rfl (lv_at hl 0 rfl) ?_
  refine va_get (ci := 8) (v := .ref xd) (C := RX8) (T := TX8) (N := 6) hx hb htb kin8 hown hK hP 0 (pXX_0 cI cS xx xd xo hh ha z zn q M2) rfl 2 (by decide) (htb _ bw1_207) (fun _ h9 => h9) rfl dX8_addRoom_16 ?_
  refine lv_iload_n hx hb dX8_addRoom_19 rfl (lv_at hl 1 rfl) ?_
  refine lv_iload_n hx hb dX8_addRoom_20 rfl (lv_at hl 2 rfl) ?_
  refine lv_iload_n hx hb dX8_addRoom_21 rfl (lv_at hl 3 rfl) ?_
  refine lv_iload hx hb dX8_addRoom_22 (lv_at hl 4 rfl) ?_
  obtain ⟨r4, M3, hM3, hF⟩ := b2_use hF
  refine cl_VI ⟨hx, hb, hml, hown, htb⟩ (kX0_newRoom l D cS g cI xd (fun k => zn (1 + k)) (M2.1.1) x1 x2 x3 x4 _ _ hM3) (cwV 4 htb (gX0_newRoom bw2_76) rfl rfl rfl hdX0_newRoom ⟨Nat.le_of_ble_eq_true rfl, Nat.le_of_ble_eq_true rfl⟩) hK (hDa _) hG hA hP hS (sg_XX_Dk cI cS xx xd xo hh ha z zn q M2 M3) hl.1 rfl 0 (pDk_0 _ _ _ _) rfl rfl (Nat.le_of_ble_eq_true rfl) dX8_addRoom_24 (fun H locs hP hS => ?_)
  obtain ⟨M5, eM5⟩ : ∃ z : Xm, z = ((M3, M2.1.2), M2.2) := ⟨_, rfl⟩
  have hF := nm_use hF eM5
  have hP : va_P D vwCl (wXX cI cS xx xd xo hh ha z zn q M5) H := by rw [eM5]; exact hP
  obtain ⟨r7, M6, hM6, hF⟩ := b2_use hF
  refine cl_VI ⟨hx, hb, hml, hown, htb⟩ (kX1_settle l D cS g cI hh ha z (M5.2.1) r4 _ _ hM6) (cwV 1 htb (gX1_settle bw2_84) rfl rfl rfl hdX1_settle ⟨Nat.le_of_ble_eq_true rfl, Nat.le_of_ble_eq_true rfl⟩) hK (hDa _) hG hA hP hS (sg_XX_Hi cI cS xx xd xo hh ha z zn q M5 M6) hl.1 rfl 0 (pHi_0 _ _ _ _ _ _) rfl rfl (Nat.le_of_ble_eq_true rfl) dX8_addRoom_27 (fun H locs hP hS => ?_)
  obtain ⟨M8, eM8⟩ : ∃ z : Xm, z = (M5.1, M6, M5.2.2) := ⟨_, rfl⟩
  have hF := nm_use hF eM8
  have hP : va_P D vwCl (wXX cI cS xx xd xo hh ha z zn q M8) H := by rw [eM8]; exact hP
  obtain ⟨er, eM⟩ := pr_use hF
  exact rt_I hx hb hr hlocks hS (by rw [← eM]; exact hP) er dX8_addRoom_30
noncomputable def fX8_setPrice  (M : Xm) (x1 : Int32) (x2 : Int32) : Option (Int32 × Xm) := (fX1_prepare ((M.2.1, M.1))).bind fun M1 => nm ((M1.2, M1.1, M.2.2)) fun M2 => b2 (fX0_changePrice (M2.1.1) x1 x2) fun r4 M3 => nm (((M3, M2.1.2), M2.2)) fun M5 => b2 (fX1_settle (M5.2.1) r4) fun r7 M6 => nm ((M5.1, M6, M5.2.2)) fun M8 => some (r7, M8)
abbrev vX8_setPrice : List Cond := Cond.code yX8_setPrice cX8_setPrice 3 (some .int) :: BIG
theorem gX8_setPrice {own : String} {idx : Nat} (h : (Cond.methodLink own idx yX8_setPrice) ∈ BIG) : GoodIn BIG (wsV own idx RX8 yX8_setPrice vX8_setPrice) := gdV h bw2_146 bw2_147 bw1_1 bw2_148
def rmX8_setPrice : Room := { frames := 7, cells := 0, slots := 0, locals := 147 }
theorem hdX8_setPrice : yX8_setPrice.cls = RX8 ∧ yX8_setPrice.cls ≠ "java/lang/invoke/MethodHandle" ∧ yX8_setPrice.cls ≠ "java/lang/invoke/VarHandle" ∧ (parseMethodDescriptor yX8_setPrice.desc).map (fun d => d.parameters.length) = some 2 := by decide +kernel
set_option maxHeartbeats 4000000 in
set_option maxRecDepth 100000 in
theorem kX8_setPrice (l : Launch) (D : va_G) (cS : ClassId) (g : Nat → Nat) (cI : ClassId) (xx xd xo hh ha : Nat) (z : Nat → Nat → Nat) (zn q : Nat → Nat) (M : Xm) (x1 : Int32) (x2 : Int32) (r : Int32) (M' : Xm) (hF : fX8_setPrice M x1 x2 = some (r, M')) : mI l yX8_setPrice vX8_setPrice rmX8_setPrice D cI cS g [.ref xx, .int x1, .int x2] (wXX cI cS xx xd xo hh ha z zn q M) r (wXX cI cS xx xd xo hh ha z zn q (M')) := by
  refine st_I rfl (by decide) (Nat.le_of_ble_eq_true rfl) ?_
  intro p e s m args below meth c A ls hx hb hr hml hlocks hown hts hA hK hD0 hG hP hS hl
  have hown : s.vm.findClass RX8 = some m.cls := hown
  have hDa : ∀ M, va_D A (wXX cI cS xx xd xo hh ha z zn q M) := fun M => hD0.adr (adr_XX _ _ _ _ _ _ _ _ _ _ _ _)
  have htb : ∀ w ∈ BIG, w.before args s = true := fun w h => hts w (List.mem_cons_of_mem _ h)
  have hl : lv_has ls 3 [(0, .ref xx), (1, .int x1), (2, .int x2)] := hl
  refine lv_aload_n hx hb dX8_setPrice_0 rfl (lv_at hl 0 rfl) ?_
  refine va_get (ci := 8) (v := .ref hh) (C := RX8) (T := TX8) (N := 6) hx hb htb kin8 hown hK hP 0 (pXX_0 cI cS xx xd xo hh ha z zn q M) rfl 4 (by decide) (htb _ bw1_209) (fun _ h9 => h9) rfl dX8_setPrice_1 ?_
  refine lv_aload_n hx hb dX8_setPrice_4 rfl (lv_at hl 0 rfl) ?_
  refine va_get (ci := 8) (v := .ref (zn 0)) (C := RX8) (T := TX8) (N := 6) hx hb htb kin8 hown hK hP 0 (pXX_0 cI cS xx xd xo hh ha z zn q M) rfl 0 (by decide) (htb _ bw1_205) (fun _ h9 => h9) rfl dX8_setPrice_5 ?_
  obtain ⟨M1, hM1, hF⟩ := bd_use hF
  refine cl_VV ⟨hx, hb, hml, hown, htb⟩ (kX1_prepare l D cS g cI hh ha z zn ((M.2.1, M.1))  _ hM1) (cwV 1 htb (gX1_prepare bw2_45) rfl rfl rfl hdX1_prepare ⟨Nat.le_of_ble_eq_true rfl, Nat.le_of_ble_eq_true rfl⟩) hK (hDa _) hG hA hP hS (sg_XX_HQ cI cS xx xd xo hh ha z zn q M M1) hl.1 rfl 0 (pHQ_0 _ _ _ _ _ _ _) rfl rfl (Nat.le_of_ble_eq_true rfl) dX8_setPrice_8 (fun H locs hP hS => ?_)
  obtain ⟨M2, eM2⟩ : ∃ z : Xm, z = (M1.2, M1.1, M.2.2) := ⟨_, rfl⟩
  have hF := nm_use hF eM2
  have hP : va_P D vwCl (wXX cI cS xx xd xo hh ha z zn q M2) H := by rw [eM2]; exact hP
  refine lv_aload_n hx hb dX8_setPrice_11 rfl (lv_at hl 0 rfl) ?_
  refine va_get (ci := 8) (v := .ref hh) (C := RX8) (T := TX8) (N := 6) hx hb htb kin8 hown hK hP 0 (pXX_0 cI cS xx xd xo hh ha z zn q M2) rfl 4 (by decide) (htb _ bw1_209) (fun _ h9 => h9) rfl dX8_setPrice_12 ?_
  refine lv_aload_n hx hb dX8_setPrice_15 rfl (lv_at hl 0 rfl) ?_
  refine va_get (ci := 8) (v := .ref xd) (C := RX8) (T := TX8) (N := 6) hx hb htb kin8 hown hK hP 0 (pXX_0 cI cS xx xd xo hh ha z zn q M2) rfl 2 (by decide) (htb _ bw1_207) (fun _ h9 => h9) rfl dX8_setPrice_16 ?_
  refine lv_iload_n hx hb dX8_setPrice_19 rfl (lv_at hl 1 rfl) ?_
  refine lv_iload_n hx hb dX8_setPrice_20 rfl (lv_at hl 2 rfl) ?_
  obtain ⟨r4, M3, hM3, hF⟩ := b2_use hF
  refine cl_VI ⟨hx, hb, hml, hown, htb⟩ (kX0_changePrice l D cS g cI xd (fun k => zn (1 + k)) (M2.1.1) x1 x2 _ _ hM3) (cwV 2 htb (gX0_changePrice bw2_149) rfl rfl rfl hdX0_changePrice ⟨Nat.le_of_ble_eq_true rfl, Nat.le_of_ble_eq_true rfl⟩) hK (hDa _) hG hA hP hS (sg_XX_Dk cI cS xx xd xo hh ha z zn q M2 M3) hl.1 rfl 0 (pDk_0 _ _ _ _) rfl rfl (Nat.le_of_ble_eq_true rfl) dX8_setPrice_21 (fun H locs hP hS => ?_)
  obtain ⟨M5, eM5⟩ : ∃ z : Xm, z = ((M3, M2.1.2), M2.2) := ⟨_, rfl⟩
  have hF := nm_use hF eM5
  have hP : va_P D vwCl (wXX cI cS xx xd xo hh ha z zn q M5) H := by rw [eM5]; exact hP
  obtain ⟨r7, M6, hM6, hF⟩ := b2_use hF
  refine cl_VI ⟨hx, hb, hml, hown, htb⟩ (kX1_settle l D cS g cI hh ha z (M5.2.1) r4 _ _ hM6) (cwV 1 htb (gX1_settle bw2_84) rfl rfl rfl hdX1_settle ⟨Nat.le_of_ble_eq_true rfl, Nat.le_of_ble_eq_true rfl⟩) hK (hDa _) hG hA hP hS (sg_XX_Hi cI cS xx xd xo hh ha z zn q M5 M6) hl.1 rfl 0 (pHi_0 _ _ _ _ _ _) rfl rfl (Nat.le_of_ble_eq_true rfl) dX8_setPrice_24 (fun H locs hP hS => ?_)
  obtain ⟨M8, eM8⟩ : ∃ z : Xm, z = (M5.1, M6, M5.2.2) := ⟨_, rfl⟩
  have hF := nm_use hF eM8
  have hP : va_P D vwCl (wXX cI cS xx xd xo hh ha z zn q M8) H := by rw [eM8]; exact hP
  obtain ⟨er, eM⟩ := pr_use hF
  exact rt_I hx hb hr hlocks hS (by rw [← eM]; exact hP) er dX8_setPrice_27
noncomputable def fX8_set  (M : Xm) (x1 : Int32) (x2 : Int32) : Option (Int32 × Xm) := (fX1_prepare ((M.2.1, M.1))).bind fun M1 => nm ((M1.2, M1.1, M.2.2)) fun M2 => b2 (fX0_changeSetting (M2.1.1) x1 x2) fun r4 M3 => nm (((M3, M2.1.2), M2.2)) fun M5 => b2 (fX1_settle (M5.2.1) r4) fun r7 M6 => nm ((M5.1, M6, M5.2.2)) fun M8 => some (r7, M8)
abbrev vX8_set : List Cond := Cond.code yX8_set cX8_set 3 (some .int) :: BIG
theorem gX8_set {own : String} {idx : Nat} (h : (Cond.methodLink own idx yX8_set) ∈ BIG) : GoodIn BIG (wsV own idx RX8 yX8_set vX8_set) := gdV h bw2_154 bw2_155 bw1_1 bw2_156
def rmX8_set : Room := { frames := 7, cells := 0, slots := 0, locals := 147 }
theorem hdX8_set : yX8_set.cls = RX8 ∧ yX8_set.cls ≠ "java/lang/invoke/MethodHandle" ∧ yX8_set.cls ≠ "java/lang/invoke/VarHandle" ∧ (parseMethodDescriptor yX8_set.desc).map (fun d => d.parameters.length) = some 2 := by decide +kernel
set_option maxHeartbeats 4000000 in
set_option maxRecDepth 100000 in
theorem kX8_set (l : Launch) (D : va_G) (cS : ClassId) (g : Nat → Nat) (cI : ClassId) (xx xd xo hh ha : Nat) (z : Nat → Nat → Nat) (zn q : Nat → Nat) (M : Xm) (x1 : Int32) (x2 : Int32) (r : Int32) (M' : Xm) (hF : fX8_set M x1 x2 = some (r, M')) : mI l yX8_set vX8_set rmX8_set D cI cS g [.ref xx, .int x1, .int x2] (wXX cI cS xx xd xo hh ha z zn q M) r (wXX cI cS xx xd xo hh ha z zn q (M')) := by
  refine st_I rfl (by decide) (Nat.le_of_ble_eq_true rfl) ?_
  intro p e s m args below meth c A ls hx hb hr hml hlocks hown hts hA hK hD0 hG hP hS hl
  have hown : s.vm.findClass RX8 = some m.cls := hown
  have hDa : ∀ M, va_D A (wXX cI cS xx xd xo hh ha z zn q M) := fun M => hD0.adr (adr_XX _ _ _ _ _ _ _ _ _ _ _ _)
  have htb : ∀ w ∈ BIG, w.before args s = true := fun w h => hts w (List.mem_cons_of_mem _ h)
  have hl : lv_has ls 3 [(0, .ref xx), (1, .int x1), (2, .int x2)] := hl
  refine lv_aload_n hx hb dX8_set_0 rfl (lv_at hl 0 rfl) ?_
  refine va_get (ci := 8) (v := .ref hh) (C := RX8) (T := TX8) (N := 6) hx hb htb kin8 hown hK hP 0 (pXX_0 cI cS xx xd xo hh ha z zn q M) rfl 4 (by decide) (htb _ bw1_209) (fun _ h9 => h9) rfl dX8_set_1 ?_
  refine lv_aload_n hx hb dX8_set_4 rfl (lv_at hl 0 rfl) ?_
  refine va_get (ci := 8) (v := .ref (zn 0)) (C := RX8) (T := TX8) (N := 6) hx hb htb kin8 hown hK hP 0 (pXX_0 cI cS xx xd xo hh ha z zn q M) rfl 0 (by decide) (htb _ bw1_205) (fun _ h9 => h9) rfl dX8_set_5 ?_
  obtain ⟨M1, hM1, hF⟩ := bd_use hF
  refine cl_VV ⟨hx, hb, hml, hown, htb⟩ (kX1_prepare l D cS g cI hh ha z zn ((M.2.1, M.1))  _ hM1) (cwV 1 htb (gX1_prepare bw2_45) rfl rfl rfl hdX1_prepare ⟨Nat.le_of_ble_eq_true rfl, Nat.le_of_ble_eq_true rfl⟩) hK (hDa _) hG hA hP hS (sg_XX_HQ cI cS xx xd xo hh ha z zn q M M1) hl.1 rfl 0 (pHQ_0 _ _ _ _ _ _ _) rfl rfl (Nat.le_of_ble_eq_true rfl) dX8_set_8 (fun H locs hP hS => ?_)
  obtain ⟨M2, eM2⟩ : ∃ z : Xm, z = (M1.2, M1.1, M.2.2) := ⟨_, rfl⟩
  have hF := nm_use hF eM2
  have hP : va_P D vwCl (wXX cI cS xx xd xo hh ha z zn q M2) H := by rw [eM2]; exact hP
  refine lv_aload_n hx hb dX8_set_11 rfl (lv_at hl 0 rfl) ?_
  refine va_get (ci := 8) (v := .ref hh) (C := RX8) (T := TX8) (N := 6) hx hb htb kin8 hown hK hP 0 (pXX_0 cI cS xx xd xo hh ha z zn q M2) rfl 4 (by decide) (htb _ bw1_209) (fun _ h9 => h9) rfl dX8_set_12 ?_
  refine lv_aload_n hx hb dX8_set_15 rfl (lv_at hl 0 rfl) ?_
  refine va_get (ci := 8) (v := .ref xd) (C := RX8) (T := TX8) (N := 6) hx hb htb kin8 hown hK hP 0 (pXX_0 cI cS xx xd xo hh ha z zn q M2) rfl 2 (by decide) (htb _ bw1_207) (fun _ h9 => h9) rfl dX8_set_16 ?_
  refine lv_iload_n hx hb dX8_set_19 rfl (lv_at hl 1 rfl) ?_
  refine lv_iload_n hx hb dX8_set_20 rfl (lv_at hl 2 rfl) ?_
  obtain ⟨r4, M3, hM3, hF⟩ := b2_use hF
  refine cl_VI ⟨hx, hb, hml, hown, htb⟩ (kX0_changeSetting l D cS g cI xd (fun k => zn (1 + k)) (M2.1.1) x1 x2 _ _ hM3) (cwV 2 htb (gX0_changeSetting bw2_157) rfl rfl rfl hdX0_changeSetting ⟨Nat.le_of_ble_eq_true rfl, Nat.le_of_ble_eq_true rfl⟩) hK (hDa _) hG hA hP hS (sg_XX_Dk cI cS xx xd xo hh ha z zn q M2 M3) hl.1 rfl 0 (pDk_0 _ _ _ _) rfl rfl (Nat.le_of_ble_eq_true rfl) dX8_set_21 (fun H locs hP hS => ?_)
  obtain ⟨M5, eM5⟩ : ∃ z : Xm, z = ((M3, M2.1.2), M2.2) := ⟨_, rfl⟩
  have hF := nm_use hF eM5
  have hP : va_P D vwCl (wXX cI cS xx xd xo hh ha z zn q M5) H := by rw [eM5]; exact hP
  obtain ⟨r7, M6, hM6, hF⟩ := b2_use hF
  refine cl_VI ⟨hx, hb, hml, hown, htb⟩ (kX1_settle l D cS g cI hh ha z (M5.2.1) r4 _ _ hM6) (cwV 1 htb (gX1_settle bw2_84) rfl rfl rfl hdX1_settle ⟨Nat.le_of_ble_eq_true rfl, Nat.le_of_ble_eq_true rfl⟩) hK (hDa _) hG hA hP hS (sg_XX_Hi cI cS xx xd xo hh ha z zn q M5 M6) hl.1 rfl 0 (pHi_0 _ _ _ _ _ _) rfl rfl (Nat.le_of_ble_eq_true rfl) dX8_set_24 (fun H locs hP hS => ?_)
  obtain ⟨M8, eM8⟩ : ∃ z : Xm, z = (M5.1, M6, M5.2.2) := ⟨_, rfl⟩
  have hF := nm_use hF eM8
  have hP : va_P D vwCl (wXX cI cS xx xd xo hh ha z zn q M8) H := by rw [eM8]; exact hP
  obtain ⟨er, eM⟩ := pr_use hF
  exact rt_I hx hb hr hlocks hS (by rw [← eM]; exact hP) er dX8_set_27
noncomputable def fX8_sellVoucher  (M : Xm) (x1 : Int32) : Option (Int32 × Xm) := (fX1_prepare ((M.2.1, M.1))).bind fun M1 => nm ((M1.2, M1.1, M.2.2)) fun M2 => b2 (fX0_newVoucher (M2.1.1) x1) fun r4 M3 => nm (((M3, M2.1.2), M2.2)) fun M5 => b2 (fX1_settle (M5.2.1) r4) fun r7 M6 => nm ((M5.1, M6, M5.2.2)) fun M8 => some (r7, M8)
abbrev vX8_sellVoucher : List Cond := Cond.code yX8_sellVoucher cX8_sellVoucher 2 (some .int) :: BIG
theorem gX8_sellVoucher {own : String} {idx : Nat} (h : (Cond.methodLink own idx yX8_sellVoucher) ∈ BIG) : GoodIn BIG (wsV own idx RX8 yX8_sellVoucher vX8_sellVoucher) := gdV h bw2_93 bw2_94 bw1_1 bw2_95
def rmX8_sellVoucher : Room := { frames := 7, cells := 0, slots := 0, locals := 147 }
theorem hdX8_sellVoucher : yX8_sellVoucher.cls = RX8 ∧ yX8_sellVoucher.cls ≠ "java/lang/invoke/MethodHandle" ∧ yX8_sellVoucher.cls ≠ "java/lang/invoke/VarHandle" ∧ (parseMethodDescriptor yX8_sellVoucher.desc).map (fun d => d.parameters.length) = some 1 := by decide +kernel
set_option maxHeartbeats 4000000 in
set_option maxRecDepth 100000 in
theorem kX8_sellVoucher (l : Launch) (D : va_G) (cS : ClassId) (g : Nat → Nat) (cI : ClassId) (xx xd xo hh ha : Nat) (z : Nat → Nat → Nat) (zn q : Nat → Nat) (M : Xm) (x1 : Int32) (r : Int32) (M' : Xm) (hF : fX8_sellVoucher M x1 = some (r, M')) : mI l yX8_sellVoucher vX8_sellVoucher rmX8_sellVoucher D cI cS g [.ref xx, .int x1] (wXX cI cS xx xd xo hh ha z zn q M) r (wXX cI cS xx xd xo hh ha z zn q (M')) := by
  refine st_I rfl (by decide) (Nat.le_of_ble_eq_true rfl) ?_
  intro p e s m args below meth c A ls hx hb hr hml hlocks hown hts hA hK hD0 hG hP hS hl
  have hown : s.vm.findClass RX8 = some m.cls := hown
  have hDa : ∀ M, va_D A (wXX cI cS xx xd xo hh ha z zn q M) := fun M => hD0.adr (adr_XX _ _ _ _ _ _ _ _ _ _ _ _)
  have htb : ∀ w ∈ BIG, w.before args s = true := fun w h => hts w (List.mem_cons_of_mem _ h)
  have hl : lv_has ls 2 [(0, .ref xx), (1, .int x1)] := hl
  refine lv_aload_n hx hb dX8_sellVoucher_0 rfl (lv_at hl 0 rfl) ?_
  refine va_get (ci := 8) (v := .ref hh) (C := RX8) (T := TX8) (N := 6) hx hb htb kin8 hown hK hP 0 (pXX_0 cI cS xx xd xo hh ha z zn q M) rfl 4 (by decide) (htb _ bw1_209) (fun _ h9 => h9) rfl dX8_sellVoucher_1 ?_
  refine lv_aload_n hx hb dX8_sellVoucher_4 rfl (lv_at hl 0 rfl) ?_
  refine va_get (ci := 8) (v := .ref (zn 0)) (C := RX8) (T := TX8) (N := 6) hx hb htb kin8 hown hK hP 0 (pXX_0 cI cS xx xd xo hh ha z zn q M) rfl 0 (by decide) (htb _ bw1_205) (fun _ h9 => h9) rfl dX8_sellVoucher_5 ?_
  obtain ⟨M1, hM1, hF⟩ := bd_use hF
  refine cl_VV ⟨hx, hb, hml, hown, htb⟩ (kX1_prepare l D cS g cI hh ha z zn ((M.2.1, M.1))  _ hM1) (cwV 1 htb (gX1_prepare bw2_45) rfl rfl rfl hdX1_prepare ⟨Nat.le_of_ble_eq_true rfl, Nat.le_of_ble_eq_true rfl⟩) hK (hDa _) hG hA hP hS (sg_XX_HQ cI cS xx xd xo hh ha z zn q M M1) hl.1 rfl 0 (pHQ_0 _ _ _ _ _ _ _) rfl rfl (Nat.le_of_ble_eq_true rfl) dX8_sellVoucher_8 (fun H locs hP hS => ?_)
  obtain ⟨M2, eM2⟩ : ∃ z : Xm, z = (M1.2, M1.1, M.2.2) := ⟨_, rfl⟩
  have hF := nm_use hF eM2
  have hP : va_P D vwCl (wXX cI cS xx xd xo hh ha z zn q M2) H := by rw [eM2]; exact hP
  refine lv_aload_n hx hb dX8_sellVoucher_11 rfl (lv_at hl 0 rfl) ?_
  refine va_get (ci := 8) (v := .ref hh) (C := RX8) (T := TX8) (N := 6) hx hb htb kin8 hown hK hP 0 (pXX_0 cI cS xx xd xo hh ha z zn q M2) rfl 4 (by decide) (htb _ bw1_209) (fun _ h9 => h9) rfl dX8_sellVoucher_12 ?_
  refine lv_aload_n hx hb dX8_sellVoucher_15 rfl (lv_at hl 0 rfl) ?_
  refine va_get (ci := 8) (v := .ref xd) (C := RX8) (T := TX8) (N := 6) hx hb htb kin8 hown hK hP 0 (pXX_0 cI cS xx xd xo hh ha z zn q M2) rfl 2 (by decide) (htb _ bw1_207) (fun _ h9 => h9) rfl dX8_sellVoucher_16 ?_
  refine lv_iload_n hx hb dX8_sellVoucher_19 rfl (lv_at hl 1 rfl) ?_
  obtain ⟨r4, M3, hM3, hF⟩ := b2_use hF
  refine cl_VI ⟨hx, hb, hml, hown, htb⟩ (kX0_newVoucher l D cS g cI xd (fun k => zn (1 + k)) (M2.1.1) x1 _ _ hM3) (cwV 1 htb (gX0_newVoucher bw2_96) rfl rfl rfl hdX0_newVoucher ⟨Nat.le_of_ble_eq_true rfl, Nat.le_of_ble_eq_true rfl⟩) hK (hDa _) hG hA hP hS (sg_XX_Dk cI cS xx xd xo hh ha z zn q M2 M3) hl.1 rfl 0 (pDk_0 _ _ _ _) rfl rfl (Nat.le_of_ble_eq_true rfl) dX8_sellVoucher_20 (fun H locs hP hS => ?_)
  obtain ⟨M5, eM5⟩ : ∃ z : Xm, z = ((M3, M2.1.2), M2.2) := ⟨_, rfl⟩
  have hF := nm_use hF eM5
  have hP : va_P D vwCl (wXX cI cS xx xd xo hh ha z zn q M5) H := by rw [eM5]; exact hP
  obtain ⟨r7, M6, hM6, hF⟩ := b2_use hF
  refine cl_VI ⟨hx, hb, hml, hown, htb⟩ (kX1_settle l D cS g cI hh ha z (M5.2.1) r4 _ _ hM6) (cwV 1 htb (gX1_settle bw2_84) rfl rfl rfl hdX1_settle ⟨Nat.le_of_ble_eq_true rfl, Nat.le_of_ble_eq_true rfl⟩) hK (hDa _) hG hA hP hS (sg_XX_Hi cI cS xx xd xo hh ha z zn q M5 M6) hl.1 rfl 0 (pHi_0 _ _ _ _ _ _) rfl rfl (Nat.le_of_ble_eq_true rfl) dX8_sellVoucher_23 (fun H locs hP hS => ?_)
  obtain ⟨M8, eM8⟩ : ∃ z : Xm, z = (M5.1, M6, M5.2.2) := ⟨_, rfl⟩
  have hF := nm_use hF eM8
  have hP : va_P D vwCl (wXX cI cS xx xd xo hh ha z zn q M8) H := by rw [eM8]; exact hP
  obtain ⟨er, eM⟩ := pr_use hF
  exact rt_I hx hb hr hlocks hS (by rw [← eM]; exact hP) er dX8_sellVoucher_26
noncomputable def fX8_book  (M : Xm) (x1 : Int32) (x2 : Int32) (x3 : Int32) (x4 : Int32) : Option (Int32 × Xm) := (fX1_prepare ((M.2.1, M.1))).bind fun M1 => nm ((M1.2, M1.1, M.2.2)) fun M2 => b2 (fX0_newBooking (M2.1.1) x1 x2 x3 x4) fun r4 M3 => nm (((M3, M2.1.2), M2.2)) fun M5 => b2 (fX1_settle (M5.2.1) r4) fun r7 M6 => nm ((M5.1, M6, M5.2.2)) fun M8 => some (r7, M8)
abbrev vX8_book : List Cond := Cond.code yX8_book cX8_book 5 (some .int) :: BIG
theorem gX8_book {own : String} {idx : Nat} (h : (Cond.methodLink own idx yX8_book) ∈ BIG) : GoodIn BIG (wsV own idx RX8 yX8_book vX8_book) := gdV h bw2_104 bw2_105 bw1_1 bw2_106
def rmX8_book : Room := { frames := 7, cells := 0, slots := 0, locals := 147 }
theorem hdX8_book : yX8_book.cls = RX8 ∧ yX8_book.cls ≠ "java/lang/invoke/MethodHandle" ∧ yX8_book.cls ≠ "java/lang/invoke/VarHandle" ∧ (parseMethodDescriptor yX8_book.desc).map (fun d => d.parameters.length) = some 4 := by decide +kernel
set_option maxHeartbeats 4000000 in
set_option maxRecDepth 100000 in
theorem kX8_book (l : Launch) (D : va_G) (cS : ClassId) (g : Nat → Nat) (cI : ClassId) (xx xd xo hh ha : Nat) (z : Nat → Nat → Nat) (zn q : Nat → Nat) (M : Xm) (x1 : Int32) (x2 : Int32) (x3 : Int32) (x4 : Int32) (r : Int32) (M' : Xm) (hF : fX8_book M x1 x2 x3 x4 = some (r, M')) : mI l yX8_book vX8_book rmX8_book D cI cS g [.ref xx, .int x1, .int x2, .int x3, .int x4] (wXX cI cS xx xd xo hh ha z zn q M) r (wXX cI cS xx xd xo hh ha z zn q (M')) := by
  refine st_I rfl (by decide) (Nat.le_of_ble_eq_true rfl) ?_
  intro p e s m args below meth c A ls hx hb hr hml hlocks hown hts hA hK hD0 hG hP hS hl
  have hown : s.vm.findClass RX8 = some m.cls := hown
  have hDa : ∀ M, va_D A (wXX cI cS xx xd xo hh ha z zn q M) := fun M => hD0.adr (adr_XX _ _ _ _ _ _ _ _ _ _ _ _)
  have htb : ∀ w ∈ BIG, w.before args s = true := fun w h => hts w (List.mem_cons_of_mem _ h)
  have hl : lv_has ls 5 [(0, .ref xx), (1, .int x1), (2, .int x2), (3, .int x3), (4, .int x4)] := hl
  refine lv_aload_n hx hb dX8_book_0 rfl (lv_at hl 0 rfl) ?_
  refine va_get (ci := 8) (v := .ref hh) (C := RX8) (T := TX8) (N := 6) hx hb htb kin8 hown hK hP 0 (pXX_0 cI cS xx xd xo hh ha z zn q M) rfl 4 (by decide) (htb _ bw1_209) (fun _ h9 => h9) rfl dX8_book_1 ?_
  refine lv_aload_n hx hb dX8_book_4 rfl (lv_at hl 0 rfl) ?_
  refine va_get (ci := 8) (v := .ref (zn 0)) (C := RX8) (T := TX8) (N := 6) hx hb htb kin8 hown hK hP 0 (pXX_0 cI cS xx xd xo hh ha z zn q M) rfl 0 (by decide) (htb _ bw1_205) (fun _ h9 => h9) rfl dX8_book_5 ?_
  obtain ⟨M1, hM1, hF⟩ := bd_use hF
  refine cl_VV ⟨hx, hb, hml, hown, htb⟩ (kX1_prepare l D cS g cI hh ha z zn ((M.2.1, M.1))  _ hM1) (cwV 1 htb (gX1_prepare bw2_45) rfl rfl rfl hdX1_prepare ⟨Nat.le_of_ble_eq_true rfl, Nat.le_of_ble_eq_true rfl⟩) hK (hDa _) hG hA hP hS (sg_XX_HQ cI cS xx xd xo hh ha z zn q M M1) hl.1 rfl 0 (pHQ_0 _ _ _ _ _ _ _) rfl rfl (Nat.le_of_ble_eq_true rfl) dX8_book_8 (fun H locs hP hS => ?_)
  obtain ⟨M2, eM2⟩ : ∃ z : Xm, z = (M1.2, M1.1, M.2.2) := ⟨_, rfl⟩
  have hF := nm_use hF eM2
  have hP : va_P D vwCl (wXX cI cS xx xd xo hh ha z zn q M2) H := by rw [eM2]; exact hP
  refine lv_aload_n hx hb dX8_book_11 rfl (lv_at hl 0 rfl) ?_
  refine va_get (ci := 8) (v := .ref hh) (C := RX8) (T := TX8) (N := 6) hx hb htb kin8 hown hK hP 0 (pXX_0 cI cS xx xd xo hh ha z zn q M2) rfl 4 (by decide) (htb _ bw1_209) (fun _ h9 => h9) rfl dX8_book_12 ?_
  refine lv_aload_n hx hb dX8_book_15 rfl (lv_at hl 0 rfl) ?_
  refine va_get (ci := 8) (v := .ref xd) (C := RX8) (T := TX8) (N := 6) hx hb htb kin8 hown hK hP 0 (pXX_0 cI cS xx xd xo hh ha z zn q M2) rfl 2 (by decide) (htb _ bw1_207) (fun _ h9 => h9) rfl dX8_book_16 ?_
  refine lv_iload_n hx hb dX8_book_19 rfl (lv_at hl 1 rfl) ?_
  refine lv_iload_n hx hb dX8_book_20 rfl (lv_at hl 2 rfl) ?_
  refine lv_iload_n hx hb dX8_book_21 rfl (lv_at hl 3 rfl) ?_
  refine lv_iload hx hb dX8_book_22 (lv_at hl 4 rfl) ?_
  obtain ⟨r4, M3, hM3, hF⟩ := b2_use hF
  refine cl_VI ⟨hx, hb, hml, hown, htb⟩ (kX0_newBooking l D cS g cI xd (fun k => zn (1 + k)) (M2.1.1) x1 x2 x3 x4 _ _ hM3) (cwV 4 htb (gX0_newBooking bw2_107) rfl rfl rfl hdX0_newBooking ⟨Nat.le_of_ble_eq_true rfl, Nat.le_of_ble_eq_true rfl⟩) hK (hDa _) hG hA hP hS (sg_XX_Dk cI cS xx xd xo hh ha z zn q M2 M3) hl.1 rfl 0 (pDk_0 _ _ _ _) rfl rfl (Nat.le_of_ble_eq_true rfl) dX8_book_24 (fun H locs hP hS => ?_)
  obtain ⟨M5, eM5⟩ : ∃ z : Xm, z = ((M3, M2.1.2), M2.2) := ⟨_, rfl⟩
  have hF := nm_use hF eM5
  have hP : va_P D vwCl (wXX cI cS xx xd xo hh ha z zn q M5) H := by rw [eM5]; exact hP
  obtain ⟨r7, M6, hM6, hF⟩ := b2_use hF
  refine cl_VI ⟨hx, hb, hml, hown, htb⟩ (kX1_settle l D cS g cI hh ha z (M5.2.1) r4 _ _ hM6) (cwV 1 htb (gX1_settle bw2_84) rfl rfl rfl hdX1_settle ⟨Nat.le_of_ble_eq_true rfl, Nat.le_of_ble_eq_true rfl⟩) hK (hDa _) hG hA hP hS (sg_XX_Hi cI cS xx xd xo hh ha z zn q M5 M6) hl.1 rfl 0 (pHi_0 _ _ _ _ _ _) rfl rfl (Nat.le_of_ble_eq_true rfl) dX8_book_27 (fun H locs hP hS => ?_)
  obtain ⟨M8, eM8⟩ : ∃ z : Xm, z = (M5.1, M6, M5.2.2) := ⟨_, rfl⟩
  have hF := nm_use hF eM8
  have hP : va_P D vwCl (wXX cI cS xx xd xo hh ha z zn q M8) H := by rw [eM8]; exact hP
  obtain ⟨er, eM⟩ := pr_use hF
  exact rt_I hx hb hr hlocks hS (by rw [← eM]; exact hP) er dX8_book_30
noncomputable def fX8_move  (M : Xm) (x1 : Int32) (x2 : Int32) : Option (Int32 × Xm) := (fX1_prepare ((M.2.1, M.1))).bind fun M1 => nm ((M1.2, M1.1, M.2.2)) fun M2 => b2 (fX0_changeTime (M2.1.1) x1 x2) fun r4 M3 => nm (((M3, M2.1.2), M2.2)) fun M5 => b2 (fX1_settle (M5.2.1) r4) fun r7 M6 => nm ((M5.1, M6, M5.2.2)) fun M8 => some (r7, M8)
abbrev vX8_move : List Cond := Cond.code yX8_move cX8_move 3 (some .int) :: BIG
theorem gX8_move {own : String} {idx : Nat} (h : (Cond.methodLink own idx yX8_move) ∈ BIG) : GoodIn BIG (wsV own idx RX8 yX8_move vX8_move) := gdV h bw2_202 bw2_203 bw1_1 bw2_204
def rmX8_move : Room := { frames := 7, cells := 0, slots := 0, locals := 147 }
theorem hdX8_move : yX8_move.cls = RX8 ∧ yX8_move.cls ≠ "java/lang/invoke/MethodHandle" ∧ yX8_move.cls ≠ "java/lang/invoke/VarHandle" ∧ (parseMethodDescriptor yX8_move.desc).map (fun d => d.parameters.length) = some 2 := by decide +kernel
set_option maxHeartbeats 4000000 in
set_option maxRecDepth 100000 in
theorem kX8_move (l : Launch) (D : va_G) (cS : ClassId) (g : Nat → Nat) (cI : ClassId) (xx xd xo hh ha : Nat) (z : Nat → Nat → Nat) (zn q : Nat → Nat) (M : Xm) (x1 : Int32) (x2 : Int32) (r : Int32) (M' : Xm) (hF : fX8_move M x1 x2 = some (r, M')) : mI l yX8_move vX8_move rmX8_move D cI cS g [.ref xx, .int x1, .int x2] (wXX cI cS xx xd xo hh ha z zn q M) r (wXX cI cS xx xd xo hh ha z zn q (M')) := by
  refine st_I rfl (by decide) (Nat.le_of_ble_eq_true rfl) ?_
  intro p e s m args below meth c A ls hx hb hr hml hlocks hown hts hA hK hD0 hG hP hS hl
  have hown : s.vm.findClass RX8 = some m.cls := hown
  have hDa : ∀ M, va_D A (wXX cI cS xx xd xo hh ha z zn q M) := fun M => hD0.adr (adr_XX _ _ _ _ _ _ _ _ _ _ _ _)
  have htb : ∀ w ∈ BIG, w.before args s = true := fun w h => hts w (List.mem_cons_of_mem _ h)
  have hl : lv_has ls 3 [(0, .ref xx), (1, .int x1), (2, .int x2)] := hl
  refine lv_aload_n hx hb dX8_move_0 rfl (lv_at hl 0 rfl) ?_
  refine va_get (ci := 8) (v := .ref hh) (C := RX8) (T := TX8) (N := 6) hx hb htb kin8 hown hK hP 0 (pXX_0 cI cS xx xd xo hh ha z zn q M) rfl 4 (by decide) (htb _ bw1_209) (fun _ h9 => h9) rfl dX8_move_1 ?_
  refine lv_aload_n hx hb dX8_move_4 rfl (lv_at hl 0 rfl) ?_
  refine va_get (ci := 8) (v := .ref (zn 0)) (C := RX8) (T := TX8) (N := 6) hx hb htb kin8 hown hK hP 0 (pXX_0 cI cS xx xd xo hh ha z zn q M) rfl 0 (by decide) (htb _ bw1_205) (fun _ h9 => h9) rfl dX8_move_5 ?_
  obtain ⟨M1, hM1, hF⟩ := bd_use hF
  refine cl_VV ⟨hx, hb, hml, hown, htb⟩ (kX1_prepare l D cS g cI hh ha z zn ((M.2.1, M.1))  _ hM1) (cwV 1 htb (gX1_prepare bw2_45) rfl rfl rfl hdX1_prepare ⟨Nat.le_of_ble_eq_true rfl, Nat.le_of_ble_eq_true rfl⟩) hK (hDa _) hG hA hP hS (sg_XX_HQ cI cS xx xd xo hh ha z zn q M M1) hl.1 rfl 0 (pHQ_0 _ _ _ _ _ _ _) rfl rfl (Nat.le_of_ble_eq_true rfl) dX8_move_8 (fun H locs hP hS => ?_)
  obtain ⟨M2, eM2⟩ : ∃ z : Xm, z = (M1.2, M1.1, M.2.2) := ⟨_, rfl⟩
  have hF := nm_use hF eM2
  have hP : va_P D vwCl (wXX cI cS xx xd xo hh ha z zn q M2) H := by rw [eM2]; exact hP
  refine lv_aload_n hx hb dX8_move_11 rfl (lv_at hl 0 rfl) ?_
  refine va_get (ci := 8) (v := .ref hh) (C := RX8) (T := TX8) (N := 6) hx hb htb kin8 hown hK hP 0 (pXX_0 cI cS xx xd xo hh ha z zn q M2) rfl 4 (by decide) (htb _ bw1_209) (fun _ h9 => h9) rfl dX8_move_12 ?_
  refine lv_aload_n hx hb dX8_move_15 rfl (lv_at hl 0 rfl) ?_
  refine va_get (ci := 8) (v := .ref xd) (C := RX8) (T := TX8) (N := 6) hx hb htb kin8 hown hK hP 0 (pXX_0 cI cS xx xd xo hh ha z zn q M2) rfl 2 (by decide) (htb _ bw1_207) (fun _ h9 => h9) rfl dX8_move_16 ?_
  refine lv_iload_n hx hb dX8_move_19 rfl (lv_at hl 1 rfl) ?_
  refine lv_iload_n hx hb dX8_move_20 rfl (lv_at hl 2 rfl) ?_
  obtain ⟨r4, M3, hM3, hF⟩ := b2_use hF
  refine cl_VI ⟨hx, hb, hml, hown, htb⟩ (kX0_changeTime l D cS g cI xd (fun k => zn (1 + k)) (M2.1.1) x1 x2 _ _ hM3) (cwV 2 htb (gX0_changeTime bw2_205) rfl rfl rfl hdX0_changeTime ⟨Nat.le_of_ble_eq_true rfl, Nat.le_of_ble_eq_true rfl⟩) hK (hDa _) hG hA hP hS (sg_XX_Dk cI cS xx xd xo hh ha z zn q M2 M3) hl.1 rfl 0 (pDk_0 _ _ _ _) rfl rfl (Nat.le_of_ble_eq_true rfl) dX8_move_21 (fun H locs hP hS => ?_)
  obtain ⟨M5, eM5⟩ : ∃ z : Xm, z = ((M3, M2.1.2), M2.2) := ⟨_, rfl⟩
  have hF := nm_use hF eM5
  have hP : va_P D vwCl (wXX cI cS xx xd xo hh ha z zn q M5) H := by rw [eM5]; exact hP
  obtain ⟨r7, M6, hM6, hF⟩ := b2_use hF
  refine cl_VI ⟨hx, hb, hml, hown, htb⟩ (kX1_settle l D cS g cI hh ha z (M5.2.1) r4 _ _ hM6) (cwV 1 htb (gX1_settle bw2_84) rfl rfl rfl hdX1_settle ⟨Nat.le_of_ble_eq_true rfl, Nat.le_of_ble_eq_true rfl⟩) hK (hDa _) hG hA hP hS (sg_XX_Hi cI cS xx xd xo hh ha z zn q M5 M6) hl.1 rfl 0 (pHi_0 _ _ _ _ _ _) rfl rfl (Nat.le_of_ble_eq_true rfl) dX8_move_24 (fun H locs hP hS => ?_)
  obtain ⟨M8, eM8⟩ : ∃ z : Xm, z = (M5.1, M6, M5.2.2) := ⟨_, rfl⟩
  have hF := nm_use hF eM8
  have hP : va_P D vwCl (wXX cI cS xx xd xo hh ha z zn q M8) H := by rw [eM8]; exact hP
  obtain ⟨er, eM⟩ := pr_use hF
  exact rt_I hx hb hr hlocks hS (by rw [← eM]; exact hP) er dX8_move_27
noncomputable def fX8_cancel  (M : Xm) (x1 : Int32) : Option (Int32 × Xm) := (fX1_prepare ((M.2.1, M.1))).bind fun M1 => nm ((M1.2, M1.1, M.2.2)) fun M2 => b2 (fX0_callOff (M2.1.1) x1) fun r4 M3 => nm (((M3, M2.1.2), M2.2)) fun M5 => b2 (fX1_settle (M5.2.1) r4) fun r7 M6 => nm ((M5.1, M6, M5.2.2)) fun M8 => some (r7, M8)
abbrev vX8_cancel : List Cond := Cond.code yX8_cancel cX8_cancel 2 (some .int) :: BIG
theorem gX8_cancel {own : String} {idx : Nat} (h : (Cond.methodLink own idx yX8_cancel) ∈ BIG) : GoodIn BIG (wsV own idx RX8 yX8_cancel vX8_cancel) := gdV h bw2_165 bw2_166 bw1_1 bw2_167
def rmX8_cancel : Room := { frames := 7, cells := 0, slots := 0, locals := 147 }
theorem hdX8_cancel : yX8_cancel.cls = RX8 ∧ yX8_cancel.cls ≠ "java/lang/invoke/MethodHandle" ∧ yX8_cancel.cls ≠ "java/lang/invoke/VarHandle" ∧ (parseMethodDescriptor yX8_cancel.desc).map (fun d => d.parameters.length) = some 1 := by decide +kernel
set_option maxHeartbeats 4000000 in
set_option maxRecDepth 100000 in
theorem kX8_cancel (l : Launch) (D : va_G) (cS : ClassId) (g : Nat → Nat) (cI : ClassId) (xx xd xo hh ha : Nat) (z : Nat → Nat → Nat) (zn q : Nat → Nat) (M : Xm) (x1 : Int32) (r : Int32) (M' : Xm) (hF : fX8_cancel M x1 = some (r, M')) : mI l yX8_cancel vX8_cancel rmX8_cancel D cI cS g [.ref xx, .int x1] (wXX cI cS xx xd xo hh ha z zn q M) r (wXX cI cS xx xd xo hh ha z zn q (M')) := by
  refine st_I rfl (by decide) (Nat.le_of_ble_eq_true rfl) ?_
  intro p e s m args below meth c A ls hx hb hr hml hlocks hown hts hA hK hD0 hG hP hS hl
  have hown : s.vm.findClass RX8 = some m.cls := hown
  have hDa : ∀ M, va_D A (wXX cI cS xx xd xo hh ha z zn q M) := fun M => hD0.adr (adr_XX _ _ _ _ _ _ _ _ _ _ _ _)
  have htb : ∀ w ∈ BIG, w.before args s = true := fun w h => hts w (List.mem_cons_of_mem _ h)
  have hl : lv_has ls 2 [(0, .ref xx), (1, .int x1)] := hl
  refine lv_aload_n hx hb dX8_cancel_0 rfl (lv_at hl 0 rfl) ?_
  refine va_get (ci := 8) (v := .ref hh) (C := RX8) (T := TX8) (N := 6) hx hb htb kin8 hown hK hP 0 (pXX_0 cI cS xx xd xo hh ha z zn q M) rfl 4 (by decide) (htb _ bw1_209) (fun _ h9 => h9) rfl dX8_cancel_1 ?_
  refine lv_aload_n hx hb dX8_cancel_4 rfl (lv_at hl 0 rfl) ?_
  refine va_get (ci := 8) (v := .ref (zn 0)) (C := RX8) (T := TX8) (N := 6) hx hb htb kin8 hown hK hP 0 (pXX_0 cI cS xx xd xo hh ha z zn q M) rfl 0 (by decide) (htb _ bw1_205) (fun _ h9 => h9) rfl dX8_cancel_5 ?_
  obtain ⟨M1, hM1, hF⟩ := bd_use hF
  refine cl_VV ⟨hx, hb, hml, hown, htb⟩ (kX1_prepare l D cS g cI hh ha z zn ((M.2.1, M.1))  _ hM1) (cwV 1 htb (gX1_prepare bw2_45) rfl rfl rfl hdX1_prepare ⟨Nat.le_of_ble_eq_true rfl, Nat.le_of_ble_eq_true rfl⟩) hK (hDa _) hG hA hP hS (sg_XX_HQ cI cS xx xd xo hh ha z zn q M M1) hl.1 rfl 0 (pHQ_0 _ _ _ _ _ _ _) rfl rfl (Nat.le_of_ble_eq_true rfl) dX8_cancel_8 (fun H locs hP hS => ?_)
  obtain ⟨M2, eM2⟩ : ∃ z : Xm, z = (M1.2, M1.1, M.2.2) := ⟨_, rfl⟩
  have hF := nm_use hF eM2
  have hP : va_P D vwCl (wXX cI cS xx xd xo hh ha z zn q M2) H := by rw [eM2]; exact hP
  refine lv_aload_n hx hb dX8_cancel_11 rfl (lv_at hl 0 rfl) ?_
  refine va_get (ci := 8) (v := .ref hh) (C := RX8) (T := TX8) (N := 6) hx hb htb kin8 hown hK hP 0 (pXX_0 cI cS xx xd xo hh ha z zn q M2) rfl 4 (by decide) (htb _ bw1_209) (fun _ h9 => h9) rfl dX8_cancel_12 ?_
  refine lv_aload_n hx hb dX8_cancel_15 rfl (lv_at hl 0 rfl) ?_
  refine va_get (ci := 8) (v := .ref xd) (C := RX8) (T := TX8) (N := 6) hx hb htb kin8 hown hK hP 0 (pXX_0 cI cS xx xd xo hh ha z zn q M2) rfl 2 (by decide) (htb _ bw1_207) (fun _ h9 => h9) rfl dX8_cancel_16 ?_
  refine lv_iload_n hx hb dX8_cancel_19 rfl (lv_at hl 1 rfl) ?_
  obtain ⟨r4, M3, hM3, hF⟩ := b2_use hF
  refine cl_VI ⟨hx, hb, hml, hown, htb⟩ (kX0_callOff l D cS g cI xd (fun k => zn (1 + k)) (M2.1.1) x1 _ _ hM3) (cwV 1 htb (gX0_callOff bw2_168) rfl rfl rfl hdX0_callOff ⟨Nat.le_of_ble_eq_true rfl, Nat.le_of_ble_eq_true rfl⟩) hK (hDa _) hG hA hP hS (sg_XX_Dk cI cS xx xd xo hh ha z zn q M2 M3) hl.1 rfl 0 (pDk_0 _ _ _ _) rfl rfl (Nat.le_of_ble_eq_true rfl) dX8_cancel_20 (fun H locs hP hS => ?_)
  obtain ⟨M5, eM5⟩ : ∃ z : Xm, z = ((M3, M2.1.2), M2.2) := ⟨_, rfl⟩
  have hF := nm_use hF eM5
  have hP : va_P D vwCl (wXX cI cS xx xd xo hh ha z zn q M5) H := by rw [eM5]; exact hP
  obtain ⟨r7, M6, hM6, hF⟩ := b2_use hF
  refine cl_VI ⟨hx, hb, hml, hown, htb⟩ (kX1_settle l D cS g cI hh ha z (M5.2.1) r4 _ _ hM6) (cwV 1 htb (gX1_settle bw2_84) rfl rfl rfl hdX1_settle ⟨Nat.le_of_ble_eq_true rfl, Nat.le_of_ble_eq_true rfl⟩) hK (hDa _) hG hA hP hS (sg_XX_Hi cI cS xx xd xo hh ha z zn q M5 M6) hl.1 rfl 0 (pHi_0 _ _ _ _ _ _) rfl rfl (Nat.le_of_ble_eq_true rfl) dX8_cancel_23 (fun H locs hP hS => ?_)
  obtain ⟨M8, eM8⟩ : ∃ z : Xm, z = (M5.1, M6, M5.2.2) := ⟨_, rfl⟩
  have hF := nm_use hF eM8
  have hP : va_P D vwCl (wXX cI cS xx xd xo hh ha z zn q M8) H := by rw [eM8]; exact hP
  obtain ⟨er, eM⟩ := pr_use hF
  exact rt_I hx hb hr hlocks hS (by rw [← eM]; exact hP) er dX8_cancel_26
noncomputable def fX8_merge  (M : Xm) (x1 : Int32) (x2 : Int32) : Option (Int32 × Xm) := (fX1_prepare ((M.2.1, M.1))).bind fun M1 => nm ((M1.2, M1.1, M.2.2)) fun M2 => b2 (fX0_joinTeams (M2.1.1) x1 x2) fun r4 M3 => nm (((M3, M2.1.2), M2.2)) fun M5 => b2 (fX1_settle (M5.2.1) r4) fun r7 M6 => nm ((M5.1, M6, M5.2.2)) fun M8 => some (r7, M8)
abbrev vX8_merge : List Cond := Cond.code yX8_merge cX8_merge 3 (some .int) :: BIG
theorem gX8_merge {own : String} {idx : Nat} (h : (Cond.methodLink own idx yX8_merge) ∈ BIG) : GoodIn BIG (wsV own idx RX8 yX8_merge vX8_merge) := gdV h bw2_210 bw2_211 bw1_1 bw2_212
def rmX8_merge : Room := { frames := 7, cells := 0, slots := 0, locals := 147 }
theorem hdX8_merge : yX8_merge.cls = RX8 ∧ yX8_merge.cls ≠ "java/lang/invoke/MethodHandle" ∧ yX8_merge.cls ≠ "java/lang/invoke/VarHandle" ∧ (parseMethodDescriptor yX8_merge.desc).map (fun d => d.parameters.length) = some 2 := by decide +kernel
set_option maxHeartbeats 4000000 in
set_option maxRecDepth 100000 in
theorem kX8_merge (l : Launch) (D : va_G) (cS : ClassId) (g : Nat → Nat) (cI : ClassId) (xx xd xo hh ha : Nat) (z : Nat → Nat → Nat) (zn q : Nat → Nat) (M : Xm) (x1 : Int32) (x2 : Int32) (r : Int32) (M' : Xm) (hF : fX8_merge M x1 x2 = some (r, M')) : mI l yX8_merge vX8_merge rmX8_merge D cI cS g [.ref xx, .int x1, .int x2] (wXX cI cS xx xd xo hh ha z zn q M) r (wXX cI cS xx xd xo hh ha z zn q (M')) := by
  refine st_I rfl (by decide) (Nat.le_of_ble_eq_true rfl) ?_
  intro p e s m args below meth c A ls hx hb hr hml hlocks hown hts hA hK hD0 hG hP hS hl
  have hown : s.vm.findClass RX8 = some m.cls := hown
  have hDa : ∀ M, va_D A (wXX cI cS xx xd xo hh ha z zn q M) := fun M => hD0.adr (adr_XX _ _ _ _ _ _ _ _ _ _ _ _)
  have htb : ∀ w ∈ BIG, w.before args s = true := fun w h => hts w (List.mem_cons_of_mem _ h)
  have hl : lv_has ls 3 [(0, .ref xx), (1, .int x1), (2, .int x2)] := hl
  refine lv_aload_n hx hb dX8_merge_0 rfl (lv_at hl 0 rfl) ?_
  refine va_get (ci := 8) (v := .ref hh) (C := RX8) (T := TX8) (N := 6) hx hb htb kin8 hown hK hP 0 (pXX_0 cI cS xx xd xo hh ha z zn q M) rfl 4 (by decide) (htb _ bw1_209) (fun _ h9 => h9) rfl dX8_merge_1 ?_
  refine lv_aload_n hx hb dX8_merge_4 rfl (lv_at hl 0 rfl) ?_
  refine va_get (ci := 8) (v := .ref (zn 0)) (C := RX8) (T := TX8) (N := 6) hx hb htb kin8 hown hK hP 0 (pXX_0 cI cS xx xd xo hh ha z zn q M) rfl 0 (by decide) (htb _ bw1_205) (fun _ h9 => h9) rfl dX8_merge_5 ?_
  obtain ⟨M1, hM1, hF⟩ := bd_use hF
  refine cl_VV ⟨hx, hb, hml, hown, htb⟩ (kX1_prepare l D cS g cI hh ha z zn ((M.2.1, M.1))  _ hM1) (cwV 1 htb (gX1_prepare bw2_45) rfl rfl rfl hdX1_prepare ⟨Nat.le_of_ble_eq_true rfl, Nat.le_of_ble_eq_true rfl⟩) hK (hDa _) hG hA hP hS (sg_XX_HQ cI cS xx xd xo hh ha z zn q M M1) hl.1 rfl 0 (pHQ_0 _ _ _ _ _ _ _) rfl rfl (Nat.le_of_ble_eq_true rfl) dX8_merge_8 (fun H locs hP hS => ?_)
  obtain ⟨M2, eM2⟩ : ∃ z : Xm, z = (M1.2, M1.1, M.2.2) := ⟨_, rfl⟩
  have hF := nm_use hF eM2
  have hP : va_P D vwCl (wXX cI cS xx xd xo hh ha z zn q M2) H := by rw [eM2]; exact hP
  refine lv_aload_n hx hb dX8_merge_11 rfl (lv_at hl 0 rfl) ?_
  refine va_get (ci := 8) (v := .ref hh) (C := RX8) (T := TX8) (N := 6) hx hb htb kin8 hown hK hP 0 (pXX_0 cI cS xx xd xo hh ha z zn q M2) rfl 4 (by decide) (htb _ bw1_209) (fun _ h9 => h9) rfl dX8_merge_12 ?_
  refine lv_aload_n hx hb dX8_merge_15 rfl (lv_at hl 0 rfl) ?_
  refine va_get (ci := 8) (v := .ref xd) (C := RX8) (T := TX8) (N := 6) hx hb htb kin8 hown hK hP 0 (pXX_0 cI cS xx xd xo hh ha z zn q M2) rfl 2 (by decide) (htb _ bw1_207) (fun _ h9 => h9) rfl dX8_merge_16 ?_
  refine lv_iload_n hx hb dX8_merge_19 rfl (lv_at hl 1 rfl) ?_
  refine lv_iload_n hx hb dX8_merge_20 rfl (lv_at hl 2 rfl) ?_
  obtain ⟨r4, M3, hM3, hF⟩ := b2_use hF
  refine cl_VI ⟨hx, hb, hml, hown, htb⟩ (kX0_joinTeams l D cS g cI xd (fun k => zn (1 + k)) (M2.1.1) x1 x2 _ _ hM3) (cwV 2 htb (gX0_joinTeams bw2_213) rfl rfl rfl hdX0_joinTeams ⟨Nat.le_of_ble_eq_true rfl, Nat.le_of_ble_eq_true rfl⟩) hK (hDa _) hG hA hP hS (sg_XX_Dk cI cS xx xd xo hh ha z zn q M2 M3) hl.1 rfl 0 (pDk_0 _ _ _ _) rfl rfl (Nat.le_of_ble_eq_true rfl) dX8_merge_21 (fun H locs hP hS => ?_)
  obtain ⟨M5, eM5⟩ : ∃ z : Xm, z = ((M3, M2.1.2), M2.2) := ⟨_, rfl⟩
  have hF := nm_use hF eM5
  have hP : va_P D vwCl (wXX cI cS xx xd xo hh ha z zn q M5) H := by rw [eM5]; exact hP
  obtain ⟨r7, M6, hM6, hF⟩ := b2_use hF
  refine cl_VI ⟨hx, hb, hml, hown, htb⟩ (kX1_settle l D cS g cI hh ha z (M5.2.1) r4 _ _ hM6) (cwV 1 htb (gX1_settle bw2_84) rfl rfl rfl hdX1_settle ⟨Nat.le_of_ble_eq_true rfl, Nat.le_of_ble_eq_true rfl⟩) hK (hDa _) hG hA hP hS (sg_XX_Hi cI cS xx xd xo hh ha z zn q M5 M6) hl.1 rfl 0 (pHi_0 _ _ _ _ _ _) rfl rfl (Nat.le_of_ble_eq_true rfl) dX8_merge_24 (fun H locs hP hS => ?_)
  obtain ⟨M8, eM8⟩ : ∃ z : Xm, z = (M5.1, M6, M5.2.2) := ⟨_, rfl⟩
  have hF := nm_use hF eM8
  have hP : va_P D vwCl (wXX cI cS xx xd xo hh ha z zn q M8) H := by rw [eM8]; exact hP
  obtain ⟨er, eM⟩ := pr_use hF
  exact rt_I hx hb hr hlocks hS (by rw [← eM]; exact hP) er dX8_merge_27
noncomputable def fX8_play  (M : Xm) (x1 : Int32) (x2 : Int32) (x3 : Int32) (x4 : Int32) : Option (Int32 × Xm) := (fX1_prepare ((M.2.1, M.1))).bind fun M1 => nm ((M1.2, M1.1, M.2.2)) fun M2 => b2 (fX0_letPlay (M2.1.1) x1 x2 x3 x4) fun r4 M3 => nm (((M3, M2.1.2), M2.2)) fun M5 => b2 (fX1_settle (M5.2.1) r4) fun r7 M6 => nm ((M5.1, M6, M5.2.2)) fun M8 => some (r7, M8)
abbrev vX8_play : List Cond := Cond.code yX8_play cX8_play 5 (some .int) :: BIG
theorem gX8_play {own : String} {idx : Nat} (h : (Cond.methodLink own idx yX8_play) ∈ BIG) : GoodIn BIG (wsV own idx RX8 yX8_play vX8_play) := gdV h bw2_231 bw2_232 bw1_1 bw2_233
def rmX8_play : Room := { frames := 7, cells := 0, slots := 0, locals := 147 }
theorem hdX8_play : yX8_play.cls = RX8 ∧ yX8_play.cls ≠ "java/lang/invoke/MethodHandle" ∧ yX8_play.cls ≠ "java/lang/invoke/VarHandle" ∧ (parseMethodDescriptor yX8_play.desc).map (fun d => d.parameters.length) = some 4 := by decide +kernel
set_option maxHeartbeats 4000000 in
set_option maxRecDepth 100000 in
theorem kX8_play (l : Launch) (D : va_G) (cS : ClassId) (g : Nat → Nat) (cI : ClassId) (xx xd xo hh ha : Nat) (z : Nat → Nat → Nat) (zn q : Nat → Nat) (M : Xm) (x1 : Int32) (x2 : Int32) (x3 : Int32) (x4 : Int32) (r : Int32) (M' : Xm) (hF : fX8_play M x1 x2 x3 x4 = some (r, M')) : mI l yX8_play vX8_play rmX8_play D cI cS g [.ref xx, .int x1, .int x2, .int x3, .int x4] (wXX cI cS xx xd xo hh ha z zn q M) r (wXX cI cS xx xd xo hh ha z zn q (M')) := by
  refine st_I rfl (by decide) (Nat.le_of_ble_eq_true rfl) ?_
  intro p e s m args below meth c A ls hx hb hr hml hlocks hown hts hA hK hD0 hG hP hS hl
  have hown : s.vm.findClass RX8 = some m.cls := hown
  have hDa : ∀ M, va_D A (wXX cI cS xx xd xo hh ha z zn q M) := fun M => hD0.adr (adr_XX _ _ _ _ _ _ _ _ _ _ _ _)
  have htb : ∀ w ∈ BIG, w.before args s = true := fun w h => hts w (List.mem_cons_of_mem _ h)
  have hl : lv_has ls 5 [(0, .ref xx), (1, .int x1), (2, .int x2), (3, .int x3), (4, .int x4)] := hl
  refine lv_aload_n hx hb dX8_play_0 rfl (lv_at hl 0 rfl) ?_
  refine va_get (ci := 8) (v := .ref hh) (C := RX8) (T := TX8) (N := 6) hx hb htb kin8 hown hK hP 0 (pXX_0 cI cS xx xd xo hh ha z zn q M) rfl 4 (by decide) (htb _ bw1_209) (fun _ h9 => h9) rfl dX8_play_1 ?_
  refine lv_aload_n hx hb dX8_play_4 rfl (lv_at hl 0 rfl) ?_
  refine va_get (ci := 8) (v := .ref (zn 0)) (C := RX8) (T := TX8) (N := 6) hx hb htb kin8 hown hK hP 0 (pXX_0 cI cS xx xd xo hh ha z zn q M) rfl 0 (by decide) (htb _ bw1_205) (fun _ h9 => h9) rfl dX8_play_5 ?_
  obtain ⟨M1, hM1, hF⟩ := bd_use hF
  refine cl_VV ⟨hx, hb, hml, hown, htb⟩ (kX1_prepare l D cS g cI hh ha z zn ((M.2.1, M.1))  _ hM1) (cwV 1 htb (gX1_prepare bw2_45) rfl rfl rfl hdX1_prepare ⟨Nat.le_of_ble_eq_true rfl, Nat.le_of_ble_eq_true rfl⟩) hK (hDa _) hG hA hP hS (sg_XX_HQ cI cS xx xd xo hh ha z zn q M M1) hl.1 rfl 0 (pHQ_0 _ _ _ _ _ _ _) rfl rfl (Nat.le_of_ble_eq_true rfl) dX8_play_8 (fun H locs hP hS => ?_)
  obtain ⟨M2, eM2⟩ : ∃ z : Xm, z = (M1.2, M1.1, M.2.2) := ⟨_, rfl⟩
  have hF := nm_use hF eM2
  have hP : va_P D vwCl (wXX cI cS xx xd xo hh ha z zn q M2) H := by rw [eM2]; exact hP
  refine lv_aload_n hx hb dX8_play_11 rfl (lv_at hl 0 rfl) ?_
  refine va_get (ci := 8) (v := .ref hh) (C := RX8) (T := TX8) (N := 6) hx hb htb kin8 hown hK hP 0 (pXX_0 cI cS xx xd xo hh ha z zn q M2) rfl 4 (by decide) (htb _ bw1_209) (fun _ h9 => h9) rfl dX8_play_12 ?_
  refine lv_aload_n hx hb dX8_play_15 rfl (lv_at hl 0 rfl) ?_
  refine va_get (ci := 8) (v := .ref xd) (C := RX8) (T := TX8) (N := 6) hx hb htb kin8 hown hK hP 0 (pXX_0 cI cS xx xd xo hh ha z zn q M2) rfl 2 (by decide) (htb _ bw1_207) (fun _ h9 => h9) rfl dX8_play_16 ?_
  refine lv_iload_n hx hb dX8_play_19 rfl (lv_at hl 1 rfl) ?_
  refine lv_iload_n hx hb dX8_play_20 rfl (lv_at hl 2 rfl) ?_
  refine lv_iload_n hx hb dX8_play_21 rfl (lv_at hl 3 rfl) ?_
  refine lv_iload hx hb dX8_play_22 (lv_at hl 4 rfl) ?_
  obtain ⟨r4, M3, hM3, hF⟩ := b2_use hF
  refine cl_VI ⟨hx, hb, hml, hown, htb⟩ (kX0_letPlay l D cS g cI xd (fun k => zn (1 + k)) (M2.1.1) x1 x2 x3 x4 _ _ hM3) (cwV 4 htb (gX0_letPlay bw2_234) rfl rfl rfl hdX0_letPlay ⟨Nat.le_of_ble_eq_true rfl, Nat.le_of_ble_eq_true rfl⟩) hK (hDa _) hG hA hP hS (sg_XX_Dk cI cS xx xd xo hh ha z zn q M2 M3) hl.1 rfl 0 (pDk_0 _ _ _ _) rfl rfl (Nat.le_of_ble_eq_true rfl) dX8_play_24 (fun H locs hP hS => ?_)
  obtain ⟨M5, eM5⟩ : ∃ z : Xm, z = ((M3, M2.1.2), M2.2) := ⟨_, rfl⟩
  have hF := nm_use hF eM5
  have hP : va_P D vwCl (wXX cI cS xx xd xo hh ha z zn q M5) H := by rw [eM5]; exact hP
  obtain ⟨r7, M6, hM6, hF⟩ := b2_use hF
  refine cl_VI ⟨hx, hb, hml, hown, htb⟩ (kX1_settle l D cS g cI hh ha z (M5.2.1) r4 _ _ hM6) (cwV 1 htb (gX1_settle bw2_84) rfl rfl rfl hdX1_settle ⟨Nat.le_of_ble_eq_true rfl, Nat.le_of_ble_eq_true rfl⟩) hK (hDa _) hG hA hP hS (sg_XX_Hi cI cS xx xd xo hh ha z zn q M5 M6) hl.1 rfl 0 (pHi_0 _ _ _ _ _ _) rfl rfl (Nat.le_of_ble_eq_true rfl) dX8_play_27 (fun H locs hP hS => ?_)
  obtain ⟨M8, eM8⟩ : ∃ z : Xm, z = (M5.1, M6, M5.2.2) := ⟨_, rfl⟩
  have hF := nm_use hF eM8
  have hP : va_P D vwCl (wXX cI cS xx xd xo hh ha z zn q M8) H := by rw [eM8]; exact hP
  obtain ⟨er, eM⟩ := pr_use hF
  exact rt_I hx hb hr hlocks hS (by rw [← eM]; exact hP) er dX8_play_30
noncomputable def fX8_count  (M : Xm) (x1 : Int32) : Option (Int32 × Xm) := (fX8_inRange x1 6 10).bind fun r1 => if r1 = 0 then ((fX8_inRange x1 11 14).bind fun r3 => if r3 = 0 then (if x1 = 0 then ((fX6_size 44 4 11 (M.1.1.1)).bind fun r6 => some (r6, M)) else (if x1 = 1 then ((fX6_size 160 16 10 (M.1.1.2.1)).bind fun r8 => some (r8, M)) else (if x1 = 2 then ((fX6_size 16 8 2 (M.1.1.2.2.1)).bind fun r10 => some (r10, M)) else (if x1 = 3 then ((fX5_snapshots (M.1)).bind fun r12 => some (r12, M)) else (if x1 = 4 then ((fX1_size (M.2.1)).bind fun r14 => some (r14, M)) else (if x1 = 5 then ((fX3_size (M.2.2)).bind fun r16 => some (r16, M)) else (some ((-1), M)))))))) else ((fX7_bookingsInState (M.1.1) (x1 - 11)).bind fun r17 => some (r17, M))) else ((fX7_setting (M.1.1) (x1 - 6)).bind fun r18 => some (r18, M))
abbrev vX8_count : List Cond := Cond.code yX8_count cX8_count 2 (some .int) :: BIG
theorem gX8_count {own : String} {idx : Nat} (h : (Cond.methodLink own idx yX8_count) ∈ BIG) : GoodIn BIG (wsV own idx RX8 yX8_count vX8_count) := gdV h bw1_225 bw1_226 bw1_1 bw1_227
def rmX8_count : Room := { frames := 2, cells := 0, slots := 0, locals := 47 }
theorem hdX8_count : yX8_count.cls = RX8 ∧ yX8_count.cls ≠ "java/lang/invoke/MethodHandle" ∧ yX8_count.cls ≠ "java/lang/invoke/VarHandle" ∧ (parseMethodDescriptor yX8_count.desc).map (fun d => d.parameters.length) = some 1 := by decide +kernel
set_option maxHeartbeats 4000000 in
set_option maxRecDepth 100000 in
theorem kX8_count (l : Launch) (D : va_G) (cS : ClassId) (g : Nat → Nat) (cI : ClassId) (xx xd xo hh ha : Nat) (z : Nat → Nat → Nat) (zn q : Nat → Nat) (M : Xm) (x1 : Int32) (r : Int32) (M' : Xm) (hF : fX8_count M x1 = some (r, M')) : mI l yX8_count vX8_count rmX8_count D cI cS g [.ref xx, .int x1] (wXX cI cS xx xd xo hh ha z zn q M) r (wXX cI cS xx xd xo hh ha z zn q (M')) := by
  refine st_I rfl (by decide) (Nat.le_of_ble_eq_true rfl) ?_
  intro p e s m args below meth c A ls hx hb hr hml hlocks hown hts hA hK hD0 hG hP hS hl
  have hown : s.vm.findClass RX8 = some m.cls := hown
  have hDa : ∀ M, va_D A (wXX cI cS xx xd xo hh ha z zn q M) := fun M => hD0.adr (adr_XX _ _ _ _ _ _ _ _ _ _ _ _)
  have htb : ∀ w ∈ BIG, w.before args s = true := fun w h => hts w (List.mem_cons_of_mem _ h)
  have hl : lv_has ls 2 [(0, .ref xx), (1, .int x1)] := hl
  refine lv_iload_n hx hb dX8_count_0 rfl (lv_at hl 1 rfl) ?_
  refine lv_bipush (v := 6) hx hb dX8_count_1 (by decide) ?_
  refine lv_bipush (v := 10) hx hb dX8_count_3 (by decide) ?_
  obtain ⟨r1, hr1, hF⟩ := bd_use hF
  refine cl_SI ⟨hx, hb, hml, hown, htb⟩ (kX8_inRange l D cS g cI x1 6 10 _ hr1) (va_cwS 3 htb (gX8_inRange bw1_228) rfl rfl rfl hdX8_inRange ⟨Nat.le_of_ble_eq_true rfl, Nat.le_of_ble_eq_true rfl⟩) hK (hDa _) hG hA hP hS sg_nil hl.1 rfl rfl (Nat.le_of_ble_eq_true rfl) dX8_count_5 (fun H locs hP hS => ?_)
  refine lv_if_eq (tgt := 23) hx hb dX8_count_8 (by decide) (fun c2 => ?_) (fun c2 => ?_)
  · have hF := it_t hF c2
    refine lv_iload_n hx hb dX8_count_23 rfl (lv_at hl 1 rfl) ?_
    refine lv_bipush (v := 11) hx hb dX8_count_24 (by decide) ?_
    refine lv_bipush (v := 14) hx hb dX8_count_26 (by decide) ?_
    obtain ⟨r3, hr3, hF⟩ := bd_use hF
    refine cl_SI ⟨hx, hb, hml, hown, htb⟩ (kX8_inRange l D cS g cI x1 11 14 _ hr3) (va_cwS 3 htb (gX8_inRange bw1_228) rfl rfl rfl hdX8_inRange ⟨Nat.le_of_ble_eq_true rfl, Nat.le_of_ble_eq_true rfl⟩) hK (hDa _) hG hA hP hS sg_nil hl.1 rfl rfl (Nat.le_of_ble_eq_true rfl) dX8_count_28 (fun H locs hP hS => ?_)
    refine lv_if_eq (tgt := 46) hx hb dX8_count_31 (by decide) (fun c4 => ?_) (fun c4 => ?_)
    · have hF := it_t hF c4
      refine lv_iload_n hx hb dX8_count_46 rfl (lv_at hl 1 rfl) ?_
      by_cases c5 : x1 = 0
      · have hF := it_t hF c5
        refine lv_tableIn (x := x1) (off := 37) (tgt := 84) hx hb dX8_count_47 (by rw [c5]; decide) (by rw [c5]; decide) (by rw [c5]; rfl) (by decide) ?_
        refine lv_aload_n hx hb dX8_count_84 rfl (lv_at hl 0 rfl) ?_
        refine va_get (ci := 8) (v := .ref (zn 1)) (C := RX8) (T := TX8) (N := 6) hx hb htb kin8 hown hK hP 0 (pXX_0 cI cS xx xd xo hh ha z zn q M) rfl 1 (by decide) (htb _ bw1_206) (fun _ h9 => h9) rfl dX8_count_85 ?_
        refine va_get (ci := 7) (v := .ref (zn 2)) (C := RX7) (T := TX7) (N := 6) hx hb htb kin7 hown hK hP 2 (pXX_2 cI cS xx xd xo hh ha z zn q M) rfl 0 (by decide) (htb _ bw1_73) (fun _ h9 => h9) rfl dX8_count_88 ?_
        obtain ⟨r6, hr6, hF⟩ := bd_use hF
        refine cl_VI ⟨hx, hb, hml, hown, htb⟩ (kX6_size l D cS g cI (zn 2) (zn 3) 44 4 11 (M.1.1.1)  _ hr6) (cwV 0 htb (gX6_size bw2_7) rfl rfl rfl hdX6_size ⟨Nat.le_of_ble_eq_true rfl, Nat.le_of_ble_eq_true rfl⟩) hK (hDa _) hG hA hP hS (sr_XX_rooms cI cS xx xd xo hh ha z zn q M) hl.1 rfl 0 (pTb_0 _ _ _ _ _ _ _) rfl rfl (Nat.le_of_ble_eq_true rfl) dX8_count_91 (fun H locs hP hS => ?_)
        obtain ⟨er, eM⟩ := pr_use hF
        exact rt_I hx hb hr hlocks hS (by rw [← eM]; exact hP) er dX8_count_94
      · have hF := it_f hF c5
        by_cases c7 : x1 = 1
        · have hF := it_t hF c7
          refine lv_tableIn (x := x1) (off := 48) (tgt := 95) hx hb dX8_count_47 (by rw [c7]; decide) (by rw [c7]; decide) (by rw [c7]; rfl) (by decide) ?_
          refine lv_aload_n hx hb dX8_count_95 rfl (lv_at hl 0 rfl) ?_
          refine va_get (ci := 8) (v := .ref (zn 1)) (C := RX8) (T := TX8) (N := 6) hx hb htb kin8 hown hK hP 0 (pXX_0 cI cS xx xd xo hh ha z zn q M) rfl 1 (by decide) (htb _ bw1_206) (fun _ h9 => h9) rfl dX8_count_96 ?_
          refine va_get (ci := 7) (v := .ref (zn 4)) (C := RX7) (T := TX7) (N := 6) hx hb htb kin7 hown hK hP 2 (pXX_2 cI cS xx xd xo hh ha z zn q M) rfl 1 (by decide) (htb _ bw1_77) (fun _ h9 => h9) rfl dX8_count_99 ?_
          obtain ⟨r8, hr8, hF⟩ := bd_use hF
          refine cl_VI ⟨hx, hb, hml, hown, htb⟩ (kX6_size l D cS g cI (zn 4) (zn 5) 160 16 10 (M.1.1.2.1)  _ hr8) (cwV 0 htb (gX6_size bw2_7) rfl rfl rfl hdX6_size ⟨Nat.le_of_ble_eq_true rfl, Nat.le_of_ble_eq_true rfl⟩) hK (hDa _) hG hA hP hS (sr_XX_bookings cI cS xx xd xo hh ha z zn q M) hl.1 rfl 0 (pTb_0 _ _ _ _ _ _ _) rfl rfl (Nat.le_of_ble_eq_true rfl) dX8_count_102 (fun H locs hP hS => ?_)
          obtain ⟨er, eM⟩ := pr_use hF
          exact rt_I hx hb hr hlocks hS (by rw [← eM]; exact hP) er dX8_count_105
        · have hF := it_f hF c7
          by_cases c9 : x1 = 2
          · have hF := it_t hF c9
            refine lv_tableIn (x := x1) (off := 59) (tgt := 106) hx hb dX8_count_47 (by rw [c9]; decide) (by rw [c9]; decide) (by rw [c9]; rfl) (by decide) ?_
            refine lv_aload_n hx hb dX8_count_106 rfl (lv_at hl 0 rfl) ?_
            refine va_get (ci := 8) (v := .ref (zn 1)) (C := RX8) (T := TX8) (N := 6) hx hb htb kin8 hown hK hP 0 (pXX_0 cI cS xx xd xo hh ha z zn q M) rfl 1 (by decide) (htb _ bw1_206) (fun _ h9 => h9) rfl dX8_count_107 ?_
            refine va_get (ci := 7) (v := .ref (zn 6)) (C := RX7) (T := TX7) (N := 6) hx hb htb kin7 hown hK hP 2 (pXX_2 cI cS xx xd xo hh ha z zn q M) rfl 2 (by decide) (htb _ bw1_80) (fun _ h9 => h9) rfl dX8_count_110 ?_
            obtain ⟨r10, hr10, hF⟩ := bd_use hF
            refine cl_VI ⟨hx, hb, hml, hown, htb⟩ (kX6_size l D cS g cI (zn 6) (zn 7) 16 8 2 (M.1.1.2.2.1)  _ hr10) (cwV 0 htb (gX6_size bw2_7) rfl rfl rfl hdX6_size ⟨Nat.le_of_ble_eq_true rfl, Nat.le_of_ble_eq_true rfl⟩) hK (hDa _) hG hA hP hS (sr_XX_vouchers cI cS xx xd xo hh ha z zn q M) hl.1 rfl 0 (pTb_0 _ _ _ _ _ _ _) rfl rfl (Nat.le_of_ble_eq_true rfl) dX8_count_113 (fun H locs hP hS => ?_)
            obtain ⟨er, eM⟩ := pr_use hF
            exact rt_I hx hb hr hlocks hS (by rw [← eM]; exact hP) er dX8_count_116
          · have hF := it_f hF c9
            by_cases c11 : x1 = 3
            · have hF := it_t hF c11
              refine lv_tableIn (x := x1) (off := 70) (tgt := 117) hx hb dX8_count_47 (by rw [c11]; decide) (by rw [c11]; decide) (by rw [c11]; rfl) (by decide) ?_
              refine lv_aload_n hx hb dX8_count_117 rfl (lv_at hl 0 rfl) ?_
              refine va_get (ci := 8) (v := .ref (zn 0)) (C := RX8) (T := TX8) (N := 6) hx hb htb kin8 hown hK hP 0 (pXX_0 cI cS xx xd xo hh ha z zn q M) rfl 0 (by decide) (htb _ bw1_205) (fun _ h9 => h9) rfl dX8_count_118 ?_
              obtain ⟨r12, hr12, hF⟩ := bd_use hF
              refine cl_VI ⟨hx, hb, hml, hown, htb⟩ (kX5_snapshots l D cS g cI zn (M.1)  _ hr12) (cwV 0 htb (gX5_snapshots bw2_8) rfl rfl rfl hdX5_snapshots ⟨Nat.le_of_ble_eq_true rfl, Nat.le_of_ble_eq_true rfl⟩) hK (hDa _) hG hA hP hS (sr_XX_St cI cS xx xd xo hh ha z zn q M) hl.1 rfl 0 (pSt_0 _ _ _) rfl rfl (Nat.le_of_ble_eq_true rfl) dX8_count_121 (fun H locs hP hS => ?_)
              obtain ⟨er, eM⟩ := pr_use hF
              exact rt_I hx hb hr hlocks hS (by rw [← eM]; exact hP) er dX8_count_124
            · have hF := it_f hF c11
              by_cases c13 : x1 = 4
              · have hF := it_t hF c13
                refine lv_tableIn (x := x1) (off := 78) (tgt := 125) hx hb dX8_count_47 (by rw [c13]; decide) (by rw [c13]; decide) (by rw [c13]; rfl) (by decide) ?_
                refine lv_aload_n hx hb dX8_count_125 rfl (lv_at hl 0 rfl) ?_
                refine va_get (ci := 8) (v := .ref hh) (C := RX8) (T := TX8) (N := 6) hx hb htb kin8 hown hK hP 0 (pXX_0 cI cS xx xd xo hh ha z zn q M) rfl 4 (by decide) (htb _ bw1_209) (fun _ h9 => h9) rfl dX8_count_126 ?_
                obtain ⟨r14, hr14, hF⟩ := bd_use hF
                refine cl_VI ⟨hx, hb, hml, hown, htb⟩ (kX1_size l D cS g cI hh ha z (M.2.1)  _ hr14) (cwV 0 htb (gX1_size bw2_12) rfl rfl rfl hdX1_size ⟨Nat.le_of_ble_eq_true rfl, Nat.le_of_ble_eq_true rfl⟩) hK (hDa _) hG hA hP hS (sr_XX_Hi cI cS xx xd xo hh ha z zn q M) hl.1 rfl 0 (pHi_0 _ _ _ _ _ _) rfl rfl (Nat.le_of_ble_eq_true rfl) dX8_count_129 (fun H locs hP hS => ?_)
                obtain ⟨er, eM⟩ := pr_use hF
                exact rt_I hx hb hr hlocks hS (by rw [← eM]; exact hP) er dX8_count_132
              · have hF := it_f hF c13
                by_cases c15 : x1 = 5
                · have hF := it_t hF c15
                  refine lv_tableIn (x := x1) (off := 86) (tgt := 133) hx hb dX8_count_47 (by rw [c15]; decide) (by rw [c15]; decide) (by rw [c15]; rfl) (by decide) ?_
                  refine lv_aload_n hx hb dX8_count_133 rfl (lv_at hl 0 rfl) ?_
                  refine va_get (ci := 8) (v := .ref (q 0)) (C := RX8) (T := TX8) (N := 6) hx hb htb kin8 hown hK hP 0 (pXX_0 cI cS xx xd xo hh ha z zn q M) rfl 5 (by decide) (htb _ bw1_210) (fun _ h9 => h9) rfl dX8_count_134 ?_
                  obtain ⟨r16, hr16, hF⟩ := bd_use hF
                  refine cl_VI ⟨hx, hb, hml, hown, htb⟩ (kX3_size l D cS g cI q (M.2.2)  _ hr16) (cwV 0 htb (gX3_size bw2_16) rfl rfl rfl hdX3_size ⟨Nat.le_of_ble_eq_true rfl, Nat.le_of_ble_eq_true rfl⟩) hK (hDa _) hG hA hP hS (sr_XX_Pg cI cS xx xd xo hh ha z zn q M) hl.1 rfl 0 (pPg_0 _ _ _) rfl rfl (Nat.le_of_ble_eq_true rfl) dX8_count_137 (fun H locs hP hS => ?_)
                  obtain ⟨er, eM⟩ := pr_use hF
                  exact rt_I hx hb hr hlocks hS (by rw [← eM]; exact hP) er dX8_count_140
                · have hF := it_f hF c15
                  refine lv_tableOut (x := x1) (tgt := 141) hx hb dX8_count_47 (sw_out6 c5 c7 c9 c11 c13 c15) (by decide) ?_
                  refine lv_iconst (v := (-1)) hx hb dX8_count_141 (by decide) ?_
                  obtain ⟨er, eM⟩ := pr_use hF
                  exact rt_I hx hb hr hlocks hS (by rw [← eM]; exact hP) er dX8_count_142
    · have hF := it_f hF c4
      refine lv_aload_n hx hb dX8_count_34 rfl (lv_at hl 0 rfl) ?_
      refine va_get (ci := 8) (v := .ref (zn 1)) (C := RX8) (T := TX8) (N := 6) hx hb htb kin8 hown hK hP 0 (pXX_0 cI cS xx xd xo hh ha z zn q M) rfl 1 (by decide) (htb _ bw1_206) (fun _ h9 => h9) rfl dX8_count_35 ?_
      refine lv_iload_n hx hb dX8_count_38 rfl (lv_at hl 1 rfl) ?_
      refine lv_bipush (v := 11) hx hb dX8_count_39 (by decide) ?_
      refine lv_isub hx hb dX8_count_41 ?_
      obtain ⟨r17, hr17, hF⟩ := bd_use hF
      refine cl_VI ⟨hx, hb, hml, hown, htb⟩ (kX7_bookingsInState l D cS g cI (fun k => zn (1 + k)) (M.1.1) (x1 - 11) _ hr17) (cwV 1 htb (gX7_bookingsInState bw1_239) rfl rfl rfl hdX7_bookingsInState ⟨Nat.le_of_ble_eq_true rfl, Nat.le_of_ble_eq_true rfl⟩) hK (hDa _) hG hA hP hS (sr_XX_Vn cI cS xx xd xo hh ha z zn q M) hl.1 rfl 0 (pVn_0 _ _ _) rfl rfl (Nat.le_of_ble_eq_true rfl) dX8_count_42 (fun H locs hP hS => ?_)
      obtain ⟨er, eM⟩ := pr_use hF
      exact rt_I hx hb hr hlocks hS (by rw [← eM]; exact hP) er dX8_count_45
  · have hF := it_f hF c2
    refine lv_aload_n hx hb dX8_count_11 rfl (lv_at hl 0 rfl) ?_
    refine va_get (ci := 8) (v := .ref (zn 1)) (C := RX8) (T := TX8) (N := 6) hx hb htb kin8 hown hK hP 0 (pXX_0 cI cS xx xd xo hh ha z zn q M) rfl 1 (by decide) (htb _ bw1_206) (fun _ h9 => h9) rfl dX8_count_12 ?_
    refine lv_iload_n hx hb dX8_count_15 rfl (lv_at hl 1 rfl) ?_
    refine lv_bipush (v := 6) hx hb dX8_count_16 (by decide) ?_
    refine lv_isub hx hb dX8_count_18 ?_
    obtain ⟨r18, hr18, hF⟩ := bd_use hF
    refine cl_VI ⟨hx, hb, hml, hown, htb⟩ (kX7_setting l D cS g cI (fun k => zn (1 + k)) (M.1.1) (x1 - 6) _ hr18) (cwV 1 htb (gX7_setting bw1_231) rfl rfl rfl hdX7_setting ⟨Nat.le_of_ble_eq_true rfl, Nat.le_of_ble_eq_true rfl⟩) hK (hDa _) hG hA hP hS (sr_XX_Vn cI cS xx xd xo hh ha z zn q M) hl.1 rfl 0 (pVn_0 _ _ _) rfl rfl (Nat.le_of_ble_eq_true rfl) dX8_count_19 (fun H locs hP hS => ?_)
    obtain ⟨er, eM⟩ := pr_use hF
    exact rt_I hx hb hr hlocks hS (by rw [← eM]; exact hP) er dX8_count_22
noncomputable def fX8_room_j56  (M : Xm) (s0 : Int32) : Option (Int32 × Xm) := some (s0, M)
noncomputable def fX8_room  (M : Xm) (x1 : Int32) (x2 : Int32) : Option (Int32 × Xm) := (fX6_has 44 4 11 (M.1.1.1) x1).bind fun r1 => if r1 = 0 then (some ((-1), M)) else ((fX8_inRange x2 0 11).bind fun r3 => if r3 = 0 then (some ((-1), M)) else (if x2 = 11 then ((fX7_nextBooked (M.1.1) x1 (-1)).bind fun r7 => fX8_room_j56 M r7) else ((fX6_cell 44 4 11 (M.1.1.1) x1 x2).bind fun r6 => fX8_room_j56 M r6)))
abbrev vX8_room : List Cond := Cond.code yX8_room cX8_room 3 (some .int) :: BIG
theorem gX8_room {own : String} {idx : Nat} (h : (Cond.methodLink own idx yX8_room) ∈ BIG) : GoodIn BIG (wsV own idx RX8 yX8_room vX8_room) := gdV h bw3_29 bw3_30 bw1_1 bw3_31
def rmX8_room : Room := { frames := 2, cells := 0, slots := 0, locals := 51 }
theorem hdX8_room : yX8_room.cls = RX8 ∧ yX8_room.cls ≠ "java/lang/invoke/MethodHandle" ∧ yX8_room.cls ≠ "java/lang/invoke/VarHandle" ∧ (parseMethodDescriptor yX8_room.desc).map (fun d => d.parameters.length) = some 2 := by decide +kernel
set_option maxHeartbeats 4000000 in
set_option maxRecDepth 100000 in
theorem kX8_room (l : Launch) (D : va_G) (cS : ClassId) (g : Nat → Nat) (cI : ClassId) (xx xd xo hh ha : Nat) (z : Nat → Nat → Nat) (zn q : Nat → Nat) (M : Xm) (x1 : Int32) (x2 : Int32) (r : Int32) (M' : Xm) (hF : fX8_room M x1 x2 = some (r, M')) : mI l yX8_room vX8_room rmX8_room D cI cS g [.ref xx, .int x1, .int x2] (wXX cI cS xx xd xo hh ha z zn q M) r (wXX cI cS xx xd xo hh ha z zn q (M')) := by
  refine st_I rfl (by decide) (Nat.le_of_ble_eq_true rfl) ?_
  intro p e s m args below meth c A ls hx hb hr hml hlocks hown hts hA hK hD0 hG hP hS hl
  have hown : s.vm.findClass RX8 = some m.cls := hown
  have hDa : ∀ M, va_D A (wXX cI cS xx xd xo hh ha z zn q M) := fun M => hD0.adr (adr_XX _ _ _ _ _ _ _ _ _ _ _ _)
  have htb : ∀ w ∈ BIG, w.before args s = true := fun w h => hts w (List.mem_cons_of_mem _ h)
  have hl : lv_has ls 3 [(0, .ref xx), (1, .int x1), (2, .int x2)] := hl
  have j56 : ∀ (M : Xm) (s0 : Int32) (H : Heap) (locs : List Loc) (ls : Array Slot), fX8_room_j56 M s0 = some (r, M') → va_P D vwCl (wXX cI cS xx xd xo hh ha z zn q M) H → va_S A s.heap H locs → lv_has ls 3 [] → W p l e rmX8_room s m args below meth c H locs 0 0 (MQ below (qI D r (wXX cI cS xx xd xo hh ha z zn q (M')) A) args s 0 0 A) (F0 m 56 ls [.int s0]) := by
    intro M s0 H locs ls hF hP hS hl
    obtain ⟨er, eM⟩ := pr_use hF
    exact rt_I hx hb hr hlocks hS (by rw [← eM]; exact hP) er dX8_room_56
  refine lv_aload_n hx hb dX8_room_0 rfl (lv_at hl 0 rfl) ?_
  refine va_get (ci := 8) (v := .ref (zn 1)) (C := RX8) (T := TX8) (N := 6) hx hb htb kin8 hown hK hP 0 (pXX_0 cI cS xx xd xo hh ha z zn q M) rfl 1 (by decide) (htb _ bw1_206) (fun _ h9 => h9) rfl dX8_room_1 ?_
  refine va_get (ci := 7) (v := .ref (zn 2)) (C := RX7) (T := TX7) (N := 6) hx hb htb kin7 hown hK hP 2 (pXX_2 cI cS xx xd xo hh ha z zn q M) rfl 0 (by decide) (htb _ bw1_73) (fun _ h9 => h9) rfl dX8_room_4 ?_
  refine lv_iload_n hx hb dX8_room_7 rfl (lv_at hl 1 rfl) ?_
  obtain ⟨r1, hr1, hF⟩ := bd_use hF
  refine cl_VI ⟨hx, hb, hml, hown, htb⟩ (kX6_has l D cS g cI (zn 2) (zn 3) 44 4 11 (M.1.1.1) x1 _ hr1) (cwV 1 htb (gX6_has bw3_32) rfl rfl rfl hdX6_has ⟨Nat.le_of_ble_eq_true rfl, Nat.le_of_ble_eq_true rfl⟩) hK (hDa _) hG hA hP hS (sr_XX_rooms cI cS xx xd xo hh ha z zn q M) hl.1 rfl 0 (pTb_0 _ _ _ _ _ _ _) rfl rfl (Nat.le_of_ble_eq_true rfl) dX8_room_8 (fun H locs hP hS => ?_)
  refine lv_if_eq (tgt := 24) hx hb dX8_room_11 (by decide) (fun c2 => ?_) (fun c2 => ?_)
  · have hF := it_t hF c2
    refine lv_iconst (v := (-1)) hx hb dX8_room_24 (by decide) ?_
    obtain ⟨er, eM⟩ := pr_use hF
    exact rt_I hx hb hr hlocks hS (by rw [← eM]; exact hP) er dX8_room_25
  · have hF := it_f hF c2
    refine lv_iload_n hx hb dX8_room_14 rfl (lv_at hl 2 rfl) ?_
    refine lv_iconst (v := 0) hx hb dX8_room_15 (by decide) ?_
    refine lv_bipush (v := 11) hx hb dX8_room_16 (by decide) ?_
    obtain ⟨r3, hr3, hF⟩ := bd_use hF
    refine cl_SI ⟨hx, hb, hml, hown, htb⟩ (kX8_inRange l D cS g cI x2 0 11 _ hr3) (va_cwS 3 htb (gX8_inRange bw1_228) rfl rfl rfl hdX8_inRange ⟨Nat.le_of_ble_eq_true rfl, Nat.le_of_ble_eq_true rfl⟩) hK (hDa _) hG hA hP hS sg_nil hl.1 rfl rfl (Nat.le_of_ble_eq_true rfl) dX8_room_18 (fun H locs hP hS => ?_)
    refine lv_if_ne (tgt := 26) hx hb dX8_room_21 (by decide) (fun c4 => ?_) (fun c4 => ?_)
    · have hF := it_f hF c4
      refine lv_iload_n hx hb dX8_room_26 rfl (lv_at hl 2 rfl) ?_
      refine lv_bipush (v := 11) hx hb dX8_room_27 (by decide) ?_
      refine lv_icmp_ne (tgt := 44) hx hb dX8_room_29 (by decide) (fun c5 => ?_) (fun c5 => ?_)
      · have hF := it_f hF c5
        refine lv_aload_n hx hb dX8_room_44 rfl (lv_at hl 0 rfl) ?_
        refine va_get (ci := 8) (v := .ref (zn 1)) (C := RX8) (T := TX8) (N := 6) hx hb htb kin8 hown hK hP 0 (pXX_0 cI cS xx xd xo hh ha z zn q M) rfl 1 (by decide) (htb _ bw1_206) (fun _ h9 => h9) rfl dX8_room_45 ?_
        refine va_get (ci := 7) (v := .ref (zn 2)) (C := RX7) (T := TX7) (N := 6) hx hb htb kin7 hown hK hP 2 (pXX_2 cI cS xx xd xo hh ha z zn q M) rfl 0 (by decide) (htb _ bw1_73) (fun _ h9 => h9) rfl dX8_room_48 ?_
        refine lv_iload_n hx hb dX8_room_51 rfl (lv_at hl 1 rfl) ?_
        refine lv_iload_n hx hb dX8_room_52 rfl (lv_at hl 2 rfl) ?_
        obtain ⟨r6, hr6, hF⟩ := bd_use hF
        refine cl_VI ⟨hx, hb, hml, hown, htb⟩ (kX6_cell l D cS g cI (zn 2) (zn 3) 44 4 11 (M.1.1.1) x1 x2 _ hr6) (cwV 2 htb (gX6_cell bw3_34) rfl rfl rfl hdX6_cell ⟨Nat.le_of_ble_eq_true rfl, Nat.le_of_ble_eq_true rfl⟩) hK (hDa _) hG hA hP hS (sr_XX_rooms cI cS xx xd xo hh ha z zn q M) hl.1 rfl 0 (pTb_0 _ _ _ _ _ _ _) rfl rfl (Nat.le_of_ble_eq_true rfl) dX8_room_53 (fun H locs hP hS => ?_)
        exact j56 M r6 _ _ _ hF hP hS (lv_sub hl [] rfl)
      · have hF := it_t hF c5
        refine lv_aload_n hx hb dX8_room_32 rfl (lv_at hl 0 rfl) ?_
        refine va_get (ci := 8) (v := .ref (zn 1)) (C := RX8) (T := TX8) (N := 6) hx hb htb kin8 hown hK hP 0 (pXX_0 cI cS xx xd xo hh ha z zn q M) rfl 1 (by decide) (htb _ bw1_206) (fun _ h9 => h9) rfl dX8_room_33 ?_
        refine lv_iload_n hx hb dX8_room_36 rfl (lv_at hl 1 rfl) ?_
        refine lv_iconst (v := (-1)) hx hb dX8_room_37 (by decide) ?_
        obtain ⟨r7, hr7, hF⟩ := bd_use hF
        refine cl_VI ⟨hx, hb, hml, hown, htb⟩ (kX7_nextBooked l D cS g cI (fun k => zn (1 + k)) (M.1.1) x1 (-1) _ hr7) (cwV 2 htb (gX7_nextBooked bw3_33) rfl rfl rfl hdX7_nextBooked ⟨Nat.le_of_ble_eq_true rfl, Nat.le_of_ble_eq_true rfl⟩) hK (hDa _) hG hA hP hS (sr_XX_Vn cI cS xx xd xo hh ha z zn q M) hl.1 rfl 0 (pVn_0 _ _ _) rfl rfl (Nat.le_of_ble_eq_true rfl) dX8_room_38 (fun H locs hP hS => ?_)
        refine lv_goto (tgt := 56) hx hb dX8_room_41 (by decide) ?_
        exact j56 M r7 _ _ _ hF hP hS (lv_sub hl [] rfl)
    · have hF := it_t hF c4
      refine lv_iconst (v := (-1)) hx hb dX8_room_24 (by decide) ?_
      obtain ⟨er, eM⟩ := pr_use hF
      exact rt_I hx hb hr hlocks hS (by rw [← eM]; exact hP) er dX8_room_25
noncomputable def fX8_booking  (M : Xm) (x1 : Int32) (x2 : Int32) : Option (Int32 × Xm) := (fX6_has 160 16 10 (M.1.1.2.1) x1).bind fun r1 => if r1 = 0 then (some ((-1), M)) else ((fX8_inRange x2 0 10).bind fun r3 => if r3 = 0 then (some ((-1), M)) else (if x2 = 6 then ((fX7_paidByVouchers (M.1.1) x1).bind fun r6 => some (r6, M)) else (if x2 = 10 then ((fX7_paymentsLeft (M.1.1) x1).bind fun r8 => some (r8, M)) else ((fX6_cell 160 16 10 (M.1.1.2.1) x1 x2).bind fun r9 => some (r9, M)))))
abbrev vX8_booking : List Cond := Cond.code yX8_booking cX8_booking 3 (some .int) :: BIG
theorem gX8_booking {own : String} {idx : Nat} (h : (Cond.methodLink own idx yX8_booking) ∈ BIG) : GoodIn BIG (wsV own idx RX8 yX8_booking vX8_booking) := gdV h bw3_36 bw3_37 bw1_1 bw3_38
def rmX8_booking : Room := { frames := 2, cells := 0, slots := 0, locals := 47 }
theorem hdX8_booking : yX8_booking.cls = RX8 ∧ yX8_booking.cls ≠ "java/lang/invoke/MethodHandle" ∧ yX8_booking.cls ≠ "java/lang/invoke/VarHandle" ∧ (parseMethodDescriptor yX8_booking.desc).map (fun d => d.parameters.length) = some 2 := by decide +kernel
set_option maxHeartbeats 4000000 in
set_option maxRecDepth 100000 in
theorem kX8_booking (l : Launch) (D : va_G) (cS : ClassId) (g : Nat → Nat) (cI : ClassId) (xx xd xo hh ha : Nat) (z : Nat → Nat → Nat) (zn q : Nat → Nat) (M : Xm) (x1 : Int32) (x2 : Int32) (r : Int32) (M' : Xm) (hF : fX8_booking M x1 x2 = some (r, M')) : mI l yX8_booking vX8_booking rmX8_booking D cI cS g [.ref xx, .int x1, .int x2] (wXX cI cS xx xd xo hh ha z zn q M) r (wXX cI cS xx xd xo hh ha z zn q (M')) := by
  refine st_I rfl (by decide) (Nat.le_of_ble_eq_true rfl) ?_
  intro p e s m args below meth c A ls hx hb hr hml hlocks hown hts hA hK hD0 hG hP hS hl
  have hown : s.vm.findClass RX8 = some m.cls := hown
  have hDa : ∀ M, va_D A (wXX cI cS xx xd xo hh ha z zn q M) := fun M => hD0.adr (adr_XX _ _ _ _ _ _ _ _ _ _ _ _)
  have htb : ∀ w ∈ BIG, w.before args s = true := fun w h => hts w (List.mem_cons_of_mem _ h)
  have hl : lv_has ls 3 [(0, .ref xx), (1, .int x1), (2, .int x2)] := hl
  refine lv_aload_n hx hb dX8_booking_0 rfl (lv_at hl 0 rfl) ?_
  refine va_get (ci := 8) (v := .ref (zn 1)) (C := RX8) (T := TX8) (N := 6) hx hb htb kin8 hown hK hP 0 (pXX_0 cI cS xx xd xo hh ha z zn q M) rfl 1 (by decide) (htb _ bw1_206) (fun _ h9 => h9) rfl dX8_booking_1 ?_
  refine va_get (ci := 7) (v := .ref (zn 4)) (C := RX7) (T := TX7) (N := 6) hx hb htb kin7 hown hK hP 2 (pXX_2 cI cS xx xd xo hh ha z zn q M) rfl 1 (by decide) (htb _ bw1_77) (fun _ h9 => h9) rfl dX8_booking_4 ?_
  refine lv_iload_n hx hb dX8_booking_7 rfl (lv_at hl 1 rfl) ?_
  obtain ⟨r1, hr1, hF⟩ := bd_use hF
  refine cl_VI ⟨hx, hb, hml, hown, htb⟩ (kX6_has l D cS g cI (zn 4) (zn 5) 160 16 10 (M.1.1.2.1) x1 _ hr1) (cwV 1 htb (gX6_has bw3_32) rfl rfl rfl hdX6_has ⟨Nat.le_of_ble_eq_true rfl, Nat.le_of_ble_eq_true rfl⟩) hK (hDa _) hG hA hP hS (sr_XX_bookings cI cS xx xd xo hh ha z zn q M) hl.1 rfl 0 (pTb_0 _ _ _ _ _ _ _) rfl rfl (Nat.le_of_ble_eq_true rfl) dX8_booking_8 (fun H locs hP hS => ?_)
  refine lv_if_eq (tgt := 24) hx hb dX8_booking_11 (by decide) (fun c2 => ?_) (fun c2 => ?_)
  · have hF := it_t hF c2
    refine lv_iconst (v := (-1)) hx hb dX8_booking_24 (by decide) ?_
    obtain ⟨er, eM⟩ := pr_use hF
    exact rt_I hx hb hr hlocks hS (by rw [← eM]; exact hP) er dX8_booking_25
  · have hF := it_f hF c2
    refine lv_iload_n hx hb dX8_booking_14 rfl (lv_at hl 2 rfl) ?_
    refine lv_iconst (v := 0) hx hb dX8_booking_15 (by decide) ?_
    refine lv_bipush (v := 10) hx hb dX8_booking_16 (by decide) ?_
    obtain ⟨r3, hr3, hF⟩ := bd_use hF
    refine cl_SI ⟨hx, hb, hml, hown, htb⟩ (kX8_inRange l D cS g cI x2 0 10 _ hr3) (va_cwS 3 htb (gX8_inRange bw1_228) rfl rfl rfl hdX8_inRange ⟨Nat.le_of_ble_eq_true rfl, Nat.le_of_ble_eq_true rfl⟩) hK (hDa _) hG hA hP hS sg_nil hl.1 rfl rfl (Nat.le_of_ble_eq_true rfl) dX8_booking_18 (fun H locs hP hS => ?_)
    refine lv_if_ne (tgt := 26) hx hb dX8_booking_21 (by decide) (fun c4 => ?_) (fun c4 => ?_)
    · have hF := it_f hF c4
      refine lv_iload_n hx hb dX8_booking_26 rfl (lv_at hl 2 rfl) ?_
      by_cases c5 : x2 = 6
      · have hF := it_t hF c5
        refine lv_lookup (x := x2) (off := 25) (tgt := 52) hx hb dX8_booking_27 (by decide) (by rw [c5]; decide) (by decide) ?_
        refine lv_aload_n hx hb dX8_booking_52 rfl (lv_at hl 0 rfl) ?_
        refine va_get (ci := 8) (v := .ref (zn 1)) (C := RX8) (T := TX8) (N := 6) hx hb htb kin8 hown hK hP 0 (pXX_0 cI cS xx xd xo hh ha z zn q M) rfl 1 (by decide) (htb _ bw1_206) (fun _ h9 => h9) rfl dX8_booking_53 ?_
        refine lv_iload_n hx hb dX8_booking_56 rfl (lv_at hl 1 rfl) ?_
        obtain ⟨r6, hr6, hF⟩ := bd_use hF
        refine cl_VI ⟨hx, hb, hml, hown, htb⟩ (kX7_paidByVouchers l D cS g cI (fun k => zn (1 + k)) (M.1.1) x1 _ hr6) (cwV 1 htb (gX7_paidByVouchers bw3_39) rfl rfl rfl hdX7_paidByVouchers ⟨Nat.le_of_ble_eq_true rfl, Nat.le_of_ble_eq_true rfl⟩) hK (hDa _) hG hA hP hS (sr_XX_Vn cI cS xx xd xo hh ha z zn q M) hl.1 rfl 0 (pVn_0 _ _ _) rfl rfl (Nat.le_of_ble_eq_true rfl) dX8_booking_57 (fun H locs hP hS => ?_)
        obtain ⟨er, eM⟩ := pr_use hF
        exact rt_I hx hb hr hlocks hS (by rw [← eM]; exact hP) er dX8_booking_60
      · have hF := it_f hF c5
        by_cases c7 : x2 = 10
        · have hF := it_t hF c7
          refine lv_lookup (x := x2) (off := 34) (tgt := 61) hx hb dX8_booking_27 (by decide) (by rw [c7]; decide) (by decide) ?_
          refine lv_aload_n hx hb dX8_booking_61 rfl (lv_at hl 0 rfl) ?_
          refine va_get (ci := 8) (v := .ref (zn 1)) (C := RX8) (T := TX8) (N := 6) hx hb htb kin8 hown hK hP 0 (pXX_0 cI cS xx xd xo hh ha z zn q M) rfl 1 (by decide) (htb _ bw1_206) (fun _ h9 => h9) rfl dX8_booking_62 ?_
          refine lv_iload_n hx hb dX8_booking_65 rfl (lv_at hl 1 rfl) ?_
          obtain ⟨r8, hr8, hF⟩ := bd_use hF
          refine cl_VI ⟨hx, hb, hml, hown, htb⟩ (kX7_paymentsLeft l D cS g cI (fun k => zn (1 + k)) (M.1.1) x1 _ hr8) (cwV 1 htb (gX7_paymentsLeft bw3_40) rfl rfl rfl hdX7_paymentsLeft ⟨Nat.le_of_ble_eq_true rfl, Nat.le_of_ble_eq_true rfl⟩) hK (hDa _) hG hA hP hS (sr_XX_Vn cI cS xx xd xo hh ha z zn q M) hl.1 rfl 0 (pVn_0 _ _ _) rfl rfl (Nat.le_of_ble_eq_true rfl) dX8_booking_66 (fun H locs hP hS => ?_)
          obtain ⟨er, eM⟩ := pr_use hF
          exact rt_I hx hb hr hlocks hS (by rw [← eM]; exact hP) er dX8_booking_69
        · have hF := it_f hF c7
          refine lv_lookup (x := x2) (off := 43) (tgt := 70) hx hb dX8_booking_27 (by decide) (sw_lk2 (by decide) (by decide) c5 c7) (by decide) ?_
          refine lv_aload_n hx hb dX8_booking_70 rfl (lv_at hl 0 rfl) ?_
          refine va_get (ci := 8) (v := .ref (zn 1)) (C := RX8) (T := TX8) (N := 6) hx hb htb kin8 hown hK hP 0 (pXX_0 cI cS xx xd xo hh ha z zn q M) rfl 1 (by decide) (htb _ bw1_206) (fun _ h9 => h9) rfl dX8_booking_71 ?_
          refine va_get (ci := 7) (v := .ref (zn 4)) (C := RX7) (T := TX7) (N := 6) hx hb htb kin7 hown hK hP 2 (pXX_2 cI cS xx xd xo hh ha z zn q M) rfl 1 (by decide) (htb _ bw1_77) (fun _ h9 => h9) rfl dX8_booking_74 ?_
          refine lv_iload_n hx hb dX8_booking_77 rfl (lv_at hl 1 rfl) ?_
          refine lv_iload_n hx hb dX8_booking_78 rfl (lv_at hl 2 rfl) ?_
          obtain ⟨r9, hr9, hF⟩ := bd_use hF
          refine cl_VI ⟨hx, hb, hml, hown, htb⟩ (kX6_cell l D cS g cI (zn 4) (zn 5) 160 16 10 (M.1.1.2.1) x1 x2 _ hr9) (cwV 2 htb (gX6_cell bw3_34) rfl rfl rfl hdX6_cell ⟨Nat.le_of_ble_eq_true rfl, Nat.le_of_ble_eq_true rfl⟩) hK (hDa _) hG hA hP hS (sr_XX_bookings cI cS xx xd xo hh ha z zn q M) hl.1 rfl 0 (pTb_0 _ _ _ _ _ _ _) rfl rfl (Nat.le_of_ble_eq_true rfl) dX8_booking_79 (fun H locs hP hS => ?_)
          obtain ⟨er, eM⟩ := pr_use hF
          exact rt_I hx hb hr hlocks hS (by rw [← eM]; exact hP) er dX8_booking_82
    · have hF := it_t hF c4
      refine lv_iconst (v := (-1)) hx hb dX8_booking_24 (by decide) ?_
      obtain ⟨er, eM⟩ := pr_use hF
      exact rt_I hx hb hr hlocks hS (by rw [← eM]; exact hP) er dX8_booking_25
noncomputable def fX8_voucher_j53  (M : Xm) (s0 : Int32) : Option (Int32 × Xm) := some (s0, M)
noncomputable def fX8_voucher  (M : Xm) (x1 : Int32) (x2 : Int32) : Option (Int32 × Xm) := (fX6_has 16 8 2 (M.1.1.2.2.1) x1).bind fun r1 => if r1 = 0 then (some ((-1), M)) else ((fX8_inRange x2 0 2).bind fun r3 => if r3 = 0 then (some ((-1), M)) else (if x2 = 2 then ((fX7_bookingsPaidWith (M.1.1) x1).bind fun r7 => fX8_voucher_j53 M r7) else ((fX6_cell 16 8 2 (M.1.1.2.2.1) x1 x2).bind fun r6 => fX8_voucher_j53 M r6)))
abbrev vX8_voucher : List Cond := Cond.code yX8_voucher cX8_voucher 3 (some .int) :: BIG
theorem gX8_voucher {own : String} {idx : Nat} (h : (Cond.methodLink own idx yX8_voucher) ∈ BIG) : GoodIn BIG (wsV own idx RX8 yX8_voucher vX8_voucher) := gdV h bw3_42 bw3_43 bw1_1 bw3_44
def rmX8_voucher : Room := { frames := 3, cells := 0, slots := 0, locals := 70 }
theorem hdX8_voucher : yX8_voucher.cls = RX8 ∧ yX8_voucher.cls ≠ "java/lang/invoke/MethodHandle" ∧ yX8_voucher.cls ≠ "java/lang/invoke/VarHandle" ∧ (parseMethodDescriptor yX8_voucher.desc).map (fun d => d.parameters.length) = some 2 := by decide +kernel
set_option maxHeartbeats 4000000 in
set_option maxRecDepth 100000 in
theorem kX8_voucher (l : Launch) (D : va_G) (cS : ClassId) (g : Nat → Nat) (cI : ClassId) (xx xd xo hh ha : Nat) (z : Nat → Nat → Nat) (zn q : Nat → Nat) (M : Xm) (x1 : Int32) (x2 : Int32) (r : Int32) (M' : Xm) (hF : fX8_voucher M x1 x2 = some (r, M')) : mI l yX8_voucher vX8_voucher rmX8_voucher D cI cS g [.ref xx, .int x1, .int x2] (wXX cI cS xx xd xo hh ha z zn q M) r (wXX cI cS xx xd xo hh ha z zn q (M')) := by
  refine st_I rfl (by decide) (Nat.le_of_ble_eq_true rfl) ?_
  intro p e s m args below meth c A ls hx hb hr hml hlocks hown hts hA hK hD0 hG hP hS hl
  have hown : s.vm.findClass RX8 = some m.cls := hown
  have hDa : ∀ M, va_D A (wXX cI cS xx xd xo hh ha z zn q M) := fun M => hD0.adr (adr_XX _ _ _ _ _ _ _ _ _ _ _ _)
  have htb : ∀ w ∈ BIG, w.before args s = true := fun w h => hts w (List.mem_cons_of_mem _ h)
  have hl : lv_has ls 3 [(0, .ref xx), (1, .int x1), (2, .int x2)] := hl
  have j53 : ∀ (M : Xm) (s0 : Int32) (H : Heap) (locs : List Loc) (ls : Array Slot), fX8_voucher_j53 M s0 = some (r, M') → va_P D vwCl (wXX cI cS xx xd xo hh ha z zn q M) H → va_S A s.heap H locs → lv_has ls 3 [] → W p l e rmX8_voucher s m args below meth c H locs 0 0 (MQ below (qI D r (wXX cI cS xx xd xo hh ha z zn q (M')) A) args s 0 0 A) (F0 m 53 ls [.int s0]) := by
    intro M s0 H locs ls hF hP hS hl
    obtain ⟨er, eM⟩ := pr_use hF
    exact rt_I hx hb hr hlocks hS (by rw [← eM]; exact hP) er dX8_voucher_53
  refine lv_aload_n hx hb dX8_voucher_0 rfl (lv_at hl 0 rfl) ?_
  refine va_get (ci := 8) (v := .ref (zn 1)) (C := RX8) (T := TX8) (N := 6) hx hb htb kin8 hown hK hP 0 (pXX_0 cI cS xx xd xo hh ha z zn q M) rfl 1 (by decide) (htb _ bw1_206) (fun _ h9 => h9) rfl dX8_voucher_1 ?_
  refine va_get (ci := 7) (v := .ref (zn 6)) (C := RX7) (T := TX7) (N := 6) hx hb htb kin7 hown hK hP 2 (pXX_2 cI cS xx xd xo hh ha z zn q M) rfl 2 (by decide) (htb _ bw1_80) (fun _ h9 => h9) rfl dX8_voucher_4 ?_
  refine lv_iload_n hx hb dX8_voucher_7 rfl (lv_at hl 1 rfl) ?_
  obtain ⟨r1, hr1, hF⟩ := bd_use hF
  refine cl_VI ⟨hx, hb, hml, hown, htb⟩ (kX6_has l D cS g cI (zn 6) (zn 7) 16 8 2 (M.1.1.2.2.1) x1 _ hr1) (cwV 1 htb (gX6_has bw3_32) rfl rfl rfl hdX6_has ⟨Nat.le_of_ble_eq_true rfl, Nat.le_of_ble_eq_true rfl⟩) hK (hDa _) hG hA hP hS (sr_XX_vouchers cI cS xx xd xo hh ha z zn q M) hl.1 rfl 0 (pTb_0 _ _ _ _ _ _ _) rfl rfl (Nat.le_of_ble_eq_true rfl) dX8_voucher_8 (fun H locs hP hS => ?_)
  refine lv_if_eq (tgt := 23) hx hb dX8_voucher_11 (by decide) (fun c2 => ?_) (fun c2 => ?_)
  · have hF := it_t hF c2
    refine lv_iconst (v := (-1)) hx hb dX8_voucher_23 (by decide) ?_
    obtain ⟨er, eM⟩ := pr_use hF
    exact rt_I hx hb hr hlocks hS (by rw [← eM]; exact hP) er dX8_voucher_24
  · have hF := it_f hF c2
    refine lv_iload_n hx hb dX8_voucher_14 rfl (lv_at hl 2 rfl) ?_
    refine lv_iconst (v := 0) hx hb dX8_voucher_15 (by decide) ?_
    refine lv_iconst (v := 2) hx hb dX8_voucher_16 (by decide) ?_
    obtain ⟨r3, hr3, hF⟩ := bd_use hF
    refine cl_SI ⟨hx, hb, hml, hown, htb⟩ (kX8_inRange l D cS g cI x2 0 2 _ hr3) (va_cwS 3 htb (gX8_inRange bw1_228) rfl rfl rfl hdX8_inRange ⟨Nat.le_of_ble_eq_true rfl, Nat.le_of_ble_eq_true rfl⟩) hK (hDa _) hG hA hP hS sg_nil hl.1 rfl rfl (Nat.le_of_ble_eq_true rfl) dX8_voucher_17 (fun H locs hP hS => ?_)
    refine lv_if_ne (tgt := 25) hx hb dX8_voucher_20 (by decide) (fun c4 => ?_) (fun c4 => ?_)
    · have hF := it_f hF c4
      refine lv_iload_n hx hb dX8_voucher_25 rfl (lv_at hl 2 rfl) ?_
      refine lv_iconst (v := 2) hx hb dX8_voucher_26 (by decide) ?_
      refine lv_icmp_ne (tgt := 41) hx hb dX8_voucher_27 (by decide) (fun c5 => ?_) (fun c5 => ?_)
      · have hF := it_f hF c5
        refine lv_aload_n hx hb dX8_voucher_41 rfl (lv_at hl 0 rfl) ?_
        refine va_get (ci := 8) (v := .ref (zn 1)) (C := RX8) (T := TX8) (N := 6) hx hb htb kin8 hown hK hP 0 (pXX_0 cI cS xx xd xo hh ha z zn q M) rfl 1 (by decide) (htb _ bw1_206) (fun _ h9 => h9) rfl dX8_voucher_42 ?_
        refine va_get (ci := 7) (v := .ref (zn 6)) (C := RX7) (T := TX7) (N := 6) hx hb htb kin7 hown hK hP 2 (pXX_2 cI cS xx xd xo hh ha z zn q M) rfl 2 (by decide) (htb _ bw1_80) (fun _ h9 => h9) rfl dX8_voucher_45 ?_
        refine lv_iload_n hx hb dX8_voucher_48 rfl (lv_at hl 1 rfl) ?_
        refine lv_iload_n hx hb dX8_voucher_49 rfl (lv_at hl 2 rfl) ?_
        obtain ⟨r6, hr6, hF⟩ := bd_use hF
        refine cl_VI ⟨hx, hb, hml, hown, htb⟩ (kX6_cell l D cS g cI (zn 6) (zn 7) 16 8 2 (M.1.1.2.2.1) x1 x2 _ hr6) (cwV 2 htb (gX6_cell bw3_34) rfl rfl rfl hdX6_cell ⟨Nat.le_of_ble_eq_true rfl, Nat.le_of_ble_eq_true rfl⟩) hK (hDa _) hG hA hP hS (sr_XX_vouchers cI cS xx xd xo hh ha z zn q M) hl.1 rfl 0 (pTb_0 _ _ _ _ _ _ _) rfl rfl (Nat.le_of_ble_eq_true rfl) dX8_voucher_50 (fun H locs hP hS => ?_)
        exact j53 M r6 _ _ _ hF hP hS (lv_sub hl [] rfl)
      · have hF := it_t hF c5
        refine lv_aload_n hx hb dX8_voucher_30 rfl (lv_at hl 0 rfl) ?_
        refine va_get (ci := 8) (v := .ref (zn 1)) (C := RX8) (T := TX8) (N := 6) hx hb htb kin8 hown hK hP 0 (pXX_0 cI cS xx xd xo hh ha z zn q M) rfl 1 (by decide) (htb _ bw1_206) (fun _ h9 => h9) rfl dX8_voucher_31 ?_
        refine lv_iload_n hx hb dX8_voucher_34 rfl (lv_at hl 1 rfl) ?_
        obtain ⟨r7, hr7, hF⟩ := bd_use hF
        refine cl_VI ⟨hx, hb, hml, hown, htb⟩ (kX7_bookingsPaidWith l D cS g cI (fun k => zn (1 + k)) (M.1.1) x1 _ hr7) (cwV 1 htb (gX7_bookingsPaidWith bw3_45) rfl rfl rfl hdX7_bookingsPaidWith ⟨Nat.le_of_ble_eq_true rfl, Nat.le_of_ble_eq_true rfl⟩) hK (hDa _) hG hA hP hS (sr_XX_Vn cI cS xx xd xo hh ha z zn q M) hl.1 rfl 0 (pVn_0 _ _ _) rfl rfl (Nat.le_of_ble_eq_true rfl) dX8_voucher_35 (fun H locs hP hS => ?_)
        refine lv_goto (tgt := 53) hx hb dX8_voucher_38 (by decide) ?_
        exact j53 M r7 _ _ _ hF hP hS (lv_sub hl [] rfl)
    · have hF := it_t hF c4
      refine lv_iconst (v := (-1)) hx hb dX8_voucher_23 (by decide) ?_
      obtain ⟨er, eM⟩ := pr_use hF
      exact rt_I hx hb hr hlocks hS (by rw [← eM]; exact hP) er dX8_voucher_24
noncomputable def fX8_money  (M : Xm) (x1 : Int32) : Option (Int32 × Xm) := if x1 = 0 then (some (M.1.1.2.2.2.2.2, M)) else (if x1 = 1 then ((fX6_total 16 8 2 (M.1.1.2.2.1) 1).bind fun r3 => some (r3, M)) else (if x1 = 2 then ((fX6_total 160 16 10 (M.1.1.2.1) 4).bind fun r5 => some (r5, M)) else (if x1 = 3 then ((fX6_total 160 16 10 (M.1.1.2.1) 7).bind fun r7 => some (r7, M)) else (if x1 = 4 then ((fX6_total 160 16 10 (M.1.1.2.1) 5).bind fun r9 => some (r9, M)) else (if x1 = 5 then ((fX6_total 64 16 4 (M.1.1.2.2.2.1) 2).bind fun r11 => some (r11, M)) else (if x1 = 6 then ((fX6_total 16 8 2 (M.1.1.2.2.1) 0).bind fun r13 => some (r13, M)) else (some ((-1), M))))))))
abbrev vX8_money : List Cond := Cond.code yX8_money cX8_money 2 (some .int) :: BIG
theorem gX8_money {own : String} {idx : Nat} (h : (Cond.methodLink own idx yX8_money) ∈ BIG) : GoodIn BIG (wsV own idx RX8 yX8_money vX8_money) := gdV h bw2_21 bw2_22 bw1_1 bw2_23
def rmX8_money : Room := { frames := 2, cells := 0, slots := 0, locals := 47 }
theorem hdX8_money : yX8_money.cls = RX8 ∧ yX8_money.cls ≠ "java/lang/invoke/MethodHandle" ∧ yX8_money.cls ≠ "java/lang/invoke/VarHandle" ∧ (parseMethodDescriptor yX8_money.desc).map (fun d => d.parameters.length) = some 1 := by decide +kernel
set_option maxHeartbeats 4000000 in
set_option maxRecDepth 100000 in
theorem kX8_money (l : Launch) (D : va_G) (cS : ClassId) (g : Nat → Nat) (cI : ClassId) (xx xd xo hh ha : Nat) (z : Nat → Nat → Nat) (zn q : Nat → Nat) (M : Xm) (x1 : Int32) (r : Int32) (M' : Xm) (hF : fX8_money M x1 = some (r, M')) : mI l yX8_money vX8_money rmX8_money D cI cS g [.ref xx, .int x1] (wXX cI cS xx xd xo hh ha z zn q M) r (wXX cI cS xx xd xo hh ha z zn q (M')) := by
  refine st_I rfl (by decide) (Nat.le_of_ble_eq_true rfl) ?_
  intro p e s m args below meth c A ls hx hb hr hml hlocks hown hts hA hK hD0 hG hP hS hl
  have hown : s.vm.findClass RX8 = some m.cls := hown
  have hDa : ∀ M, va_D A (wXX cI cS xx xd xo hh ha z zn q M) := fun M => hD0.adr (adr_XX _ _ _ _ _ _ _ _ _ _ _ _)
  have htb : ∀ w ∈ BIG, w.before args s = true := fun w h => hts w (List.mem_cons_of_mem _ h)
  have hl : lv_has ls 2 [(0, .ref xx), (1, .int x1)] := hl
  refine lv_iload_n hx hb dX8_money_0 rfl (lv_at hl 1 rfl) ?_
  by_cases c1 : x1 = 0
  · have hF := it_t hF c1
    refine lv_tableIn (x := x1) (off := 43) (tgt := 44) hx hb dX8_money_1 (by rw [c1]; decide) (by rw [c1]; decide) (by rw [c1]; rfl) (by decide) ?_
    refine lv_aload_n hx hb dX8_money_44 rfl (lv_at hl 0 rfl) ?_
    refine va_get (ci := 8) (v := .ref (zn 1)) (C := RX8) (T := TX8) (N := 6) hx hb htb kin8 hown hK hP 0 (pXX_0 cI cS xx xd xo hh ha z zn q M) rfl 1 (by decide) (htb _ bw1_206) (fun _ h9 => h9) rfl dX8_money_45 ?_
    refine va_get (ci := 7) (v := .int (M.1.1.2.2.2.2.2)) (C := RX7) (T := TX7) (N := 6) hx hb htb kin7 hown hK hP 2 (pXX_2 cI cS xx xd xo hh ha z zn q M) rfl 5 (by decide) (htb _ bw1_88) (fun _ h9 => h9) rfl dX8_money_48 ?_
    obtain ⟨er, eM⟩ := pr_use hF
    exact rt_I hx hb hr hlocks hS (by rw [← eM]; exact hP) er dX8_money_51
  · have hF := it_f hF c1
    by_cases c2 : x1 = 1
    · have hF := it_t hF c2
      refine lv_tableIn (x := x1) (off := 51) (tgt := 52) hx hb dX8_money_1 (by rw [c2]; decide) (by rw [c2]; decide) (by rw [c2]; rfl) (by decide) ?_
      refine lv_aload_n hx hb dX8_money_52 rfl (lv_at hl 0 rfl) ?_
      refine va_get (ci := 8) (v := .ref (zn 1)) (C := RX8) (T := TX8) (N := 6) hx hb htb kin8 hown hK hP 0 (pXX_0 cI cS xx xd xo hh ha z zn q M) rfl 1 (by decide) (htb _ bw1_206) (fun _ h9 => h9) rfl dX8_money_53 ?_
      refine va_get (ci := 7) (v := .ref (zn 6)) (C := RX7) (T := TX7) (N := 6) hx hb htb kin7 hown hK hP 2 (pXX_2 cI cS xx xd xo hh ha z zn q M) rfl 2 (by decide) (htb _ bw1_80) (fun _ h9 => h9) rfl dX8_money_56 ?_
      refine lv_iconst (v := 1) hx hb dX8_money_59 (by decide) ?_
      obtain ⟨r3, hr3, hF⟩ := bd_use hF
      refine cl_VI ⟨hx, hb, hml, hown, htb⟩ (kX6_total l D cS g cI (zn 6) (zn 7) 16 8 2 (M.1.1.2.2.1) 1 _ hr3) (cwV 1 htb (gX6_total bw2_24) rfl rfl rfl hdX6_total ⟨Nat.le_of_ble_eq_true rfl, Nat.le_of_ble_eq_true rfl⟩) hK (hDa _) hG hA hP hS (sr_XX_vouchers cI cS xx xd xo hh ha z zn q M) hl.1 rfl 0 (pTb_0 _ _ _ _ _ _ _) rfl rfl (Nat.le_of_ble_eq_true rfl) dX8_money_60 (fun H locs hP hS => ?_)
      obtain ⟨er, eM⟩ := pr_use hF
      exact rt_I hx hb hr hlocks hS (by rw [← eM]; exact hP) er dX8_money_63
    · have hF := it_f hF c2
      by_cases c4 : x1 = 2
      · have hF := it_t hF c4
        refine lv_tableIn (x := x1) (off := 63) (tgt := 64) hx hb dX8_money_1 (by rw [c4]; decide) (by rw [c4]; decide) (by rw [c4]; rfl) (by decide) ?_
        refine lv_aload_n hx hb dX8_money_64 rfl (lv_at hl 0 rfl) ?_
        refine va_get (ci := 8) (v := .ref (zn 1)) (C := RX8) (T := TX8) (N := 6) hx hb htb kin8 hown hK hP 0 (pXX_0 cI cS xx xd xo hh ha z zn q M) rfl 1 (by decide) (htb _ bw1_206) (fun _ h9 => h9) rfl dX8_money_65 ?_
        refine va_get (ci := 7) (v := .ref (zn 4)) (C := RX7) (T := TX7) (N := 6) hx hb htb kin7 hown hK hP 2 (pXX_2 cI cS xx xd xo hh ha z zn q M) rfl 1 (by decide) (htb _ bw1_77) (fun _ h9 => h9) rfl dX8_money_68 ?_
        refine lv_iconst (v := 4) hx hb dX8_money_71 (by decide) ?_
        obtain ⟨r5, hr5, hF⟩ := bd_use hF
        refine cl_VI ⟨hx, hb, hml, hown, htb⟩ (kX6_total l D cS g cI (zn 4) (zn 5) 160 16 10 (M.1.1.2.1) 4 _ hr5) (cwV 1 htb (gX6_total bw2_24) rfl rfl rfl hdX6_total ⟨Nat.le_of_ble_eq_true rfl, Nat.le_of_ble_eq_true rfl⟩) hK (hDa _) hG hA hP hS (sr_XX_bookings cI cS xx xd xo hh ha z zn q M) hl.1 rfl 0 (pTb_0 _ _ _ _ _ _ _) rfl rfl (Nat.le_of_ble_eq_true rfl) dX8_money_72 (fun H locs hP hS => ?_)
        obtain ⟨er, eM⟩ := pr_use hF
        exact rt_I hx hb hr hlocks hS (by rw [← eM]; exact hP) er dX8_money_75
      · have hF := it_f hF c4
        by_cases c6 : x1 = 3
        · have hF := it_t hF c6
          refine lv_tableIn (x := x1) (off := 75) (tgt := 76) hx hb dX8_money_1 (by rw [c6]; decide) (by rw [c6]; decide) (by rw [c6]; rfl) (by decide) ?_
          refine lv_aload_n hx hb dX8_money_76 rfl (lv_at hl 0 rfl) ?_
          refine va_get (ci := 8) (v := .ref (zn 1)) (C := RX8) (T := TX8) (N := 6) hx hb htb kin8 hown hK hP 0 (pXX_0 cI cS xx xd xo hh ha z zn q M) rfl 1 (by decide) (htb _ bw1_206) (fun _ h9 => h9) rfl dX8_money_77 ?_
          refine va_get (ci := 7) (v := .ref (zn 4)) (C := RX7) (T := TX7) (N := 6) hx hb htb kin7 hown hK hP 2 (pXX_2 cI cS xx xd xo hh ha z zn q M) rfl 1 (by decide) (htb _ bw1_77) (fun _ h9 => h9) rfl dX8_money_80 ?_
          refine lv_bipush (v := 7) hx hb dX8_money_83 (by decide) ?_
          obtain ⟨r7, hr7, hF⟩ := bd_use hF
          refine cl_VI ⟨hx, hb, hml, hown, htb⟩ (kX6_total l D cS g cI (zn 4) (zn 5) 160 16 10 (M.1.1.2.1) 7 _ hr7) (cwV 1 htb (gX6_total bw2_24) rfl rfl rfl hdX6_total ⟨Nat.le_of_ble_eq_true rfl, Nat.le_of_ble_eq_true rfl⟩) hK (hDa _) hG hA hP hS (sr_XX_bookings cI cS xx xd xo hh ha z zn q M) hl.1 rfl 0 (pTb_0 _ _ _ _ _ _ _) rfl rfl (Nat.le_of_ble_eq_true rfl) dX8_money_85 (fun H locs hP hS => ?_)
          obtain ⟨er, eM⟩ := pr_use hF
          exact rt_I hx hb hr hlocks hS (by rw [← eM]; exact hP) er dX8_money_88
        · have hF := it_f hF c6
          by_cases c8 : x1 = 4
          · have hF := it_t hF c8
            refine lv_tableIn (x := x1) (off := 88) (tgt := 89) hx hb dX8_money_1 (by rw [c8]; decide) (by rw [c8]; decide) (by rw [c8]; rfl) (by decide) ?_
            refine lv_aload_n hx hb dX8_money_89 rfl (lv_at hl 0 rfl) ?_
            refine va_get (ci := 8) (v := .ref (zn 1)) (C := RX8) (T := TX8) (N := 6) hx hb htb kin8 hown hK hP 0 (pXX_0 cI cS xx xd xo hh ha z zn q M) rfl 1 (by decide) (htb _ bw1_206) (fun _ h9 => h9) rfl dX8_money_90 ?_
            refine va_get (ci := 7) (v := .ref (zn 4)) (C := RX7) (T := TX7) (N := 6) hx hb htb kin7 hown hK hP 2 (pXX_2 cI cS xx xd xo hh ha z zn q M) rfl 1 (by decide) (htb _ bw1_77) (fun _ h9 => h9) rfl dX8_money_93 ?_
            refine lv_iconst (v := 5) hx hb dX8_money_96 (by decide) ?_
            obtain ⟨r9, hr9, hF⟩ := bd_use hF
            refine cl_VI ⟨hx, hb, hml, hown, htb⟩ (kX6_total l D cS g cI (zn 4) (zn 5) 160 16 10 (M.1.1.2.1) 5 _ hr9) (cwV 1 htb (gX6_total bw2_24) rfl rfl rfl hdX6_total ⟨Nat.le_of_ble_eq_true rfl, Nat.le_of_ble_eq_true rfl⟩) hK (hDa _) hG hA hP hS (sr_XX_bookings cI cS xx xd xo hh ha z zn q M) hl.1 rfl 0 (pTb_0 _ _ _ _ _ _ _) rfl rfl (Nat.le_of_ble_eq_true rfl) dX8_money_97 (fun H locs hP hS => ?_)
            obtain ⟨er, eM⟩ := pr_use hF
            exact rt_I hx hb hr hlocks hS (by rw [← eM]; exact hP) er dX8_money_100
          · have hF := it_f hF c8
            by_cases c10 : x1 = 5
            · have hF := it_t hF c10
              refine lv_tableIn (x := x1) (off := 100) (tgt := 101) hx hb dX8_money_1 (by rw [c10]; decide) (by rw [c10]; decide) (by rw [c10]; rfl) (by decide) ?_
              refine lv_aload_n hx hb dX8_money_101 rfl (lv_at hl 0 rfl) ?_
              refine va_get (ci := 8) (v := .ref (zn 1)) (C := RX8) (T := TX8) (N := 6) hx hb htb kin8 hown hK hP 0 (pXX_0 cI cS xx xd xo hh ha z zn q M) rfl 1 (by decide) (htb _ bw1_206) (fun _ h9 => h9) rfl dX8_money_102 ?_
              refine va_get (ci := 7) (v := .ref (zn 8)) (C := RX7) (T := TX7) (N := 6) hx hb htb kin7 hown hK hP 2 (pXX_2 cI cS xx xd xo hh ha z zn q M) rfl 3 (by decide) (htb _ bw1_83) (fun _ h9 => h9) rfl dX8_money_105 ?_
              refine lv_iconst (v := 2) hx hb dX8_money_108 (by decide) ?_
              obtain ⟨r11, hr11, hF⟩ := bd_use hF
              refine cl_VI ⟨hx, hb, hml, hown, htb⟩ (kX6_total l D cS g cI (zn 8) (zn 9) 64 16 4 (M.1.1.2.2.2.1) 2 _ hr11) (cwV 1 htb (gX6_total bw2_24) rfl rfl rfl hdX6_total ⟨Nat.le_of_ble_eq_true rfl, Nat.le_of_ble_eq_true rfl⟩) hK (hDa _) hG hA hP hS (sr_XX_payments cI cS xx xd xo hh ha z zn q M) hl.1 rfl 0 (pTb_0 _ _ _ _ _ _ _) rfl rfl (Nat.le_of_ble_eq_true rfl) dX8_money_109 (fun H locs hP hS => ?_)
              obtain ⟨er, eM⟩ := pr_use hF
              exact rt_I hx hb hr hlocks hS (by rw [← eM]; exact hP) er dX8_money_112
            · have hF := it_f hF c10
              by_cases c12 : x1 = 6
              · have hF := it_t hF c12
                refine lv_tableIn (x := x1) (off := 112) (tgt := 113) hx hb dX8_money_1 (by rw [c12]; decide) (by rw [c12]; decide) (by rw [c12]; rfl) (by decide) ?_
                refine lv_aload_n hx hb dX8_money_113 rfl (lv_at hl 0 rfl) ?_
                refine va_get (ci := 8) (v := .ref (zn 1)) (C := RX8) (T := TX8) (N := 6) hx hb htb kin8 hown hK hP 0 (pXX_0 cI cS xx xd xo hh ha z zn q M) rfl 1 (by decide) (htb _ bw1_206) (fun _ h9 => h9) rfl dX8_money_114 ?_
                refine va_get (ci := 7) (v := .ref (zn 6)) (C := RX7) (T := TX7) (N := 6) hx hb htb kin7 hown hK hP 2 (pXX_2 cI cS xx xd xo hh ha z zn q M) rfl 2 (by decide) (htb _ bw1_80) (fun _ h9 => h9) rfl dX8_money_117 ?_
                refine lv_iconst (v := 0) hx hb dX8_money_120 (by decide) ?_
                obtain ⟨r13, hr13, hF⟩ := bd_use hF
                refine cl_VI ⟨hx, hb, hml, hown, htb⟩ (kX6_total l D cS g cI (zn 6) (zn 7) 16 8 2 (M.1.1.2.2.1) 0 _ hr13) (cwV 1 htb (gX6_total bw2_24) rfl rfl rfl hdX6_total ⟨Nat.le_of_ble_eq_true rfl, Nat.le_of_ble_eq_true rfl⟩) hK (hDa _) hG hA hP hS (sr_XX_vouchers cI cS xx xd xo hh ha z zn q M) hl.1 rfl 0 (pTb_0 _ _ _ _ _ _ _) rfl rfl (Nat.le_of_ble_eq_true rfl) dX8_money_121 (fun H locs hP hS => ?_)
                obtain ⟨er, eM⟩ := pr_use hF
                exact rt_I hx hb hr hlocks hS (by rw [← eM]; exact hP) er dX8_money_124
              · have hF := it_f hF c12
                refine lv_tableOut (x := x1) (tgt := 125) hx hb dX8_money_1 (sw_out7 c1 c2 c4 c6 c8 c10 c12) (by decide) ?_
                refine lv_iconst (v := (-1)) hx hb dX8_money_125 (by decide) ?_
                obtain ⟨er, eM⟩ := pr_use hF
                exact rt_I hx hb hr hlocks hS (by rw [← eM]; exact hP) er dX8_money_126

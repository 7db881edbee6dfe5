noncomputable def fX6_copyFrom_j44 (tn : Nat) (cap tw : Int32) (N : Tb × Tb) : Option ((Tb × Tb)) := nm (N.2.1) fun v4 => nm (((v4, N.1.2), N.2)) fun M5 => some M5
noncomputable def fX6_copyFrom (tn : Nat) (cap tw : Int32) (N : Tb × Tb) : Option ((Tb × Tb)) := nm (jmin (nI tn) (nI tn)) fun v1 => nm (jmin ((N.2.1) * tw) v1) fun v2 => if v2 ≤ 0 then (fX6_copyFrom_j44 tn cap tw N) else (Cp (N.2.2) (N.1.2) tn tn v2 fun f6 => nm (((N.1.1, f6), N.2)) fun M7 => fX6_copyFrom_j44 tn cap tw M7)
abbrev vX6_copyFrom : List Cond := Cond.code yX6_copyFrom cX6_copyFrom 3 none :: BIG
theorem gX6_copyFrom {own : String} {idx : Nat} (h : (Cond.methodLink own idx yX6_copyFrom) ∈ BIG) : GoodIn BIG (wsV own idx RX6 yX6_copyFrom vX6_copyFrom) := gdV h bw2_62 bw2_63 bw1_4 bw2_64
def rmX6_copyFrom : Room := { frames := 1, cells := 0, slots := 0, locals := 40 }
theorem hdX6_copyFrom : yX6_copyFrom.cls = RX6 ∧ yX6_copyFrom.cls ≠ "java/lang/invoke/MethodHandle" ∧ yX6_copyFrom.cls ≠ "java/lang/invoke/VarHandle" ∧ (parseMethodDescriptor yX6_copyFrom.desc).map (fun d => d.parameters.length) = some 1 := by decide +kernel
set_option maxHeartbeats 4000000 in
set_option maxRecDepth 100000 in
theorem kX6_copyFrom (l : Launch) (D : va_G) (cS : ClassId) (g : Nat → Nat) (cI : ClassId) (th tc uh uc tn : Nat) (cap tw : Int32) (N : Tb × Tb) (M' : Tb × Tb) (hF : fX6_copyFrom tn cap tw N = some M') : mV l yX6_copyFrom vX6_copyFrom rmX6_copyFrom D cI cS g [.ref th, .ref uh] (wTT cI th tc uh uc tn cap tw N) (wTT cI th tc uh uc tn cap tw (M')) := by
  refine st_V rfl (by decide) (Nat.le_of_ble_eq_true rfl) ?_
  intro p e s m args below meth c A ls hx hb hr hml hlocks hown hts hA hK hD0 hG hP hS hl
  have hown : s.vm.findClass RX6 = some m.cls := hown
  have hDa : ∀ N, va_D A (wTT cI th tc uh uc tn cap tw N) := fun N => hD0.adr rfl
  have htb : ∀ w ∈ BIG, w.before args s = true := fun w h => hts w (List.mem_cons_of_mem _ h)
  have hl : lv_has ls 3 [(0, .ref th), (1, .ref uh)] := hl
  have j44 : ∀ (N : Tb × Tb) (H : Heap) (locs : List Loc) (ls : Array Slot), fX6_copyFrom_j44 tn cap tw N = some M' → va_P D vwCl (wTT cI th tc uh uc tn cap tw N) H → va_S A s.heap H locs → lv_has ls 3 [(0, .ref th), (1, .ref uh)] → W p l e rmX6_copyFrom s m args below meth c H locs 0 0 (MQ below (qV D (wTT cI th tc uh uc tn cap tw (M')) A) args s 0 0 A) (F0 m 44 ls []) := by
    intro N H locs ls hF hP hS hl
    refine lv_aload_n hx hb dX6_copyFrom_44 rfl (lv_at hl 0 rfl) ?_
    refine lv_aload_n hx hb dX6_copyFrom_45 rfl (lv_at hl 1 rfl) ?_
    refine va_get (ci := 6) (v := .int (N.2.1)) (C := RX6) (T := TX6) (N := 4) hx hb htb kin6 hown hK hP 2 (pTT_2 cI th tc uh uc tn cap tw N) rfl 3 (by decide) (htb _ bw1_44) (fun _ h9 => h9) rfl dX6_copyFrom_46 ?_
    refine lv_topi (fun v4 ev4 => ?_)
    have hF := nm_use hF ev4
    refine va_put (ci := 6) (v := .int v4) (ty := .int) (C := RX6) (T := TX6) (N := 4) hx hb htb kin6 tyX6 tyX6_ok nmX6 hown hK hP (hDa _) hS 0 (pTT_0 cI th tc uh uc tn cap tw N) rfl 3 (by decide) (htb _ bw1_44) (fun _ h9 => h9) rfl (by decide +kernel) rfl rfl (Nat.le_of_ble_eq_true rfl) dX6_copyFrom_49 (fun H locs hP _ hS => ?_)
    obtain ⟨M5, eM5⟩ : ∃ z : Tb × Tb, z = ((v4, N.1.2), N.2) := ⟨_, rfl⟩
    have hF := nm_use hF eM5
    have hP : va_P D vwCl (wTT cI th tc uh uc tn cap tw M5) H := by rw [eM5]; exact hP
    exact rt_V hx hb hr hlocks hS (by rw [← so_use hF]; exact hP) dX6_copyFrom_52
  refine lv_aload_n hx hb dX6_copyFrom_0 rfl (lv_at hl 1 rfl) ?_
  refine va_get (ci := 6) (v := .int (N.2.1)) (C := RX6) (T := TX6) (N := 4) hx hb htb kin6 hown hK hP 2 (pTT_2 cI th tc uh uc tn cap tw N) rfl 3 (by decide) (htb _ bw1_44) (fun _ h9 => h9) rfl dX6_copyFrom_1 ?_
  refine lv_aload_n hx hb dX6_copyFrom_4 rfl (lv_at hl 1 rfl) ?_
  refine va_get (ci := 6) (v := .int tw) (C := RX6) (T := TX6) (N := 4) hx hb htb kin6 hown hK hP 2 (pTT_2 cI th tc uh uc tn cap tw N) rfl 2 (by decide) (htb _ bw1_43) (fun _ h9 => h9) rfl dX6_copyFrom_5 ?_
  refine lv_imul hx hb dX6_copyFrom_8 ?_
  refine lv_aload_n hx hb dX6_copyFrom_9 rfl (lv_at hl 1 rfl) ?_
  refine va_get (ci := 6) (v := .ref uc) (C := RX6) (T := TX6) (N := 4) hx hb htb kin6 hown hK hP 2 (pTT_2 cI th tc uh uc tn cap tw N) rfl 0 (by decide) (htb _ bw1_41) (fun _ h9 => h9) rfl dX6_copyFrom_10 ?_
  refine va_alen (v := nI tn) hx hb hK hP 3 0 (pTT_3 cI th tc uh uc tn cap tw N) rfl rfl dX6_copyFrom_13 ?_
  refine lv_aload_n hx hb dX6_copyFrom_14 rfl (lv_at hl 0 rfl) ?_
  refine va_get (ci := 6) (v := .ref tc) (C := RX6) (T := TX6) (N := 4) hx hb htb kin6 hown hK hP 0 (pTT_0 cI th tc uh uc tn cap tw N) rfl 0 (by decide) (htb _ bw1_41) (fun _ h9 => h9) rfl dX6_copyFrom_15 ?_
  refine va_alen (v := nI tn) hx hb hK hP 1 0 (pTT_1 cI th tc uh uc tn cap tw N) rfl rfl dX6_copyFrom_18 ?_
  refine va_mmin hx hb (hml.trans hl.1.symm) hown (htb _ bw2_65) (htb _ bw2_66) (htb _ bw1_5) (htb _ bw2_67) (Nat.le_of_ble_eq_true rfl) (Nat.le_of_ble_eq_true rfl) (Nat.zero_le _) (Nat.zero_le _) dX6_copyFrom_19 ?_
  refine lv_topi (fun v1 ev1 => ?_)
  have hF := nm_use hF ev1
  refine va_mmin hx hb (hml.trans hl.1.symm) hown (htb _ bw2_65) (htb _ bw2_66) (htb _ bw1_5) (htb _ bw2_67) (Nat.le_of_ble_eq_true rfl) (Nat.le_of_ble_eq_true rfl) (Nat.zero_le _) (Nat.zero_le _) dX6_copyFrom_22 ?_
  refine lv_topi (fun v2 ev2 => ?_)
  have hF := nm_use hF ev2
  refine lv_istore_n (lv' := [(2, .int v2), (0, .ref th), (1, .ref uh)]) hx hb dX6_copyFrom_25 rfl hl (by decide) rfl (fun ls hl => ?_)
  refine lv_iload_n hx hb dX6_copyFrom_26 rfl (lv_at hl 0 rfl) ?_
  refine lv_if_le (tgt := 44) hx hb dX6_copyFrom_27 (by decide) (fun c3 => ?_) (fun c3 => ?_)
  · have hF := it_t hF c3
    exact j44 N _ _ _ hF hP hS (lv_sub hl [1, 2] rfl)
  · have hF := it_f hF c3
    refine lv_aload_n hx hb dX6_copyFrom_30 rfl (lv_at hl 2 rfl) ?_
    refine va_get (ci := 6) (v := .ref uc) (C := RX6) (T := TX6) (N := 4) hx hb htb kin6 hown hK hP 2 (pTT_2 cI th tc uh uc tn cap tw N) rfl 0 (by decide) (htb _ bw1_41) (fun _ h9 => h9) rfl dX6_copyFrom_31 ?_
    refine lv_iconst (v := 0) hx hb dX6_copyFrom_34 (by decide) ?_
    refine lv_aload_n hx hb dX6_copyFrom_35 rfl (lv_at hl 1 rfl) ?_
    refine va_get (ci := 6) (v := .ref tc) (C := RX6) (T := TX6) (N := 4) hx hb htb kin6 hown hK hP 0 (pTT_0 cI th tc uh uc tn cap tw N) rfl 0 (by decide) (htb _ bw1_41) (fun _ h9 => h9) rfl dX6_copyFrom_36 ?_
    refine lv_iconst (v := 0) hx hb dX6_copyFrom_39 (by decide) ?_
    refine lv_iload_n hx hb dX6_copyFrom_40 rfl (lv_at hl 0 rfl) ?_
    obtain ⟨⟨hc1, hc2, hc3⟩, hF⟩ := cp_use hF
    refine va_copyi hx hb (hml.trans hl.1.symm) hown (htb _ bw2_68) (htb _ bw2_70) (htb _ bw2_69) (htb _ bw1_11) hK hP (hDa _) hS 3 1 0 0 (pTT_3 cI th tc uh uc tn cap tw N) (pTT_1 cI th tc uh uc tn cap tw N) rfl rfl rfl (by decide) (by decide) hc1 hc2 hc3 (fun _ _ => rfl) (Nat.le_of_ble_eq_true rfl) (by decide) dX6_copyFrom_41 (fun H locs hP _ hS => ?_)
    obtain ⟨M7, eM7⟩ : ∃ z : Tb × Tb, z = ((N.1.1, (va_cpy (N.2.2) (N.1.2) (0 : Int32).toNatClampNeg (0 : Int32).toNatClampNeg (v2 : Int32).toNatClampNeg)), N.2) := ⟨_, rfl⟩
    have hF := nm_use hF eM7
    have hP : va_P D vwCl (wTT cI th tc uh uc tn cap tw M7) H := by rw [eM7]; exact hP
    exact j44 M7 _ _ _ hF hP hS (lv_sub hl [1, 2] rfl)
noncomputable def fX7_copyFrom  (N : Vn × Vn) : Option ((Vn × Vn)) := (fX6_copyFrom 44 4 11 ((N.1.1, N.2.1))).bind fun M1 => nm (((M1.1, N.1.2), (M1.2, N.2.2))) fun M2 => (fX6_copyFrom 160 16 10 ((M2.1.2.1, M2.2.2.1))).bind fun M3 => nm (((M2.1.1, M3.1, M2.1.2.2), (M2.2.1, M3.2, M2.2.2.2))) fun M4 => (fX6_copyFrom 16 8 2 ((M4.1.2.2.1, M4.2.2.2.1))).bind fun M5 => nm (((M4.1.1, M4.1.2.1, M5.1, M4.1.2.2.2), (M4.2.1, M4.2.2.1, M5.2, M4.2.2.2.2))) fun M6 => (fX6_copyFrom 64 16 4 ((M6.1.2.2.2.1, M6.2.2.2.2.1))).bind fun M7 => nm (((M6.1.1, M6.1.2.1, M6.1.2.2.1, M7.1, M6.1.2.2.2.2), (M6.2.1, M6.2.2.1, M6.2.2.2.1, M7.2, M6.2.2.2.2.2))) fun M8 => (fX6_copyFrom 5 5 1 ((M8.1.2.2.2.2.1, M8.2.2.2.2.2.1))).bind fun M9 => nm (((M8.1.1, M8.1.2.1, M8.1.2.2.1, M8.1.2.2.2.1, M9.1, M8.1.2.2.2.2.2), (M8.2.1, M8.2.2.1, M8.2.2.2.1, M8.2.2.2.2.1, M9.2, M8.2.2.2.2.2.2))) fun M10 => nm (M10.2.2.2.2.2.2) fun v11 => nm (((M10.1.1, M10.1.2.1, M10.1.2.2.1, M10.1.2.2.2.1, M10.1.2.2.2.2.1, v11), M10.2)) fun M12 => some M12
abbrev vX7_copyFrom : List Cond := Cond.code yX7_copyFrom cX7_copyFrom 2 none :: BIG
theorem gX7_copyFrom {own : String} {idx : Nat} (h : (Cond.methodLink own idx yX7_copyFrom) ∈ BIG) : GoodIn BIG (wsV own idx RX7 yX7_copyFrom vX7_copyFrom) := gdV h bw2_58 bw2_59 bw1_3 bw2_60
def rmX7_copyFrom : Room := { frames := 2, cells := 0, slots := 0, locals := 62 }
theorem hdX7_copyFrom : yX7_copyFrom.cls = RX7 ∧ yX7_copyFrom.cls ≠ "java/lang/invoke/MethodHandle" ∧ yX7_copyFrom.cls ≠ "java/lang/invoke/VarHandle" ∧ (parseMethodDescriptor yX7_copyFrom.desc).map (fun d => d.parameters.length) = some 1 := by decide +kernel
set_option maxHeartbeats 4000000 in
set_option maxRecDepth 100000 in
theorem kX7_copyFrom (l : Launch) (D : va_G) (cS : ClassId) (g : Nat → Nat) (cI : ClassId) (a a2 : Nat → Nat) (N : Vn × Vn) (M' : Vn × Vn) (hF : fX7_copyFrom N = some M') : mV l yX7_copyFrom vX7_copyFrom rmX7_copyFrom D cI cS g [.ref (a 0), .ref (a2 0)] (wVV cI a a2 N) (wVV cI a a2 (M')) := by
  refine st_V rfl (by decide) (Nat.le_of_ble_eq_true rfl) ?_
  intro p e s m args below meth c A ls hx hb hr hml hlocks hown hts hA hK hD0 hG hP hS hl
  have hown : s.vm.findClass RX7 = some m.cls := hown
  have hDa : ∀ N, va_D A (wVV cI a a2 N) := fun N => hD0.adr rfl
  have htb : ∀ w ∈ BIG, w.before args s = true := fun w h => hts w (List.mem_cons_of_mem _ h)
  have hl : lv_has ls 2 [(0, .ref (a 0)), (1, .ref (a2 0))] := hl
  refine lv_aload_n hx hb dX7_copyFrom_0 rfl (lv_at hl 0 rfl) ?_
  refine va_get (ci := 7) (v := .ref (a 1)) (C := RX7) (T := TX7) (N := 6) hx hb htb kin7 hown hK hP 0 (pVV_0 cI a a2 N) rfl 0 (by decide) (htb _ bw1_72) (fun _ h9 => h9) rfl dX7_copyFrom_1 ?_
  refine lv_aload_n hx hb dX7_copyFrom_4 rfl (lv_at hl 1 rfl) ?_
  refine va_get (ci := 7) (v := .ref (a2 1)) (C := RX7) (T := TX7) (N := 6) hx hb htb kin7 hown hK hP 11 (pVV_11 cI a a2 N) rfl 0 (by decide) (htb _ bw1_72) (fun _ h9 => h9) rfl dX7_copyFrom_5 ?_
  obtain ⟨M1, hM1, hF⟩ := bd_use hF
  refine cl_VV ⟨hx, hb, hml, hown, htb⟩ (kX6_copyFrom l D cS g cI (a 1) (a 2) (a2 1) (a2 2) 44 4 11 ((N.1.1, N.2.1))  _ hM1) (cwV 1 htb (gX6_copyFrom bw2_61) rfl rfl rfl hdX6_copyFrom ⟨Nat.le_of_ble_eq_true rfl, Nat.le_of_ble_eq_true rfl⟩) hK (hDa _) hG hA hP hS (sg_VV_rooms cI a a2 N M1) hl.1 rfl 0 (pTT_0 _ _ _ _ _ _ _ _ _) rfl rfl (Nat.le_of_ble_eq_true rfl) dX7_copyFrom_8 (fun H locs hP hS => ?_)
  obtain ⟨M2, eM2⟩ : ∃ z : Vn × Vn, z = ((M1.1, N.1.2), (M1.2, N.2.2)) := ⟨_, rfl⟩
  have hF := nm_use hF eM2
  have hP : va_P D vwCl (wVV cI a a2 M2) H := by rw [eM2]; exact hP
  refine lv_aload_n hx hb dX7_copyFrom_11 rfl (lv_at hl 0 rfl) ?_
  refine va_get (ci := 7) (v := .ref (a 3)) (C := RX7) (T := TX7) (N := 6) hx hb htb kin7 hown hK hP 0 (pVV_0 cI a a2 M2) rfl 1 (by decide) (htb _ bw1_76) (fun _ h9 => h9) rfl dX7_copyFrom_12 ?_
  refine lv_aload_n hx hb dX7_copyFrom_15 rfl (lv_at hl 1 rfl) ?_
  refine va_get (ci := 7) (v := .ref (a2 3)) (C := RX7) (T := TX7) (N := 6) hx hb htb kin7 hown hK hP 11 (pVV_11 cI a a2 M2) rfl 1 (by decide) (htb _ bw1_76) (fun _ h9 => h9) rfl dX7_copyFrom_16 ?_
  obtain ⟨M3, hM3, hF⟩ := bd_use hF
  refine cl_VV ⟨hx, hb, hml, hown, htb⟩ (kX6_copyFrom l D cS g cI (a 3) (a 4) (a2 3) (a2 4) 160 16 10 ((M2.1.2.1, M2.2.2.1))  _ hM3) (cwV 1 htb (gX6_copyFrom bw2_61) rfl rfl rfl hdX6_copyFrom ⟨Nat.le_of_ble_eq_true rfl, Nat.le_of_ble_eq_true rfl⟩) hK (hDa _) hG hA hP hS (sg_VV_bookings cI a a2 M2 M3) hl.1 rfl 0 (pTT_0 _ _ _ _ _ _ _ _ _) rfl rfl (Nat.le_of_ble_eq_true rfl) dX7_copyFrom_19 (fun H locs hP hS => ?_)
  obtain ⟨M4, eM4⟩ : ∃ z : Vn × Vn, z = ((M2.1.1, M3.1, M2.1.2.2), (M2.2.1, M3.2, M2.2.2.2)) := ⟨_, rfl⟩
  have hF := nm_use hF eM4
  have hP : va_P D vwCl (wVV cI a a2 M4) H := by rw [eM4]; exact hP
  refine lv_aload_n hx hb dX7_copyFrom_22 rfl (lv_at hl 0 rfl) ?_
  refine va_get (ci := 7) (v := .ref (a 5)) (C := RX7) (T := TX7) (N := 6) hx hb htb kin7 hown hK hP 0 (pVV_0 cI a a2 M4) rfl 2 (by decide) (htb _ bw1_79) (fun _ h9 => h9) rfl dX7_copyFrom_23 ?_
  refine lv_aload_n hx hb dX7_copyFrom_26 rfl (lv_at hl 1 rfl) ?_
  refine va_get (ci := 7) (v := .ref (a2 5)) (C := RX7) (T := TX7) (N := 6) hx hb htb kin7 hown hK hP 11 (pVV_11 cI a a2 M4) rfl 2 (by decide) (htb _ bw1_79) (fun _ h9 => h9) rfl dX7_copyFrom_27 ?_
  obtain ⟨M5, hM5, hF⟩ := bd_use hF
  refine cl_VV ⟨hx, hb, hml, hown, htb⟩ (kX6_copyFrom l D cS g cI (a 5) (a 6) (a2 5) (a2 6) 16 8 2 ((M4.1.2.2.1, M4.2.2.2.1))  _ hM5) (cwV 1 htb (gX6_copyFrom bw2_61) rfl rfl rfl hdX6_copyFrom ⟨Nat.le_of_ble_eq_true rfl, Nat.le_of_ble_eq_true rfl⟩) hK (hDa _) hG hA hP hS (sg_VV_vouchers cI a a2 M4 M5) hl.1 rfl 0 (pTT_0 _ _ _ _ _ _ _ _ _) rfl rfl (Nat.le_of_ble_eq_true rfl) dX7_copyFrom_30 (fun H locs hP hS => ?_)
  obtain ⟨M6, eM6⟩ : ∃ z : Vn × Vn, z = ((M4.1.1, M4.1.2.1, M5.1, M4.1.2.2.2), (M4.2.1, M4.2.2.1, M5.2, M4.2.2.2.2)) := ⟨_, rfl⟩
  have hF := nm_use hF eM6
  have hP : va_P D vwCl (wVV cI a a2 M6) H := by rw [eM6]; exact hP
  refine lv_aload_n hx hb dX7_copyFrom_33 rfl (lv_at hl 0 rfl) ?_
  refine va_get (ci := 7) (v := .ref (a 7)) (C := RX7) (T := TX7) (N := 6) hx hb htb kin7 hown hK hP 0 (pVV_0 cI a a2 M6) rfl 3 (by decide) (htb _ bw1_82) (fun _ h9 => h9) rfl dX7_copyFrom_34 ?_
  refine lv_aload_n hx hb dX7_copyFrom_37 rfl (lv_at hl 1 rfl) ?_
  refine va_get (ci := 7) (v := .ref (a2 7)) (C := RX7) (T := TX7) (N := 6) hx hb htb kin7 hown hK hP 11 (pVV_11 cI a a2 M6) rfl 3 (by decide) (htb _ bw1_82) (fun _ h9 => h9) rfl dX7_copyFrom_38 ?_
  obtain ⟨M7, hM7, hF⟩ := bd_use hF
  refine cl_VV ⟨hx, hb, hml, hown, htb⟩ (kX6_copyFrom l D cS g cI (a 7) (a 8) (a2 7) (a2 8) 64 16 4 ((M6.1.2.2.2.1, M6.2.2.2.2.1))  _ hM7) (cwV 1 htb (gX6_copyFrom bw2_61) rfl rfl rfl hdX6_copyFrom ⟨Nat.le_of_ble_eq_true rfl, Nat.le_of_ble_eq_true rfl⟩) hK (hDa _) hG hA hP hS (sg_VV_payments cI a a2 M6 M7) hl.1 rfl 0 (pTT_0 _ _ _ _ _ _ _ _ _) rfl rfl (Nat.le_of_ble_eq_true rfl) dX7_copyFrom_41 (fun H locs hP hS => ?_)
  obtain ⟨M8, eM8⟩ : ∃ z : Vn × Vn, z = ((M6.1.1, M6.1.2.1, M6.1.2.2.1, M7.1, M6.1.2.2.2.2), (M6.2.1, M6.2.2.1, M6.2.2.2.1, M7.2, M6.2.2.2.2.2)) := ⟨_, rfl⟩
  have hF := nm_use hF eM8
  have hP : va_P D vwCl (wVV cI a a2 M8) H := by rw [eM8]; exact hP
  refine lv_aload_n hx hb dX7_copyFrom_44 rfl (lv_at hl 0 rfl) ?_
  refine va_get (ci := 7) (v := .ref (a 9)) (C := RX7) (T := TX7) (N := 6) hx hb htb kin7 hown hK hP 0 (pVV_0 cI a a2 M8) rfl 4 (by decide) (htb _ bw1_84) (fun _ h9 => h9) rfl dX7_copyFrom_45 ?_
  refine lv_aload_n hx hb dX7_copyFrom_48 rfl (lv_at hl 1 rfl) ?_
  refine va_get (ci := 7) (v := .ref (a2 9)) (C := RX7) (T := TX7) (N := 6) hx hb htb kin7 hown hK hP 11 (pVV_11 cI a a2 M8) rfl 4 (by decide) (htb _ bw1_84) (fun _ h9 => h9) rfl dX7_copyFrom_49 ?_
  obtain ⟨M9, hM9, hF⟩ := bd_use hF
  refine cl_VV ⟨hx, hb, hml, hown, htb⟩ (kX6_copyFrom l D cS g cI (a 9) (a 10) (a2 9) (a2 10) 5 5 1 ((M8.1.2.2.2.2.1, M8.2.2.2.2.2.1))  _ hM9) (cwV 1 htb (gX6_copyFrom bw2_61) rfl rfl rfl hdX6_copyFrom ⟨Nat.le_of_ble_eq_true rfl, Nat.le_of_ble_eq_true rfl⟩) hK (hDa _) hG hA hP hS (sg_VV_settings cI a a2 M8 M9) hl.1 rfl 0 (pTT_0 _ _ _ _ _ _ _ _ _) rfl rfl (Nat.le_of_ble_eq_true rfl) dX7_copyFrom_52 (fun H locs hP hS => ?_)
  obtain ⟨M10, eM10⟩ : ∃ z : Vn × Vn, z = ((M8.1.1, M8.1.2.1, M8.1.2.2.1, M8.1.2.2.2.1, M9.1, M8.1.2.2.2.2.2), (M8.2.1, M8.2.2.1, M8.2.2.2.1, M8.2.2.2.2.1, M9.2, M8.2.2.2.2.2.2)) := ⟨_, rfl⟩
  have hF := nm_use hF eM10
  have hP : va_P D vwCl (wVV cI a a2 M10) H := by rw [eM10]; exact hP
  refine lv_aload_n hx hb dX7_copyFrom_55 rfl (lv_at hl 0 rfl) ?_
  refine lv_aload_n hx hb dX7_copyFrom_56 rfl (lv_at hl 1 rfl) ?_
  refine va_get (ci := 7) (v := .int (M10.2.2.2.2.2.2)) (C := RX7) (T := TX7) (N := 6) hx hb htb kin7 hown hK hP 11 (pVV_11 cI a a2 M10) rfl 5 (by decide) (htb _ bw1_86) (fun _ h9 => h9) rfl dX7_copyFrom_57 ?_
  refine lv_topi (fun v11 ev11 => ?_)
  have hF := nm_use hF ev11
  refine va_put (ci := 7) (v := .int v11) (ty := .int) (C := RX7) (T := TX7) (N := 6) hx hb htb kin7 tyX7 tyX7_ok nmX7 hown hK hP (hDa _) hS 0 (pVV_0 cI a a2 M10) rfl 5 (by decide) (htb _ bw1_86) (fun _ h9 => h9) rfl (by decide +kernel) rfl rfl (Nat.le_of_ble_eq_true rfl) dX7_copyFrom_60 (fun H locs hP _ hS => ?_)
  obtain ⟨M12, eM12⟩ : ∃ z : Vn × Vn, z = ((M10.1.1, M10.1.2.1, M10.1.2.2.1, M10.1.2.2.2.1, M10.1.2.2.2.2.1, v11), M10.2) := ⟨_, rfl⟩
  have hF := nm_use hF eM12
  have hP : va_P D vwCl (wVV cI a a2 M12) H := by rw [eM12]; exact hP
  exact rt_V hx hb hr hlocks hS (by rw [← so_use hF]; exact hP) dX7_copyFrom_63
noncomputable def fX4_copyFrom_j18  (N : (Int32 × Vn) × (Int32 × Vn)) : Option (((Int32 × Vn) × (Int32 × Vn))) := nm (N.2.1) fun v2 => Zb v2 <| nm (((v2, N.1.2), N.2)) fun M3 => some M3
noncomputable def fX4_copyFrom  (N : (Int32 × Vn) × (Int32 × Vn)) : Option (((Int32 × Vn) × (Int32 × Vn))) := if (N.2.1) = 0 then (fX4_copyFrom_j18 N) else ((fX7_copyFrom ((N.1.2, N.2.2))).bind fun M4 => nm (((N.1.1, M4.1), (N.2.1, M4.2))) fun M5 => fX4_copyFrom_j18 M5)
abbrev vX4_copyFrom : List Cond := Cond.code yX4_copyFrom cX4_copyFrom 2 none :: BIG
theorem gX4_copyFrom {own : String} {idx : Nat} (h : (Cond.methodLink own idx yX4_copyFrom) ∈ BIG) : GoodIn BIG (wsV own idx RX4 yX4_copyFrom vX4_copyFrom) := gdV h bw2_72 bw2_73 bw1_6 bw2_74
def rmX4_copyFrom : Room := { frames := 3, cells := 0, slots := 0, locals := 83 }
theorem hdX4_copyFrom : yX4_copyFrom.cls = RX4 ∧ yX4_copyFrom.cls ≠ "java/lang/invoke/MethodHandle" ∧ yX4_copyFrom.cls ≠ "java/lang/invoke/VarHandle" ∧ (parseMethodDescriptor yX4_copyFrom.desc).map (fun d => d.parameters.length) = some 1 := by decide +kernel
set_option maxHeartbeats 4000000 in
set_option maxRecDepth 100000 in
theorem kX4_copyFrom (l : Launch) (D : va_G) (cS : ClassId) (g : Nat → Nat) (cI : ClassId) (h : Nat) (a : Nat → Nat) (h2 : Nat) (a2 : Nat → Nat) (N : (Int32 × Vn) × (Int32 × Vn)) (M' : (Int32 × Vn) × (Int32 × Vn)) (hF : fX4_copyFrom N = some M') : mV l yX4_copyFrom vX4_copyFrom rmX4_copyFrom D cI cS g [.ref h, .ref h2] (wSS cI h a h2 a2 N) (wSS cI h a h2 a2 (M')) := by
  refine st_V rfl (by decide) (Nat.le_of_ble_eq_true rfl) ?_
  intro p e s m args below meth c A ls hx hb hr hml hlocks hown hts hA hK hD0 hG hP hS hl
  have hown : s.vm.findClass RX4 = some m.cls := hown
  have hDa : ∀ N, va_D A (wSS cI h a h2 a2 N) := fun N => hD0.adr rfl
  have htb : ∀ w ∈ BIG, w.before args s = true := fun w h => hts w (List.mem_cons_of_mem _ h)
  have hl : lv_has ls 2 [(0, .ref h), (1, .ref h2)] := hl
  have j18 : ∀ (N : (Int32 × Vn) × (Int32 × Vn)) (H : Heap) (locs : List Loc) (ls : Array Slot), fX4_copyFrom_j18 N = some M' → va_P D vwCl (wSS cI h a h2 a2 N) H → va_S A s.heap H locs → lv_has ls 2 [(0, .ref h), (1, .ref h2)] → W p l e rmX4_copyFrom s m args below meth c H locs 0 0 (MQ below (qV D (wSS cI h a h2 a2 (M')) A) args s 0 0 A) (F0 m 18 ls []) := by
    intro N H locs ls hF hP hS hl
    refine lv_aload_n hx hb dX4_copyFrom_18 rfl (lv_at hl 0 rfl) ?_
    refine lv_aload_n hx hb dX4_copyFrom_19 rfl (lv_at hl 1 rfl) ?_
    refine va_get (ci := 4) (v := .int (N.2.1)) (C := RX4) (T := TX4) (N := 2) hx hb htb kin4 hown hK hP 12 (pSS_12 cI h a h2 a2 N) rfl 1 (by decide) (htb _ bw1_111) (fun _ h9 => h9) rfl dX4_copyFrom_20 ?_
    refine lv_topi (fun v2 ev2 => ?_)
    have hF := nm_use hF ev2
    obtain ⟨hz, hft, hF⟩ := zb_use3 hF
    refine va_put (ci := 4) (v := .int v2) (ty := .boolean) (C := RX4) (T := TX4) (N := 2) hx hb htb kin4 tyX4 tyX4_ok nmX4 hown hK hP (hDa _) hS 0 (pSS_0 cI h a h2 a2 N) rfl 1 (by decide) (htb _ bw1_111) (fun _ h9 => h9) rfl (by decide +kernel) hz hft (Nat.le_of_ble_eq_true rfl) dX4_copyFrom_23 (fun H locs hP _ hS => ?_)
    obtain ⟨M3, eM3⟩ : ∃ z : (Int32 × Vn) × (Int32 × Vn), z = ((v2, N.1.2), N.2) := ⟨_, rfl⟩
    have hF := nm_use hF eM3
    have hP : va_P D vwCl (wSS cI h a h2 a2 M3) H := by rw [eM3]; exact hP
    exact rt_V hx hb hr hlocks hS (by rw [← so_use hF]; exact hP) dX4_copyFrom_26
  refine lv_aload_n hx hb dX4_copyFrom_0 rfl (lv_at hl 1 rfl) ?_
  refine va_get (ci := 4) (v := .int (N.2.1)) (C := RX4) (T := TX4) (N := 2) hx hb htb kin4 hown hK hP 12 (pSS_12 cI h a h2 a2 N) rfl 1 (by decide) (htb _ bw1_111) (fun _ h9 => h9) rfl dX4_copyFrom_1 ?_
  refine lv_if_eq (tgt := 18) hx hb dX4_copyFrom_4 (by decide) (fun c1 => ?_) (fun c1 => ?_)
  · have hF := it_t hF c1
    exact j18 N _ _ _ hF hP hS (lv_sub hl [0, 1] rfl)
  · have hF := it_f hF c1
    refine lv_aload_n hx hb dX4_copyFrom_7 rfl (lv_at hl 0 rfl) ?_
    refine va_get (ci := 4) (v := .ref (a 0)) (C := RX4) (T := TX4) (N := 2) hx hb htb kin4 hown hK hP 0 (pSS_0 cI h a h2 a2 N) rfl 0 (by decide) (htb _ bw1_110) (fun _ h9 => h9) rfl dX4_copyFrom_8 ?_
    refine lv_aload_n hx hb dX4_copyFrom_11 rfl (lv_at hl 1 rfl) ?_
    refine va_get (ci := 4) (v := .ref (a2 0)) (C := RX4) (T := TX4) (N := 2) hx hb htb kin4 hown hK hP 12 (pSS_12 cI h a h2 a2 N) rfl 0 (by decide) (htb _ bw1_110) (fun _ h9 => h9) rfl dX4_copyFrom_12 ?_
    obtain ⟨M4, hM4, hF⟩ := bd_use hF
    refine cl_VV ⟨hx, hb, hml, hown, htb⟩ (kX7_copyFrom l D cS g cI a a2 ((N.1.2, N.2.2))  _ hM4) (cwV 1 htb (gX7_copyFrom bw2_75) rfl rfl rfl hdX7_copyFrom ⟨Nat.le_of_ble_eq_true rfl, Nat.le_of_ble_eq_true rfl⟩) hK (hDa _) hG hA hP hS (sg_SS_VV cI h a h2 a2 N M4) hl.1 rfl 0 (pVV_0 _ _ _ _) rfl rfl (Nat.le_of_ble_eq_true rfl) dX4_copyFrom_15 (fun H locs hP hS => ?_)
    obtain ⟨M5, eM5⟩ : ∃ z : (Int32 × Vn) × (Int32 × Vn), z = ((N.1.1, M4.1), (N.2.1, M4.2)) := ⟨_, rfl⟩
    have hF := nm_use hF eM5
    have hP : va_P D vwCl (wSS cI h a h2 a2 M5) H := by rw [eM5]; exact hP
    exact j18 M5 _ _ _ hF hP hS (lv_sub hl [0, 1] rfl)
noncomputable def fX5_snapshots_j30  (S : Sn) (s0 : Int32) (s1 : Int32) : Option (Int32) := some (s0 + s1)
noncomputable def fX5_snapshots_j15  (S : Sn) (s0 : Int32) : Option (Int32) := if (S.2.2.1) = 0 then (fX5_snapshots_j30 S s0 0) else (fX5_snapshots_j30 S s0 1)
noncomputable def fX5_snapshots  (S : Sn) : Option (Int32) := if (S.2.1.1) = 0 then (fX5_snapshots_j15 S 0) else (fX5_snapshots_j15 S 1)
abbrev vX5_snapshots : List Cond := Cond.code yX5_snapshots cX5_snapshots 1 (some .int) :: BIG
theorem gX5_snapshots {own : String} {idx : Nat} (h : (Cond.methodLink own idx yX5_snapshots) ∈ BIG) : GoodIn BIG (wsV own idx RX5 yX5_snapshots vX5_snapshots) := gdV h bw2_9 bw2_10 bw1_2 bw2_11
def rmX5_snapshots : Room := { frames := 0, cells := 0, slots := 0, locals := 0 }
theorem hdX5_snapshots : yX5_snapshots.cls = RX5 ∧ yX5_snapshots.cls ≠ "java/lang/invoke/MethodHandle" ∧ yX5_snapshots.cls ≠ "java/lang/invoke/VarHandle" ∧ (parseMethodDescriptor yX5_snapshots.desc).map (fun d => d.parameters.length) = some 0 := by decide +kernel
set_option maxHeartbeats 4000000 in
set_option maxRecDepth 100000 in
theorem kX5_snapshots (l : Launch) (D : va_G) (cS : ClassId) (g : Nat → Nat) (cI : ClassId) (z : Nat → Nat) (S : Sn) (r : Int32) (hF : fX5_snapshots S = some r) : mI l yX5_snapshots vX5_snapshots rmX5_snapshots D cI cS g [.ref (z 0)] (wSt cI z S) r (wSt cI z S) := by
  refine st_I rfl (by decide) (Nat.le_of_ble_eq_true rfl) ?_
  intro p e s m args below meth c A ls hx hb hr hml hlocks hown hts hA hK hD0 hG hP hS hl
  have hown : s.vm.findClass RX5 = some m.cls := hown
  have hDa : ∀ S, va_D A (wSt cI z S) := fun S => hD0.adr rfl
  have htb : ∀ w ∈ BIG, w.before args s = true := fun w h => hts w (List.mem_cons_of_mem _ h)
  have hl : lv_has ls 1 [(0, .ref (z 0))] := hl
  have j30 : ∀ (s0 : Int32) (s1 : Int32) (H : Heap) (locs : List Loc) (ls : Array Slot), fX5_snapshots_j30 S s0 s1 = some r → va_P D vwCl (wSt cI z S) H → va_S A s.heap H locs → lv_has ls 1 [] → W p l e rmX5_snapshots s m args below meth c H locs 0 0 (MQ below (qI D r (wSt cI z S) A) args s 0 0 A) (F0 m 30 ls [.int s1, .int s0]) := by
    intro s0 s1 H locs ls hF hP hS hl
    refine lv_iadd hx hb dX5_snapshots_30 ?_
    exact rt_I hx hb hr hlocks hS hP (so_use hF) dX5_snapshots_31
  have j15 : ∀ (s0 : Int32) (H : Heap) (locs : List Loc) (ls : Array Slot), fX5_snapshots_j15 S s0 = some r → va_P D vwCl (wSt cI z S) H → va_S A s.heap H locs → lv_has ls 1 [(0, .ref (z 0))] → W p l e rmX5_snapshots s m args below meth c H locs 0 0 (MQ below (qI D r (wSt cI z S) A) args s 0 0 A) (F0 m 15 ls [.int s0]) := by
    intro s0 H locs ls hF hP hS hl
    refine lv_aload_n hx hb dX5_snapshots_15 rfl (lv_at hl 0 rfl) ?_
    refine va_get (ci := 5) (v := .ref (z 24)) (C := RX5) (T := TX5) (N := 3) hx hb htb kin5 hown hK hP 0 (pSt_0 cI z S) rfl 2 (by decide) (htb _ bw1_121) (fun _ h9 => h9) rfl dX5_snapshots_16 ?_
    refine va_get (ci := 4) (v := .int (S.2.2.1)) (C := RX4) (T := TX4) (N := 2) hx hb htb kin4 hown hK hP 24 (pSt_24 cI z S) rfl 1 (by decide) (htb _ bw1_112) (fun _ h9 => h9) rfl dX5_snapshots_19 ?_
    refine lv_if_eq (tgt := 29) hx hb dX5_snapshots_22 (by decide) (fun c2 => ?_) (fun c2 => ?_)
    · have hF := it_t hF c2
      refine lv_iconst (v := 0) hx hb dX5_snapshots_29 (by decide) ?_
      exact j30 s0 0 _ _ _ hF hP hS (lv_sub hl [] rfl)
    · have hF := it_f hF c2
      refine lv_iconst (v := 1) hx hb dX5_snapshots_25 (by decide) ?_
      refine lv_goto (tgt := 30) hx hb dX5_snapshots_26 (by decide) ?_
      exact j30 s0 1 _ _ _ hF hP hS (lv_sub hl [] rfl)
  refine lv_aload_n hx hb dX5_snapshots_0 rfl (lv_at hl 0 rfl) ?_
  refine va_get (ci := 5) (v := .ref (z 12)) (C := RX5) (T := TX5) (N := 3) hx hb htb kin5 hown hK hP 0 (pSt_0 cI z S) rfl 1 (by decide) (htb _ bw1_120) (fun _ h9 => h9) rfl dX5_snapshots_1 ?_
  refine va_get (ci := 4) (v := .int (S.2.1.1)) (C := RX4) (T := TX4) (N := 2) hx hb htb kin4 hown hK hP 12 (pSt_12 cI z S) rfl 1 (by decide) (htb _ bw1_112) (fun _ h9 => h9) rfl dX5_snapshots_4 ?_
  refine lv_if_eq (tgt := 14) hx hb dX5_snapshots_7 (by decide) (fun c1 => ?_) (fun c1 => ?_)
  · have hF := it_t hF c1
    refine lv_iconst (v := 0) hx hb dX5_snapshots_14 (by decide) ?_
    exact j15 0 _ _ _ hF hP hS (lv_sub hl [0] rfl)
  · have hF := it_f hF c1
    refine lv_iconst (v := 1) hx hb dX5_snapshots_10 (by decide) ?_
    refine lv_goto (tgt := 15) hx hb dX5_snapshots_11 (by decide) ?_
    exact j15 1 _ _ _ hF hP hS (lv_sub hl [0] rfl)
noncomputable def fX5_copyFrom  (N : Sn × Sn) : Option ((Sn × Sn)) := (fX7_copyFrom ((N.1.1, N.2.1))).bind fun M1 => nm (((M1.1, N.1.2), (M1.2, N.2.2))) fun M2 => (fX4_copyFrom ((M2.1.2.1, M2.2.2.1))).bind fun M3 => nm (((M2.1.1, M3.1, M2.1.2.2), (M2.2.1, M3.2, M2.2.2.2))) fun M4 => (fX4_copyFrom ((M4.1.2.2, M4.2.2.2))).bind fun M5 => nm (((M4.1.1, M4.1.2.1, M5.1), (M4.2.1, M4.2.2.1, M5.2))) fun M6 => some M6
abbrev vX5_copyFrom : List Cond := Cond.code yX5_copyFrom cX5_copyFrom 2 none :: BIG
theorem gX5_copyFrom {own : String} {idx : Nat} (h : (Cond.methodLink own idx yX5_copyFrom) ∈ BIG) : GoodIn BIG (wsV own idx RX5 yX5_copyFrom vX5_copyFrom) := gdV h bw2_54 bw2_55 bw1_2 bw2_56
def rmX5_copyFrom : Room := { frames := 4, cells := 0, slots := 0, locals := 104 }
theorem hdX5_copyFrom : yX5_copyFrom.cls = RX5 ∧ yX5_copyFrom.cls ≠ "java/lang/invoke/MethodHandle" ∧ yX5_copyFrom.cls ≠ "java/lang/invoke/VarHandle" ∧ (parseMethodDescriptor yX5_copyFrom.desc).map (fun d => d.parameters.length) = some 1 := by decide +kernel
set_option maxHeartbeats 4000000 in
set_option maxRecDepth 100000 in
theorem kX5_copyFrom (l : Launch) (D : va_G) (cS : ClassId) (g : Nat → Nat) (cI : ClassId) (z z2 : Nat → Nat) (N : Sn × Sn) (M' : Sn × Sn) (hF : fX5_copyFrom N = some M') : mV l yX5_copyFrom vX5_copyFrom rmX5_copyFrom D cI cS g [.ref (z 0), .ref (z2 0)] (wQQ cI z z2 N) (wQQ cI z z2 (M')) := by
  refine st_V rfl (by decide) (Nat.le_of_ble_eq_true rfl) ?_
  intro p e s m args below meth c A ls hx hb hr hml hlocks hown hts hA hK hD0 hG hP hS hl
  have hown : s.vm.findClass RX5 = some m.cls := hown
  have hDa : ∀ N, va_D A (wQQ cI z z2 N) := fun N => hD0.adr rfl
  have htb : ∀ w ∈ BIG, w.before args s = true := fun w h => hts w (List.mem_cons_of_mem _ h)
  have hl : lv_has ls 2 [(0, .ref (z 0)), (1, .ref (z2 0))] := hl
  refine lv_aload_n hx hb dX5_copyFrom_0 rfl (lv_at hl 0 rfl) ?_
  refine va_get (ci := 5) (v := .ref (z 1)) (C := RX5) (T := TX5) (N := 3) hx hb htb kin5 hown hK hP 0 (pQQ_0 cI z z2 N) rfl 0 (by decide) (htb _ bw1_118) (fun _ h9 => h9) rfl dX5_copyFrom_1 ?_
  refine lv_aload_n hx hb dX5_copyFrom_4 rfl (lv_at hl 1 rfl) ?_
  refine va_get (ci := 5) (v := .ref (z2 1)) (C := RX5) (T := TX5) (N := 3) hx hb htb kin5 hown hK hP 36 (pQQ_36 cI z z2 N) rfl 0 (by decide) (htb _ bw1_118) (fun _ h9 => h9) rfl dX5_copyFrom_5 ?_
  obtain ⟨M1, hM1, hF⟩ := bd_use hF
  refine cl_VV ⟨hx, hb, hml, hown, htb⟩ (kX7_copyFrom l D cS g cI (fun k => z (1 + k)) (fun k => z2 (1 + k)) ((N.1.1, N.2.1))  _ hM1) (cwV 1 htb (gX7_copyFrom bw2_57) rfl rfl rfl hdX7_copyFrom ⟨Nat.le_of_ble_eq_true rfl, Nat.le_of_ble_eq_true rfl⟩) hK (hDa _) hG hA hP hS (sg_QQ_VV cI z z2 N M1) hl.1 rfl 0 (pVV_0 _ _ _ _) rfl rfl (Nat.le_of_ble_eq_true rfl) dX5_copyFrom_8 (fun H locs hP hS => ?_)
  obtain ⟨M2, eM2⟩ : ∃ z : Sn × Sn, z = ((M1.1, N.1.2), (M1.2, N.2.2)) := ⟨_, rfl⟩
  have hF := nm_use hF eM2
  have hP : va_P D vwCl (wQQ cI z z2 M2) H := by rw [eM2]; exact hP
  refine lv_aload_n hx hb dX5_copyFrom_11 rfl (lv_at hl 0 rfl) ?_
  refine va_get (ci := 5) (v := .ref (z 12)) (C := RX5) (T := TX5) (N := 3) hx hb htb kin5 hown hK hP 0 (pQQ_0 cI z z2 M2) rfl 1 (by decide) (htb _ bw1_120) (fun _ h9 => h9) rfl dX5_copyFrom_12 ?_
  refine lv_aload_n hx hb dX5_copyFrom_15 rfl (lv_at hl 1 rfl) ?_
  refine va_get (ci := 5) (v := .ref (z2 12)) (C := RX5) (T := TX5) (N := 3) hx hb htb kin5 hown hK hP 36 (pQQ_36 cI z z2 M2) rfl 1 (by decide) (htb _ bw1_120) (fun _ h9 => h9) rfl dX5_copyFrom_16 ?_
  obtain ⟨M3, hM3, hF⟩ := bd_use hF
  refine cl_VV ⟨hx, hb, hml, hown, htb⟩ (kX4_copyFrom l D cS g cI (z 12) (fun k => z (13 + k)) (z2 12) (fun k => z2 (13 + k)) ((M2.1.2.1, M2.2.2.1))  _ hM3) (cwV 1 htb (gX4_copyFrom bw2_71) rfl rfl rfl hdX4_copyFrom ⟨Nat.le_of_ble_eq_true rfl, Nat.le_of_ble_eq_true rfl⟩) hK (hDa _) hG hA hP hS (sg_QQ_SS1 cI z z2 M2 M3) hl.1 rfl 0 (pSS_0 _ _ _ _ _ _) rfl rfl (Nat.le_of_ble_eq_true rfl) dX5_copyFrom_19 (fun H locs hP hS => ?_)
  obtain ⟨M4, eM4⟩ : ∃ z : Sn × Sn, z = ((M2.1.1, M3.1, M2.1.2.2), (M2.2.1, M3.2, M2.2.2.2)) := ⟨_, rfl⟩
  have hF := nm_use hF eM4
  have hP : va_P D vwCl (wQQ cI z z2 M4) H := by rw [eM4]; exact hP
  refine lv_aload_n hx hb dX5_copyFrom_22 rfl (lv_at hl 0 rfl) ?_
  refine va_get (ci := 5) (v := .ref (z 24)) (C := RX5) (T := TX5) (N := 3) hx hb htb kin5 hown hK hP 0 (pQQ_0 cI z z2 M4) rfl 2 (by decide) (htb _ bw1_121) (fun _ h9 => h9) rfl dX5_copyFrom_23 ?_
  refine lv_aload_n hx hb dX5_copyFrom_26 rfl (lv_at hl 1 rfl) ?_
  refine va_get (ci := 5) (v := .ref (z2 24)) (C := RX5) (T := TX5) (N := 3) hx hb htb kin5 hown hK hP 36 (pQQ_36 cI z z2 M4) rfl 2 (by decide) (htb _ bw1_121) (fun _ h9 => h9) rfl dX5_copyFrom_27 ?_
  obtain ⟨M5, hM5, hF⟩ := bd_use hF
  refine cl_VV ⟨hx, hb, hml, hown, htb⟩ (kX4_copyFrom l D cS g cI (z 24) (fun k => z (25 + k)) (z2 24) (fun k => z2 (25 + k)) ((M4.1.2.2, M4.2.2.2))  _ hM5) (cwV 1 htb (gX4_copyFrom bw2_71) rfl rfl rfl hdX4_copyFrom ⟨Nat.le_of_ble_eq_true rfl, Nat.le_of_ble_eq_true rfl⟩) hK (hDa _) hG hA hP hS (sg_QQ_SS2 cI z z2 M4 M5) hl.1 rfl 0 (pSS_0 _ _ _ _ _ _) rfl rfl (Nat.le_of_ble_eq_true rfl) dX5_copyFrom_30 (fun H locs hP hS => ?_)
  obtain ⟨M6, eM6⟩ : ∃ z : Sn × Sn, z = ((M4.1.1, M4.1.2.1, M5.1), (M4.2.1, M4.2.2.1, M5.2)) := ⟨_, rfl⟩
  have hF := nm_use hF eM6
  have hP : va_P D vwCl (wQQ cI z z2 M6) H := by rw [eM6]; exact hP
  exact rt_V hx hb hr hlocks hS (by rw [← so_use hF]; exact hP) dX5_copyFrom_33

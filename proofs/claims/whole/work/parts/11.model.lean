noncomputable def fX9_doRoom_l75  (x1 : Int32) (x2 : Int32) (x3 : Int32) (x4 : Int32) (x5 : Int32) (kk : Md → Option (Int32 × Md)) : Nat → Md → Int32 → Option (Int32 × Md) := fun fu => Nat.rec (motive := fun _ => Md → Int32 → Option (Int32 × Md)) (fun _ _ => none) (fun _ ih => fun M x6 => if 11 ≤ x6 then (kk M) else (Wr (M.1) 1553 (x5 + x6) 0 fun f14 => nm ((f14, M.2)) fun M15 => nm (x6 + 1) fun v16 => ih M15 v16)) fu
theorem fX9_doRoom_l75_s  (x1 : Int32) (x2 : Int32) (x3 : Int32) (x4 : Int32) (x5 : Int32) (kk : Md → Option (Int32 × Md)) (fu : Nat) (M : Md) (x6 : Int32) : fX9_doRoom_l75 x1 x2 x3 x4 x5 kk (fu + 1) M x6 = (if 11 ≤ x6 then (kk M) else (Wr (M.1) 1553 (x5 + x6) 0 fun f14 => nm ((f14, M.2)) fun M15 => nm (x6 + 1) fun v16 => (fX9_doRoom_l75 x1 x2 x3 x4 x5 kk fu) M15 v16)) := rfl
theorem fX9_doRoom_l75_z  (x1 : Int32) (x2 : Int32) (x3 : Int32) (x4 : Int32) (x5 : Int32) (kk : Md → Option (Int32 × Md)) (M : Md) (x6 : Int32) : fX9_doRoom_l75 x1 x2 x3 x4 x5 kk 0 M x6 = none := rfl
noncomputable def fX9_doRoom  (M : Md) (x1 : Int32) (x2 : Int32) (x3 : Int32) (x4 : Int32) : Option (Int32 × Md) := (fX9_in x1 20 120).bind fun r1 => if r1 = 0 then (some ((-1), M)) else ((fX9_in x2 0 60).bind fun r3 => if r3 = 0 then (some ((-1), M)) else ((fX9_in x3 1 200).bind fun r5 => if r5 = 0 then (some ((-1), M)) else ((fX9_in x4 2 8).bind fun r7 => if r7 = 0 then (some ((-1), M)) else (Rd (M.1) 1553 0 fun v9 => if v9 = 4 then (some ((-3), M)) else (Rd (M.1) 1553 0 fun v11 => nm (9 + (11 * v11)) fun v12 => fX9_doRoom_l75 x1 x2 x3 x4 v12 (fun M17 => Wr (M17.1) 1553 (v12 + 0) x1 fun f18 => nm ((f18, M17.2)) fun M19 => Wr (M19.1) 1553 (v12 + 1) x2 fun f20 => nm ((f20, M19.2)) fun M21 => Wr (M21.1) 1553 (v12 + 2) x3 fun f22 => nm ((f22, M21.2)) fun M23 => Wr (M23.1) 1553 (v12 + 3) x4 fun f24 => nm ((f24, M23.2)) fun M25 => Rd (M25.1) 1553 0 fun v26 => Wr (M25.1) 1553 0 (v26 + 1) fun f27 => nm ((f27, M25.2)) fun M28 => Rd (M28.1) 1553 0 fun v29 => some (v29 - 1, M28)) FU M 0)))))
abbrev vX9_doRoom : List Cond := Cond.code yX9_doRoom cX9_doRoom 7 (some .int) :: BIG
theorem gX9_doRoom {own : String} {idx : Nat} (h : (Cond.methodLink own idx yX9_doRoom) ∈ BIG) : GoodIn BIG (wsV own idx RX9 yX9_doRoom vX9_doRoom) := gdV h bw4_66 bs22 bw1_11 bw4_67
def rmX9_doRoom : Room := { frames := 1, cells := 0, slots := 0, locals := 22 }
theorem hdX9_doRoom : yX9_doRoom.cls = RX9 ∧ yX9_doRoom.cls ≠ "java/lang/invoke/MethodHandle" ∧ yX9_doRoom.cls ≠ "java/lang/invoke/VarHandle" ∧ (parseMethodDescriptor yX9_doRoom.desc).map (fun d => d.parameters.length) = some 4 := by decide +kernel
set_option maxHeartbeats 4000000 in
set_option maxRecDepth 100000 in
theorem kX9_doRoom (l : Launch) (D : va_G) (cS : ClassId) (g : Nat → Nat) (cI : ClassId) (b : Nat → Nat) (M : Md) (x1 : Int32) (x2 : Int32) (x3 : Int32) (x4 : Int32) (r : Int32) (M' : Md) (hF : fX9_doRoom M x1 x2 x3 x4 = some (r, M')) : mI l yX9_doRoom vX9_doRoom rmX9_doRoom D cI cS g [.ref (b 0), .int x1, .int x2, .int x3, .int x4] (wMd cI b M) r (wMd cI b (M')) := by
  refine st_I rfl (by decide) (Nat.le_of_ble_eq_true rfl) ?_
  intro p e s m args below meth c A ls hx hb hr hml hlocks hown hts hA hK hD0 hG hP hS hl
  have hown : s.vm.findClass RX9 = some m.cls := hown
  have hDa : ∀ M, va_D A (wMd cI b M) := fun M => hD0.adr rfl
  have htb : ∀ w ∈ BIG, w.before args s = true := fun w h => hts w (List.mem_cons_of_mem _ h)
  have hl : lv_has ls 7 [(0, .ref (b 0)), (1, .int x1), (2, .int x2), (3, .int x3), (4, .int x4)] := hl
  have l75 : ∀ (x1 : Int32) (x2 : Int32) (x3 : Int32) (x4 : Int32) (x5 : Int32) (kk : Md → Option (Int32 × Md)) (fu : Nat) (M : Md) (x6 : Int32) (H : Heap) (locs : List Loc) (ls : Array Slot), fX9_doRoom_l75 x1 x2 x3 x4 x5 kk fu M x6 = some (r, M') → va_P D vwCl (wMd cI b M) H → va_S A s.heap H locs → lv_has ls 7 [(0, .ref (b 0)), (1, .int x1), (2, .int x2), (3, .int x3), (4, .int x4), (5, .int x5), (6, .int x6)] → (∀ (M : Md) (H : Heap) (locs : List Loc) (ls : Array Slot), kk M = some (r, M') → va_P D vwCl (wMd cI b M) H → va_S A s.heap H locs → lv_has ls 7 [(0, .ref (b 0)), (1, .int x1), (2, .int x2), (3, .int x3), (4, .int x4), (5, .int x5)] → W p l e rmX9_doRoom s m args below meth c H locs 0 0 (MQ below (qI D r (wMd cI b (M')) A) args s 0 0 A) (F0 m 99 ls [])) → W p l e rmX9_doRoom s m args below meth c H locs 0 0 (MQ below (qI D r (wMd cI b (M')) A) args s 0 0 A) (F0 m 75 ls []) := by
    intro x1 x2 x3 x4 x5 kk fu
    induction fu with
    | zero => intro M x6 H locs ls hF; exact nn_use hF
    | succ fu ihn =>
      intro M x6 H locs ls hF hP hS hl after
      rw [fX9_doRoom_l75_s] at hF
      refine lv_iload hx hb dX9_doRoom_75 (lv_at hl 6 rfl) ?_
      refine lv_bipush (v := 11) hx hb dX9_doRoom_77 (by decide) ?_
      refine lv_icmp_ge (tgt := 99) hx hb dX9_doRoom_79 (by decide) (fun c13 => ?_) (fun c13 => ?_)
      · have hF := it_t hF c13
        exact after M _ _ _ hF hP hS (lv_sub hl [0, 1, 2, 3, 4, 5] rfl)
      · have hF := it_f hF c13
        refine lv_aload_n hx hb dX9_doRoom_82 rfl (lv_at hl 0 rfl) ?_
        refine va_get (ci := 9) (v := .ref (b 1)) (C := RX9) (T := TX9) (N := 10) hx hb htb kin9 hown hK hP 0 (pMd_0 cI b M) rfl 0 (by decide) (htb _ bw4_25) (fun _ h9 => h9) rfl dX9_doRoom_83 ?_
        refine lv_iload hx hb dX9_doRoom_86 (lv_at hl 5 rfl) ?_
        refine lv_iload hx hb dX9_doRoom_88 (lv_at hl 6 rfl) ?_
        refine lv_iadd hx hb dX9_doRoom_90 ?_
        refine lv_iconst (v := 0) hx hb dX9_doRoom_91 (by decide) ?_
        obtain ⟨hi, hF⟩ := wr_use hF
        refine va_iast hx hb hK hP (hDa _) hS 1 0 (pMd_1 cI b M) rfl hi dX9_doRoom_92 (fun H locs hP _ hS => ?_)
        obtain ⟨M15, eM15⟩ : ∃ z : Md, z = ((upd (M.1) (x5 + x6 : Int32).toNatClampNeg 0), M.2) := ⟨_, rfl⟩
        have hF := nm_use hF eM15
        have hP : va_P D vwCl (wMd cI b M15) H := by rw [eM15]; exact hP
        obtain ⟨v16, ev16⟩ : ∃ z : Int32, z = x6 + 1 := ⟨_, rfl⟩
        refine lv_iinc (v := v16) (lv' := [(6, .int v16), (0, .ref (b 0)), (1, .int x1), (2, .int x2), (3, .int x3), (4, .int x4), (5, .int x5)]) hx hb dX9_doRoom_93 hl (k := 6) rfl (by rw [ev16]; rfl) (by decide) rfl (fun ls hl => ?_)
        have hF := nm_use hF ev16
        refine lv_goto (tgt := 75) hx hb dX9_doRoom_96 (by decide) ?_
        exact ihn M15 v16 _ _ _ hF hP hS (lv_sub hl [1, 2, 3, 4, 5, 6, 0] rfl) after
  refine lv_iload_n hx hb dX9_doRoom_0 rfl (lv_at hl 1 rfl) ?_
  refine lv_bipush (v := 20) hx hb dX9_doRoom_1 (by decide) ?_
  refine lv_bipush (v := 120) hx hb dX9_doRoom_3 (by decide) ?_
  obtain ⟨r1, hr1, hF⟩ := bd_use hF
  refine cl_SI ⟨hx, hb, hml, hown, htb⟩ (kX9_in l D cS g cI x1 20 120 _ hr1) (va_cwS 3 htb (gX9_in bw4_68) rfl rfl rfl hdX9_in ⟨Nat.le_of_ble_eq_true rfl, Nat.le_of_ble_eq_true rfl⟩) hK (hDa _) hG hA hP hS sg_nil hl.1 rfl rfl (Nat.le_of_ble_eq_true rfl) dX9_doRoom_5 (fun H locs hP hS => ?_)
  refine lv_if_eq (tgt := 43) hx hb dX9_doRoom_8 (by decide) (fun c2 => ?_) (fun c2 => ?_)
  · have hF := it_t hF c2
    refine lv_iconst (v := (-1)) hx hb dX9_doRoom_43 (by decide) ?_
    obtain ⟨er, eM⟩ := pr_use hF
    exact rt_I hx hb hr hlocks hS (by rw [← eM]; exact hP) er dX9_doRoom_44
  · have hF := it_f hF c2
    refine lv_iload_n hx hb dX9_doRoom_11 rfl (lv_at hl 2 rfl) ?_
    refine lv_iconst (v := 0) hx hb dX9_doRoom_12 (by decide) ?_
    refine lv_bipush (v := 60) hx hb dX9_doRoom_13 (by decide) ?_
    obtain ⟨r3, hr3, hF⟩ := bd_use hF
    refine cl_SI ⟨hx, hb, hml, hown, htb⟩ (kX9_in l D cS g cI x2 0 60 _ hr3) (va_cwS 3 htb (gX9_in bw4_68) rfl rfl rfl hdX9_in ⟨Nat.le_of_ble_eq_true rfl, Nat.le_of_ble_eq_true rfl⟩) hK (hDa _) hG hA hP hS sg_nil hl.1 rfl rfl (Nat.le_of_ble_eq_true rfl) dX9_doRoom_15 (fun H locs hP hS => ?_)
    refine lv_if_eq (tgt := 43) hx hb dX9_doRoom_18 (by decide) (fun c4 => ?_) (fun c4 => ?_)
    · have hF := it_t hF c4
      refine lv_iconst (v := (-1)) hx hb dX9_doRoom_43 (by decide) ?_
      obtain ⟨er, eM⟩ := pr_use hF
      exact rt_I hx hb hr hlocks hS (by rw [← eM]; exact hP) er dX9_doRoom_44
    · have hF := it_f hF c4
      refine lv_iload_n hx hb dX9_doRoom_21 rfl (lv_at hl 3 rfl) ?_
      refine lv_iconst (v := 1) hx hb dX9_doRoom_22 (by decide) ?_
      refine lv_sipush (v := 200) hx hb dX9_doRoom_23 (by decide) ?_
      obtain ⟨r5, hr5, hF⟩ := bd_use hF
      refine cl_SI ⟨hx, hb, hml, hown, htb⟩ (kX9_in l D cS g cI x3 1 200 _ hr5) (va_cwS 3 htb (gX9_in bw4_68) rfl rfl rfl hdX9_in ⟨Nat.le_of_ble_eq_true rfl, Nat.le_of_ble_eq_true rfl⟩) hK (hDa _) hG hA hP hS sg_nil hl.1 rfl rfl (Nat.le_of_ble_eq_true rfl) dX9_doRoom_26 (fun H locs hP hS => ?_)
      refine lv_if_eq (tgt := 43) hx hb dX9_doRoom_29 (by decide) (fun c6 => ?_) (fun c6 => ?_)
      · have hF := it_t hF c6
        refine lv_iconst (v := (-1)) hx hb dX9_doRoom_43 (by decide) ?_
        obtain ⟨er, eM⟩ := pr_use hF
        exact rt_I hx hb hr hlocks hS (by rw [← eM]; exact hP) er dX9_doRoom_44
      · have hF := it_f hF c6
        refine lv_iload hx hb dX9_doRoom_32 (lv_at hl 4 rfl) ?_
        refine lv_iconst (v := 2) hx hb dX9_doRoom_34 (by decide) ?_
        refine lv_bipush (v := 8) hx hb dX9_doRoom_35 (by decide) ?_
        obtain ⟨r7, hr7, hF⟩ := bd_use hF
        refine cl_SI ⟨hx, hb, hml, hown, htb⟩ (kX9_in l D cS g cI x4 2 8 _ hr7) (va_cwS 3 htb (gX9_in bw4_68) rfl rfl rfl hdX9_in ⟨Nat.le_of_ble_eq_true rfl, Nat.le_of_ble_eq_true rfl⟩) hK (hDa _) hG hA hP hS sg_nil hl.1 rfl rfl (Nat.le_of_ble_eq_true rfl) dX9_doRoom_37 (fun H locs hP hS => ?_)
        refine lv_if_ne (tgt := 45) hx hb dX9_doRoom_40 (by decide) (fun c8 => ?_) (fun c8 => ?_)
        · have hF := it_f hF c8
          refine lv_aload_n hx hb dX9_doRoom_45 rfl (lv_at hl 0 rfl) ?_
          refine va_get (ci := 9) (v := .ref (b 1)) (C := RX9) (T := TX9) (N := 10) hx hb htb kin9 hown hK hP 0 (pMd_0 cI b M) rfl 0 (by decide) (htb _ bw4_25) (fun _ h9 => h9) rfl dX9_doRoom_46 ?_
          refine lv_iconst (v := 0) hx hb dX9_doRoom_49 (by decide) ?_
          obtain ⟨hi, hF⟩ := rd_use hF
          refine va_iald hx hb hK hP 1 0 (pMd_1 cI b M) rfl hi dX9_doRoom_50 ?_
          refine lv_topi (fun v9 ev9 => ?_)
          have hF := hF v9 ev9
          refine lv_iconst (v := 4) hx hb dX9_doRoom_51 (by decide) ?_
          refine lv_icmp_ne (tgt := 58) hx hb dX9_doRoom_52 (by decide) (fun c10 => ?_) (fun c10 => ?_)
          · have hF := it_f hF c10
            refine lv_bipush (v := 9) hx hb dX9_doRoom_58 (by decide) ?_
            refine lv_bipush (v := 11) hx hb dX9_doRoom_60 (by decide) ?_
            refine lv_aload_n hx hb dX9_doRoom_62 rfl (lv_at hl 0 rfl) ?_
            refine va_get (ci := 9) (v := .ref (b 1)) (C := RX9) (T := TX9) (N := 10) hx hb htb kin9 hown hK hP 0 (pMd_0 cI b M) rfl 0 (by decide) (htb _ bw4_25) (fun _ h9 => h9) rfl dX9_doRoom_63 ?_
            refine lv_iconst (v := 0) hx hb dX9_doRoom_66 (by decide) ?_
            obtain ⟨hi, hF⟩ := rd_use hF
            refine va_iald hx hb hK hP 1 0 (pMd_1 cI b M) rfl hi dX9_doRoom_67 ?_
            refine lv_topi (fun v11 ev11 => ?_)
            have hF := hF v11 ev11
            refine lv_imul hx hb dX9_doRoom_68 ?_
            refine lv_iadd hx hb dX9_doRoom_69 ?_
            refine lv_topi (fun v12 ev12 => ?_)
            have hF := nm_use hF ev12
            refine lv_istore (lv' := [(5, .int v12), (0, .ref (b 0)), (1, .int x1), (2, .int x2), (3, .int x3), (4, .int x4)]) hx hb dX9_doRoom_70 hl (by decide) rfl (fun ls hl => ?_)
            refine lv_iconst (v := 0) hx hb dX9_doRoom_72 (by decide) ?_
            refine lv_istore (lv' := [(6, .int 0), (5, .int v12), (0, .ref (b 0)), (1, .int x1), (2, .int x2), (3, .int x3), (4, .int x4)]) hx hb dX9_doRoom_73 hl (by decide) rfl (fun ls hl => ?_)
            refine l75 x1 x2 x3 x4 v12 _ _ M 0 _ _ _ hF hP hS (lv_sub hl [2, 3, 4, 5, 6, 1, 0] rfl) ?_
            · intro M17 H locs ls hF hP hS hl
              refine lv_aload_n hx hb dX9_doRoom_99 rfl (lv_at hl 0 rfl) ?_
              refine va_get (ci := 9) (v := .ref (b 1)) (C := RX9) (T := TX9) (N := 10) hx hb htb kin9 hown hK hP 0 (pMd_0 cI b M17) rfl 0 (by decide) (htb _ bw4_25) (fun _ h9 => h9) rfl dX9_doRoom_100 ?_
              refine lv_iload hx hb dX9_doRoom_103 (lv_at hl 5 rfl) ?_
              refine lv_iconst (v := 0) hx hb dX9_doRoom_105 (by decide) ?_
              refine lv_iadd hx hb dX9_doRoom_106 ?_
              refine lv_iload_n hx hb dX9_doRoom_107 rfl (lv_at hl 1 rfl) ?_
              obtain ⟨hi, hF⟩ := wr_use hF
              refine va_iast hx hb hK hP (hDa _) hS 1 0 (pMd_1 cI b M17) rfl hi dX9_doRoom_108 (fun H locs hP _ hS => ?_)
              obtain ⟨M19, eM19⟩ : ∃ z : Md, z = ((upd (M17.1) (v12 + 0 : Int32).toNatClampNeg x1), M17.2) := ⟨_, rfl⟩
              have hF := nm_use hF eM19
              have hP : va_P D vwCl (wMd cI b M19) H := by rw [eM19]; exact hP
              refine lv_aload_n hx hb dX9_doRoom_109 rfl (lv_at hl 0 rfl) ?_
              refine va_get (ci := 9) (v := .ref (b 1)) (C := RX9) (T := TX9) (N := 10) hx hb htb kin9 hown hK hP 0 (pMd_0 cI b M19) rfl 0 (by decide) (htb _ bw4_25) (fun _ h9 => h9) rfl dX9_doRoom_110 ?_
              refine lv_iload hx hb dX9_doRoom_113 (lv_at hl 5 rfl) ?_
              refine lv_iconst (v := 1) hx hb dX9_doRoom_115 (by decide) ?_
              refine lv_iadd hx hb dX9_doRoom_116 ?_
              refine lv_iload_n hx hb dX9_doRoom_117 rfl (lv_at hl 2 rfl) ?_
              obtain ⟨hi, hF⟩ := wr_use hF
              refine va_iast hx hb hK hP (hDa _) hS 1 0 (pMd_1 cI b M19) rfl hi dX9_doRoom_118 (fun H locs hP _ hS => ?_)
              obtain ⟨M21, eM21⟩ : ∃ z : Md, z = ((upd (M19.1) (v12 + 1 : Int32).toNatClampNeg x2), M19.2) := ⟨_, rfl⟩
              have hF := nm_use hF eM21
              have hP : va_P D vwCl (wMd cI b M21) H := by rw [eM21]; exact hP
              refine lv_aload_n hx hb dX9_doRoom_119 rfl (lv_at hl 0 rfl) ?_
              refine va_get (ci := 9) (v := .ref (b 1)) (C := RX9) (T := TX9) (N := 10) hx hb htb kin9 hown hK hP 0 (pMd_0 cI b M21) rfl 0 (by decide) (htb _ bw4_25) (fun _ h9 => h9) rfl dX9_doRoom_120 ?_
              refine lv_iload hx hb dX9_doRoom_123 (lv_at hl 5 rfl) ?_
              refine lv_iconst (v := 2) hx hb dX9_doRoom_125 (by decide) ?_
              refine lv_iadd hx hb dX9_doRoom_126 ?_
              refine lv_iload_n hx hb dX9_doRoom_127 rfl (lv_at hl 3 rfl) ?_
              obtain ⟨hi, hF⟩ := wr_use hF
              refine va_iast hx hb hK hP (hDa _) hS 1 0 (pMd_1 cI b M21) rfl hi dX9_doRoom_128 (fun H locs hP _ hS => ?_)
              obtain ⟨M23, eM23⟩ : ∃ z : Md, z = ((upd (M21.1) (v12 + 2 : Int32).toNatClampNeg x3), M21.2) := ⟨_, rfl⟩
              have hF := nm_use hF eM23
              have hP : va_P D vwCl (wMd cI b M23) H := by rw [eM23]; exact hP
              refine lv_aload_n hx hb dX9_doRoom_129 rfl (lv_at hl 0 rfl) ?_
              refine va_get (ci := 9) (v := .ref (b 1)) (C := RX9) (T := TX9) (N := 10) hx hb htb kin9 hown hK hP 0 (pMd_0 cI b M23) rfl 0 (by decide) (htb _ bw4_25) (fun _ h9 => h9) rfl dX9_doRoom_130 ?_
              refine lv_iload hx hb dX9_doRoom_133 (lv_at hl 5 rfl) ?_
              refine lv_iconst (v := 3) hx hb dX9_doRoom_135 (by decide) ?_
              refine lv_iadd hx hb dX9_doRoom_136 ?_
              refine lv_iload hx hb dX9_doRoom_137 (lv_at hl 4 rfl) ?_
              obtain ⟨hi, hF⟩ := wr_use hF
              refine va_iast hx hb hK hP (hDa _) hS 1 0 (pMd_1 cI b M23) rfl hi dX9_doRoom_139 (fun H locs hP _ hS => ?_)
              obtain ⟨M25, eM25⟩ : ∃ z : Md, z = ((upd (M23.1) (v12 + 3 : Int32).toNatClampNeg x4), M23.2) := ⟨_, rfl⟩
              have hF := nm_use hF eM25
              have hP : va_P D vwCl (wMd cI b M25) H := by rw [eM25]; exact hP
              refine lv_aload_n hx hb dX9_doRoom_140 rfl (lv_at hl 0 rfl) ?_
              refine va_get (ci := 9) (v := .ref (b 1)) (C := RX9) (T := TX9) (N := 10) hx hb htb kin9 hown hK hP 0 (pMd_0 cI b M25) rfl 0 (by decide) (htb _ bw4_25) (fun _ h9 => h9) rfl dX9_doRoom_141 ?_
              refine lv_iconst (v := 0) hx hb dX9_doRoom_144 (by decide) ?_
              refine lv_dup2_11 hx hb dX9_doRoom_145 rfl rfl ?_
              obtain ⟨hi, hF⟩ := rd_use hF
              refine va_iald hx hb hK hP 1 0 (pMd_1 cI b M25) rfl hi dX9_doRoom_146 ?_
              refine lv_topi (fun v26 ev26 => ?_)
              have hF := hF v26 ev26
              refine lv_iconst (v := 1) hx hb dX9_doRoom_147 (by decide) ?_
              refine lv_iadd hx hb dX9_doRoom_148 ?_
              obtain ⟨hi, hF⟩ := wr_use hF
              refine va_iast hx hb hK hP (hDa _) hS 1 0 (pMd_1 cI b M25) rfl hi dX9_doRoom_149 (fun H locs hP _ hS => ?_)
              obtain ⟨M28, eM28⟩ : ∃ z : Md, z = ((upd (M25.1) (0 : Int32).toNatClampNeg (v26 + 1)), M25.2) := ⟨_, rfl⟩
              have hF := nm_use hF eM28
              have hP : va_P D vwCl (wMd cI b M28) H := by rw [eM28]; exact hP
              refine lv_aload_n hx hb dX9_doRoom_150 rfl (lv_at hl 0 rfl) ?_
              refine va_get (ci := 9) (v := .ref (b 1)) (C := RX9) (T := TX9) (N := 10) hx hb htb kin9 hown hK hP 0 (pMd_0 cI b M28) rfl 0 (by decide) (htb _ bw4_25) (fun _ h9 => h9) rfl dX9_doRoom_151 ?_
              refine lv_iconst (v := 0) hx hb dX9_doRoom_154 (by decide) ?_
              obtain ⟨hi, hF⟩ := rd_use hF
              refine va_iald hx hb hK hP 1 0 (pMd_1 cI b M28) rfl hi dX9_doRoom_155 ?_
              refine lv_topi (fun v29 ev29 => ?_)
              have hF := hF v29 ev29
              refine lv_iconst (v := 1) hx hb dX9_doRoom_156 (by decide) ?_
              refine lv_isub hx hb dX9_doRoom_157 ?_
              obtain ⟨er, eM⟩ := pr_use hF
              exact rt_I hx hb hr hlocks hS (by rw [← eM]; exact hP) er dX9_doRoom_158
          · have hF := it_t hF c10
            refine lv_bipush (v := (-3)) hx hb dX9_doRoom_55 (by decide) ?_
            obtain ⟨er, eM⟩ := pr_use hF
            exact rt_I hx hb hr hlocks hS (by rw [← eM]; exact hP) er dX9_doRoom_57
        · have hF := it_t hF c8
          refine lv_iconst (v := (-1)) hx hb dX9_doRoom_43 (by decide) ?_
          obtain ⟨er, eM⟩ := pr_use hF
          exact rt_I hx hb hr hlocks hS (by rw [← eM]; exact hP) er dX9_doRoom_44
noncomputable def fX9_addRoom  (M : Md) (x1 : Int32) (x2 : Int32) (x3 : Int32) (x4 : Int32) : Option (Int32 × Md) := (fX9_hold M).bind fun M1 => b2 (fX9_doRoom M1 x1 x2 x3 x4) fun r3 M2 => b2 (fX9_ends M2 r3) fun r5 M4 => some (r5, M4)
abbrev vX9_addRoom : List Cond := Cond.code yX9_addRoom cX9_addRoom 5 (some .int) :: BIG
theorem gX9_addRoom {own : String} {idx : Nat} (h : (Cond.methodLink own idx yX9_addRoom) ∈ BIG) : GoodIn BIG (wsV own idx RX9 yX9_addRoom vX9_addRoom) := gdV h bw4_57 bw4_58 bw1_11 bw4_59
def rmX9_addRoom : Room := { frames := 2, cells := 0, slots := 0, locals := 48 }
theorem hdX9_addRoom : yX9_addRoom.cls = RX9 ∧ yX9_addRoom.cls ≠ "java/lang/invoke/MethodHandle" ∧ yX9_addRoom.cls ≠ "java/lang/invoke/VarHandle" ∧ (parseMethodDescriptor yX9_addRoom.desc).map (fun d => d.parameters.length) = some 4 := by decide +kernel
set_option maxHeartbeats 4000000 in
set_option maxRecDepth 100000 in
theorem kX9_addRoom (l : Launch) (D : va_G) (cS : ClassId) (g : Nat → Nat) (cI : ClassId) (b : Nat → Nat) (M : Md) (x1 : Int32) (x2 : Int32) (x3 : Int32) (x4 : Int32) (r : Int32) (M' : Md) (hF : fX9_addRoom M x1 x2 x3 x4 = some (r, M')) : mI l yX9_addRoom vX9_addRoom rmX9_addRoom D cI cS g [.ref (b 0), .int x1, .int x2, .int x3, .int x4] (wMd cI b M) r (wMd cI b (M')) := by
  refine st_I rfl (by decide) (Nat.le_of_ble_eq_true rfl) ?_
  intro p e s m args below meth c A ls hx hb hr hml hlocks hown hts hA hK hD0 hG hP hS hl
  have hown : s.vm.findClass RX9 = some m.cls := hown
  have hDa : ∀ M, va_D A (wMd cI b M) := fun M => hD0.adr rfl
  have htb : ∀ w ∈ BIG, w.before args s = true := fun w h => hts w (List.mem_cons_of_mem _ h)
  have hl : lv_has ls 5 [(0, .ref (b 0)), (1, .int x1), (2, .int x2), (3, .int x3), (4, .int x4)] := hl
  refine lv_aload_n hx hb dX9_addRoom_0 rfl (lv_at hl 0 rfl) ?_
  obtain ⟨M1, hM1, hF⟩ := bd_use hF
  refine cl_VV ⟨hx, hb, hml, hown, htb⟩ (kX9_hold l D cS g cI b M  _ hM1) (cwV 0 htb (gX9_hold bw4_60) rfl rfl rfl hdX9_hold ⟨Nat.le_of_ble_eq_true rfl, Nat.le_of_ble_eq_true rfl⟩) hK (hDa _) hG hA hP hS (sg_Md_Md cI b M M1) hl.1 rfl 0 (pMd_0 _ _ _) rfl rfl (Nat.le_of_ble_eq_true rfl) dX9_addRoom_1 (fun H locs hP hS => ?_)
  refine lv_aload_n hx hb dX9_addRoom_4 rfl (lv_at hl 0 rfl) ?_
  refine lv_aload_n hx hb dX9_addRoom_5 rfl (lv_at hl 0 rfl) ?_
  refine lv_iload_n hx hb dX9_addRoom_6 rfl (lv_at hl 1 rfl) ?_
  refine lv_iload_n hx hb dX9_addRoom_7 rfl (lv_at hl 2 rfl) ?_
  refine lv_iload_n hx hb dX9_addRoom_8 rfl (lv_at hl 3 rfl) ?_
  refine lv_iload hx hb dX9_addRoom_9 (lv_at hl 4 rfl) ?_
  obtain ⟨r3, M2, hM2, hF⟩ := b2_use hF
  refine cl_VI ⟨hx, hb, hml, hown, htb⟩ (kX9_doRoom l D cS g cI b M1 x1 x2 x3 x4 _ _ hM2) (cwV 4 htb (gX9_doRoom bw4_64) rfl rfl rfl hdX9_doRoom ⟨Nat.le_of_ble_eq_true rfl, Nat.le_of_ble_eq_true rfl⟩) hK (hDa _) hG hA hP hS (sg_Md_Md cI b M1 M2) hl.1 rfl 0 (pMd_0 _ _ _) rfl rfl (Nat.le_of_ble_eq_true rfl) dX9_addRoom_11 (fun H locs hP hS => ?_)
  obtain ⟨r5, M4, hM4, hF⟩ := b2_use hF
  refine cl_VI ⟨hx, hb, hml, hown, htb⟩ (kX9_ends l D cS g cI b M2 r3 _ _ hM4) (cwV 1 htb (gX9_ends bw4_71) rfl rfl rfl hdX9_ends ⟨Nat.le_of_ble_eq_true rfl, Nat.le_of_ble_eq_true rfl⟩) hK (hDa _) hG hA hP hS (sg_Md_Md cI b M2 M4) hl.1 rfl 0 (pMd_0 _ _ _) rfl rfl (Nat.le_of_ble_eq_true rfl) dX9_addRoom_14 (fun H locs hP hS => ?_)
  obtain ⟨er, eM⟩ := pr_use hF
  exact rt_I hx hb hr hlocks hS (by rw [← eM]; exact hP) er dX9_addRoom_17
noncomputable def fX9_setPrice  (M : Md) (x1 : Int32) (x2 : Int32) : Option (Int32 × Md) := (fX9_isRoom M x1).bind fun r1 => if r1 = 0 then (some ((-1), M)) else ((fX9_in x2 1 200).bind fun r3 => if r3 = 0 then (some ((-1), M)) else ((fX9_hold M).bind fun M5 => (fX9_of M5 x1 2).bind fun r6 => Wr (M5.1) 1553 ((9 + (11 * x1)) + 2) x2 fun f7 => nm ((f7, M5.2)) fun M8 => b2 (fX9_ends M8 r6) fun r10 M9 => some (r10, M9)))
abbrev vX9_setPrice : List Cond := Cond.code yX9_setPrice cX9_setPrice 4 (some .int) :: BIG
theorem gX9_setPrice {own : String} {idx : Nat} (h : (Cond.methodLink own idx yX9_setPrice) ∈ BIG) : GoodIn BIG (wsV own idx RX9 yX9_setPrice vX9_setPrice) := gdV h bw4_76 bw4_77 bw1_11 bw4_78
def rmX9_setPrice : Room := { frames := 1, cells := 0, slots := 0, locals := 22 }
theorem hdX9_setPrice : yX9_setPrice.cls = RX9 ∧ yX9_setPrice.cls ≠ "java/lang/invoke/MethodHandle" ∧ yX9_setPrice.cls ≠ "java/lang/invoke/VarHandle" ∧ (parseMethodDescriptor yX9_setPrice.desc).map (fun d => d.parameters.length) = some 2 := by decide +kernel
set_option maxHeartbeats 4000000 in
set_option maxRecDepth 100000 in
theorem kX9_setPrice (l : Launch) (D : va_G) (cS : ClassId) (g : Nat → Nat) (cI : ClassId) (b : Nat → Nat) (M : Md) (x1 : Int32) (x2 : Int32) (r : Int32) (M' : Md) (hF : fX9_setPrice M x1 x2 = some (r, M')) : mI l yX9_setPrice vX9_setPrice rmX9_setPrice D cI cS g [.ref (b 0), .int x1, .int x2] (wMd cI b M) r (wMd cI b (M')) := by
  refine st_I rfl (by decide) (Nat.le_of_ble_eq_true rfl) ?_
  intro p e s m args below meth c A ls hx hb hr hml hlocks hown hts hA hK hD0 hG hP hS hl
  have hown : s.vm.findClass RX9 = some m.cls := hown
  have hDa : ∀ M, va_D A (wMd cI b M) := fun M => hD0.adr rfl
  have htb : ∀ w ∈ BIG, w.before args s = true := fun w h => hts w (List.mem_cons_of_mem _ h)
  have hl : lv_has ls 4 [(0, .ref (b 0)), (1, .int x1), (2, .int x2)] := hl
  refine lv_aload_n hx hb dX9_setPrice_0 rfl (lv_at hl 0 rfl) ?_
  refine lv_iload_n hx hb dX9_setPrice_1 rfl (lv_at hl 1 rfl) ?_
  obtain ⟨r1, hr1, hF⟩ := bd_use hF
  refine cl_VI ⟨hx, hb, hml, hown, htb⟩ (kX9_isRoom l D cS g cI b M x1 _ hr1) (cwV 1 htb (gX9_isRoom bw4_79) rfl rfl rfl hdX9_isRoom ⟨Nat.le_of_ble_eq_true rfl, Nat.le_of_ble_eq_true rfl⟩) hK (hDa _) hG hA hP hS (sr_Md_Md cI b M) hl.1 rfl 0 (pMd_0 _ _ _) rfl rfl (Nat.le_of_ble_eq_true rfl) dX9_setPrice_2 (fun H locs hP hS => ?_)
  refine lv_if_eq (tgt := 19) hx hb dX9_setPrice_5 (by decide) (fun c2 => ?_) (fun c2 => ?_)
  · have hF := it_t hF c2
    refine lv_iconst (v := (-1)) hx hb dX9_setPrice_19 (by decide) ?_
    obtain ⟨er, eM⟩ := pr_use hF
    exact rt_I hx hb hr hlocks hS (by rw [← eM]; exact hP) er dX9_setPrice_20
  · have hF := it_f hF c2
    refine lv_iload_n hx hb dX9_setPrice_8 rfl (lv_at hl 2 rfl) ?_
    refine lv_iconst (v := 1) hx hb dX9_setPrice_9 (by decide) ?_
    refine lv_sipush (v := 200) hx hb dX9_setPrice_10 (by decide) ?_
    obtain ⟨r3, hr3, hF⟩ := bd_use hF
    refine cl_SI ⟨hx, hb, hml, hown, htb⟩ (kX9_in l D cS g cI x2 1 200 _ hr3) (va_cwS 3 htb (gX9_in bw4_68) rfl rfl rfl hdX9_in ⟨Nat.le_of_ble_eq_true rfl, Nat.le_of_ble_eq_true rfl⟩) hK (hDa _) hG hA hP hS sg_nil hl.1 rfl rfl (Nat.le_of_ble_eq_true rfl) dX9_setPrice_13 (fun H locs hP hS => ?_)
    refine lv_if_ne (tgt := 21) hx hb dX9_setPrice_16 (by decide) (fun c4 => ?_) (fun c4 => ?_)
    · have hF := it_f hF c4
      refine lv_aload_n hx hb dX9_setPrice_21 rfl (lv_at hl 0 rfl) ?_
      obtain ⟨M5, hM5, hF⟩ := bd_use hF
      refine cl_VV ⟨hx, hb, hml, hown, htb⟩ (kX9_hold l D cS g cI b M  _ hM5) (cwV 0 htb (gX9_hold bw4_60) rfl rfl rfl hdX9_hold ⟨Nat.le_of_ble_eq_true rfl, Nat.le_of_ble_eq_true rfl⟩) hK (hDa _) hG hA hP hS (sg_Md_Md cI b M M5) hl.1 rfl 0 (pMd_0 _ _ _) rfl rfl (Nat.le_of_ble_eq_true rfl) dX9_setPrice_22 (fun H locs hP hS => ?_)
      refine lv_aload_n hx hb dX9_setPrice_25 rfl (lv_at hl 0 rfl) ?_
      refine lv_iload_n hx hb dX9_setPrice_26 rfl (lv_at hl 1 rfl) ?_
      refine lv_iconst (v := 2) hx hb dX9_setPrice_27 (by decide) ?_
      obtain ⟨r6, hr6, hF⟩ := bd_use hF
      refine cl_VI ⟨hx, hb, hml, hown, htb⟩ (kX9_of l D cS g cI b M5 x1 2 _ hr6) (cwV 2 htb (gX9_of bw4_83) rfl rfl rfl hdX9_of ⟨Nat.le_of_ble_eq_true rfl, Nat.le_of_ble_eq_true rfl⟩) hK (hDa _) hG hA hP hS (sr_Md_Md cI b M5) hl.1 rfl 0 (pMd_0 _ _ _) rfl rfl (Nat.le_of_ble_eq_true rfl) dX9_setPrice_28 (fun H locs hP hS => ?_)
      refine lv_istore_n (lv' := [(3, .int r6), (0, .ref (b 0)), (1, .int x1), (2, .int x2)]) hx hb dX9_setPrice_31 rfl hl (by decide) rfl (fun ls hl => ?_)
      refine lv_aload_n hx hb dX9_setPrice_32 rfl (lv_at hl 1 rfl) ?_
      refine va_get (ci := 9) (v := .ref (b 1)) (C := RX9) (T := TX9) (N := 10) hx hb htb kin9 hown hK hP 0 (pMd_0 cI b M5) rfl 0 (by decide) (htb _ bw4_25) (fun _ h9 => h9) rfl dX9_setPrice_33 ?_
      refine lv_bipush (v := 9) hx hb dX9_setPrice_36 (by decide) ?_
      refine lv_bipush (v := 11) hx hb dX9_setPrice_38 (by decide) ?_
      refine lv_iload_n hx hb dX9_setPrice_40 rfl (lv_at hl 2 rfl) ?_
      refine lv_imul hx hb dX9_setPrice_41 ?_
      refine lv_iadd hx hb dX9_setPrice_42 ?_
      refine lv_iconst (v := 2) hx hb dX9_setPrice_43 (by decide) ?_
      refine lv_iadd hx hb dX9_setPrice_44 ?_
      refine lv_iload_n hx hb dX9_setPrice_45 rfl (lv_at hl 3 rfl) ?_
      obtain ⟨hi, hF⟩ := wr_use hF
      refine va_iast hx hb hK hP (hDa _) hS 1 0 (pMd_1 cI b M5) rfl hi dX9_setPrice_46 (fun H locs hP _ hS => ?_)
      obtain ⟨M8, eM8⟩ : ∃ z : Md, z = ((upd (M5.1) ((9 + (11 * x1)) + 2 : Int32).toNatClampNeg x2), M5.2) := ⟨_, rfl⟩
      have hF := nm_use hF eM8
      have hP : va_P D vwCl (wMd cI b M8) H := by rw [eM8]; exact hP
      refine lv_aload_n hx hb dX9_setPrice_47 rfl (lv_at hl 1 rfl) ?_
      refine lv_iload_n hx hb dX9_setPrice_48 rfl (lv_at hl 0 rfl) ?_
      obtain ⟨r10, M9, hM9, hF⟩ := b2_use hF
      refine cl_VI ⟨hx, hb, hml, hown, htb⟩ (kX9_ends l D cS g cI b M8 r6 _ _ hM9) (cwV 1 htb (gX9_ends bw4_71) rfl rfl rfl hdX9_ends ⟨Nat.le_of_ble_eq_true rfl, Nat.le_of_ble_eq_true rfl⟩) hK (hDa _) hG hA hP hS (sg_Md_Md cI b M8 M9) hl.1 rfl 0 (pMd_0 _ _ _) rfl rfl (Nat.le_of_ble_eq_true rfl) dX9_setPrice_49 (fun H locs hP hS => ?_)
      obtain ⟨er, eM⟩ := pr_use hF
      exact rt_I hx hb hr hlocks hS (by rw [← eM]; exact hP) er dX9_setPrice_52
    · have hF := it_t hF c4
      refine lv_iconst (v := (-1)) hx hb dX9_setPrice_19 (by decide) ?_
      obtain ⟨er, eM⟩ := pr_use hF
      exact rt_I hx hb hr hlocks hS (by rw [← eM]; exact hP) er dX9_setPrice_20
noncomputable def fX9_set  (M : Md) (x1 : Int32) (x2 : Int32) : Option (Int32 × Md) := (fX9_in x1 0 4).bind fun r1 => if r1 = 0 then (some ((-1), M)) else ((fX9_highest x1).bind fun r3 => (fX9_in x2 0 r3).bind fun r4 => if r4 = 0 then (some ((-1), M)) else ((fX9_hold M).bind fun M6 => Rd (M6.1) 1553 (4 + x1) fun v7 => Wr (M6.1) 1553 (4 + x1) x2 fun f8 => nm ((f8, M6.2)) fun M9 => b2 (fX9_ends M9 v7) fun r11 M10 => some (r11, M10)))
abbrev vX9_set : List Cond := Cond.code yX9_set cX9_set 4 (some .int) :: BIG
theorem gX9_set {own : String} {idx : Nat} (h : (Cond.methodLink own idx yX9_set) ∈ BIG) : GoodIn BIG (wsV own idx RX9 yX9_set vX9_set) := gdV h bw4_88 bw4_89 bw1_11 bw4_90
def rmX9_set : Room := { frames := 1, cells := 0, slots := 0, locals := 22 }
theorem hdX9_set : yX9_set.cls = RX9 ∧ yX9_set.cls ≠ "java/lang/invoke/MethodHandle" ∧ yX9_set.cls ≠ "java/lang/invoke/VarHandle" ∧ (parseMethodDescriptor yX9_set.desc).map (fun d => d.parameters.length) = some 2 := by decide +kernel
set_option maxHeartbeats 4000000 in
set_option maxRecDepth 100000 in
theorem kX9_set (l : Launch) (D : va_G) (cS : ClassId) (g : Nat → Nat) (cI : ClassId) (b : Nat → Nat) (M : Md) (x1 : Int32) (x2 : Int32) (r : Int32) (M' : Md) (hF : fX9_set M x1 x2 = some (r, M')) : mI l yX9_set vX9_set rmX9_set D cI cS g [.ref (b 0), .int x1, .int x2] (wMd cI b M) r (wMd cI b (M')) := by
  refine st_I rfl (by decide) (Nat.le_of_ble_eq_true rfl) ?_
  intro p e s m args below meth c A ls hx hb hr hml hlocks hown hts hA hK hD0 hG hP hS hl
  have hown : s.vm.findClass RX9 = some m.cls := hown
  have hDa : ∀ M, va_D A (wMd cI b M) := fun M => hD0.adr rfl
  have htb : ∀ w ∈ BIG, w.before args s = true := fun w h => hts w (List.mem_cons_of_mem _ h)
  have hl : lv_has ls 4 [(0, .ref (b 0)), (1, .int x1), (2, .int x2)] := hl
  refine lv_iload_n hx hb dX9_set_0 rfl (lv_at hl 1 rfl) ?_
  refine lv_iconst (v := 0) hx hb dX9_set_1 (by decide) ?_
  refine lv_iconst (v := 4) hx hb dX9_set_2 (by decide) ?_
  obtain ⟨r1, hr1, hF⟩ := bd_use hF
  refine cl_SI ⟨hx, hb, hml, hown, htb⟩ (kX9_in l D cS g cI x1 0 4 _ hr1) (va_cwS 3 htb (gX9_in bw4_68) rfl rfl rfl hdX9_in ⟨Nat.le_of_ble_eq_true rfl, Nat.le_of_ble_eq_true rfl⟩) hK (hDa _) hG hA hP hS sg_nil hl.1 rfl rfl (Nat.le_of_ble_eq_true rfl) dX9_set_3 (fun H locs hP hS => ?_)
  refine lv_if_eq (tgt := 21) hx hb dX9_set_6 (by decide) (fun c2 => ?_) (fun c2 => ?_)
  · have hF := it_t hF c2
    refine lv_iconst (v := (-1)) hx hb dX9_set_21 (by decide) ?_
    obtain ⟨er, eM⟩ := pr_use hF
    exact rt_I hx hb hr hlocks hS (by rw [← eM]; exact hP) er dX9_set_22
  · have hF := it_f hF c2
    refine lv_iload_n hx hb dX9_set_9 rfl (lv_at hl 2 rfl) ?_
    refine lv_iconst (v := 0) hx hb dX9_set_10 (by decide) ?_
    refine lv_iload_n hx hb dX9_set_11 rfl (lv_at hl 1 rfl) ?_
    obtain ⟨r3, hr3, hF⟩ := bd_use hF
    refine cl_SI ⟨hx, hb, hml, hown, htb⟩ (kX9_highest l D cS g cI x1 _ hr3) (va_cwS 1 htb (gX9_highest bw4_91) rfl rfl rfl hdX9_highest ⟨Nat.le_of_ble_eq_true rfl, Nat.le_of_ble_eq_true rfl⟩) hK (hDa _) hG hA hP hS sg_nil hl.1 rfl rfl (Nat.le_of_ble_eq_true rfl) dX9_set_12 (fun H locs hP hS => ?_)
    obtain ⟨r4, hr4, hF⟩ := bd_use hF
    refine cl_SI ⟨hx, hb, hml, hown, htb⟩ (kX9_in l D cS g cI x2 0 r3 _ hr4) (va_cwS 3 htb (gX9_in bw4_68) rfl rfl rfl hdX9_in ⟨Nat.le_of_ble_eq_true rfl, Nat.le_of_ble_eq_true rfl⟩) hK (hDa _) hG hA hP hS sg_nil hl.1 rfl rfl (Nat.le_of_ble_eq_true rfl) dX9_set_15 (fun H locs hP hS => ?_)
    refine lv_if_ne (tgt := 23) hx hb dX9_set_18 (by decide) (fun c5 => ?_) (fun c5 => ?_)
    · have hF := it_f hF c5
      refine lv_aload_n hx hb dX9_set_23 rfl (lv_at hl 0 rfl) ?_
      obtain ⟨M6, hM6, hF⟩ := bd_use hF
      refine cl_VV ⟨hx, hb, hml, hown, htb⟩ (kX9_hold l D cS g cI b M  _ hM6) (cwV 0 htb (gX9_hold bw4_60) rfl rfl rfl hdX9_hold ⟨Nat.le_of_ble_eq_true rfl, Nat.le_of_ble_eq_true rfl⟩) hK (hDa _) hG hA hP hS (sg_Md_Md cI b M M6) hl.1 rfl 0 (pMd_0 _ _ _) rfl rfl (Nat.le_of_ble_eq_true rfl) dX9_set_24 (fun H locs hP hS => ?_)
      refine lv_aload_n hx hb dX9_set_27 rfl (lv_at hl 0 rfl) ?_
      refine va_get (ci := 9) (v := .ref (b 1)) (C := RX9) (T := TX9) (N := 10) hx hb htb kin9 hown hK hP 0 (pMd_0 cI b M6) rfl 0 (by decide) (htb _ bw4_25) (fun _ h9 => h9) rfl dX9_set_28 ?_
      refine lv_iconst (v := 4) hx hb dX9_set_31 (by decide) ?_
      refine lv_iload_n hx hb dX9_set_32 rfl (lv_at hl 1 rfl) ?_
      refine lv_iadd hx hb dX9_set_33 ?_
      obtain ⟨hi, hF⟩ := rd_use hF
      refine va_iald hx hb hK hP 1 0 (pMd_1 cI b M6) rfl hi dX9_set_34 ?_
      refine lv_topi (fun v7 ev7 => ?_)
      have hF := hF v7 ev7
      refine lv_istore_n (lv' := [(3, .int v7), (0, .ref (b 0)), (1, .int x1), (2, .int x2)]) hx hb dX9_set_35 rfl hl (by decide) rfl (fun ls hl => ?_)
      refine lv_aload_n hx hb dX9_set_36 rfl (lv_at hl 1 rfl) ?_
      refine va_get (ci := 9) (v := .ref (b 1)) (C := RX9) (T := TX9) (N := 10) hx hb htb kin9 hown hK hP 0 (pMd_0 cI b M6) rfl 0 (by decide) (htb _ bw4_25) (fun _ h9 => h9) rfl dX9_set_37 ?_
      refine lv_iconst (v := 4) hx hb dX9_set_40 (by decide) ?_
      refine lv_iload_n hx hb dX9_set_41 rfl (lv_at hl 2 rfl) ?_
      refine lv_iadd hx hb dX9_set_42 ?_
      refine lv_iload_n hx hb dX9_set_43 rfl (lv_at hl 3 rfl) ?_
      obtain ⟨hi, hF⟩ := wr_use hF
      refine va_iast hx hb hK hP (hDa _) hS 1 0 (pMd_1 cI b M6) rfl hi dX9_set_44 (fun H locs hP _ hS => ?_)
      obtain ⟨M9, eM9⟩ : ∃ z : Md, z = ((upd (M6.1) (4 + x1 : Int32).toNatClampNeg x2), M6.2) := ⟨_, rfl⟩
      have hF := nm_use hF eM9
      have hP : va_P D vwCl (wMd cI b M9) H := by rw [eM9]; exact hP
      refine lv_aload_n hx hb dX9_set_45 rfl (lv_at hl 1 rfl) ?_
      refine lv_iload_n hx hb dX9_set_46 rfl (lv_at hl 0 rfl) ?_
      obtain ⟨r11, M10, hM10, hF⟩ := b2_use hF
      refine cl_VI ⟨hx, hb, hml, hown, htb⟩ (kX9_ends l D cS g cI b M9 v7 _ _ hM10) (cwV 1 htb (gX9_ends bw4_71) rfl rfl rfl hdX9_ends ⟨Nat.le_of_ble_eq_true rfl, Nat.le_of_ble_eq_true rfl⟩) hK (hDa _) hG hA hP hS (sg_Md_Md cI b M9 M10) hl.1 rfl 0 (pMd_0 _ _ _) rfl rfl (Nat.le_of_ble_eq_true rfl) dX9_set_47 (fun H locs hP hS => ?_)
      obtain ⟨er, eM⟩ := pr_use hF
      exact rt_I hx hb hr hlocks hS (by rw [← eM]; exact hP) er dX9_set_50
    · have hF := it_t hF c5
      refine lv_iconst (v := (-1)) hx hb dX9_set_21 (by decide) ?_
      obtain ⟨er, eM⟩ := pr_use hF
      exact rt_I hx hb hr hlocks hS (by rw [← eM]; exact hP) er dX9_set_22
noncomputable def fX9_doGift  (M : Md) (x1 : Int32) : Option (Int32 × Md) := (fX9_in x1 1 500).bind fun r1 => if r1 = 0 then (some ((-1), M)) else (Rd (M.1) 1553 2 fun v3 => if v3 = 8 then (some ((-3), M)) else (Rd (M.1) 1553 2 fun v5 => Wr (M.1) 1553 (501 + (2 * v5)) x1 fun f6 => nm ((f6, M.2)) fun M7 => Rd (M7.1) 1553 2 fun v8 => Wr (M7.1) 1553 ((501 + (2 * v8)) + 1) x1 fun f9 => nm ((f9, M7.2)) fun M10 => Rd (M10.1) 1553 3 fun v11 => Wr (M10.1) 1553 3 (v11 + x1) fun f12 => nm ((f12, M10.2)) fun M13 => Rd (M13.1) 1553 2 fun v14 => Wr (M13.1) 1553 2 (v14 + 1) fun f15 => nm ((f15, M13.2)) fun M16 => Rd (M16.1) 1553 2 fun v17 => some (v17 - 1, M16)))
abbrev vX9_doGift : List Cond := Cond.code yX9_doGift cX9_doGift 2 (some .int) :: BIG
theorem gX9_doGift {own : String} {idx : Nat} (h : (Cond.methodLink own idx yX9_doGift) ∈ BIG) : GoodIn BIG (wsV own idx RX9 yX9_doGift vX9_doGift) := gdV h bw4_100 bs26 bw1_11 bw4_101
def rmX9_doGift : Room := { frames := 1, cells := 0, slots := 0, locals := 22 }
theorem hdX9_doGift : yX9_doGift.cls = RX9 ∧ yX9_doGift.cls ≠ "java/lang/invoke/MethodHandle" ∧ yX9_doGift.cls ≠ "java/lang/invoke/VarHandle" ∧ (parseMethodDescriptor yX9_doGift.desc).map (fun d => d.parameters.length) = some 1 := by decide +kernel
set_option maxHeartbeats 4000000 in
set_option maxRecDepth 100000 in
theorem kX9_doGift (l : Launch) (D : va_G) (cS : ClassId) (g : Nat → Nat) (cI : ClassId) (b : Nat → Nat) (M : Md) (x1 : Int32) (r : Int32) (M' : Md) (hF : fX9_doGift M x1 = some (r, M')) : mI l yX9_doGift vX9_doGift rmX9_doGift D cI cS g [.ref (b 0), .int x1] (wMd cI b M) r (wMd cI b (M')) := by
  refine st_I rfl (by decide) (Nat.le_of_ble_eq_true rfl) ?_
  intro p e s m args below meth c A ls hx hb hr hml hlocks hown hts hA hK hD0 hG hP hS hl
  have hown : s.vm.findClass RX9 = some m.cls := hown
  have hDa : ∀ M, va_D A (wMd cI b M) := fun M => hD0.adr rfl
  have htb : ∀ w ∈ BIG, w.before args s = true := fun w h => hts w (List.mem_cons_of_mem _ h)
  have hl : lv_has ls 2 [(0, .ref (b 0)), (1, .int x1)] := hl
  refine lv_iload_n hx hb dX9_doGift_0 rfl (lv_at hl 1 rfl) ?_
  refine lv_iconst (v := 1) hx hb dX9_doGift_1 (by decide) ?_
  refine lv_sipush (v := 500) hx hb dX9_doGift_2 (by decide) ?_
  obtain ⟨r1, hr1, hF⟩ := bd_use hF
  refine cl_SI ⟨hx, hb, hml, hown, htb⟩ (kX9_in l D cS g cI x1 1 500 _ hr1) (va_cwS 3 htb (gX9_in bw4_68) rfl rfl rfl hdX9_in ⟨Nat.le_of_ble_eq_true rfl, Nat.le_of_ble_eq_true rfl⟩) hK (hDa _) hG hA hP hS sg_nil hl.1 rfl rfl (Nat.le_of_ble_eq_true rfl) dX9_doGift_5 (fun H locs hP hS => ?_)
  refine lv_if_ne (tgt := 13) hx hb dX9_doGift_8 (by decide) (fun c2 => ?_) (fun c2 => ?_)
  · have hF := it_f hF c2
    refine lv_aload_n hx hb dX9_doGift_13 rfl (lv_at hl 0 rfl) ?_
    refine va_get (ci := 9) (v := .ref (b 1)) (C := RX9) (T := TX9) (N := 10) hx hb htb kin9 hown hK hP 0 (pMd_0 cI b M) rfl 0 (by decide) (htb _ bw4_25) (fun _ h9 => h9) rfl dX9_doGift_14 ?_
    refine lv_iconst (v := 2) hx hb dX9_doGift_17 (by decide) ?_
    obtain ⟨hi, hF⟩ := rd_use hF
    refine va_iald hx hb hK hP 1 0 (pMd_1 cI b M) rfl hi dX9_doGift_18 ?_
    refine lv_topi (fun v3 ev3 => ?_)
    have hF := hF v3 ev3
    refine lv_bipush (v := 8) hx hb dX9_doGift_19 (by decide) ?_
    refine lv_icmp_ne (tgt := 27) hx hb dX9_doGift_21 (by decide) (fun c4 => ?_) (fun c4 => ?_)
    · have hF := it_f hF c4
      refine lv_aload_n hx hb dX9_doGift_27 rfl (lv_at hl 0 rfl) ?_
      refine va_get (ci := 9) (v := .ref (b 1)) (C := RX9) (T := TX9) (N := 10) hx hb htb kin9 hown hK hP 0 (pMd_0 cI b M) rfl 0 (by decide) (htb _ bw4_25) (fun _ h9 => h9) rfl dX9_doGift_28 ?_
      refine lv_sipush (v := 501) hx hb dX9_doGift_31 (by decide) ?_
      refine lv_iconst (v := 2) hx hb dX9_doGift_34 (by decide) ?_
      refine lv_aload_n hx hb dX9_doGift_35 rfl (lv_at hl 0 rfl) ?_
      refine va_get (ci := 9) (v := .ref (b 1)) (C := RX9) (T := TX9) (N := 10) hx hb htb kin9 hown hK hP 0 (pMd_0 cI b M) rfl 0 (by decide) (htb _ bw4_25) (fun _ h9 => h9) rfl dX9_doGift_36 ?_
      refine lv_iconst (v := 2) hx hb dX9_doGift_39 (by decide) ?_
      obtain ⟨hi, hF⟩ := rd_use hF
      refine va_iald hx hb hK hP 1 0 (pMd_1 cI b M) rfl hi dX9_doGift_40 ?_
      refine lv_topi (fun v5 ev5 => ?_)
      have hF := hF v5 ev5
      refine lv_imul hx hb dX9_doGift_41 ?_
      refine lv_iadd hx hb dX9_doGift_42 ?_
      refine lv_iload_n hx hb dX9_doGift_43 rfl (lv_at hl 1 rfl) ?_
      obtain ⟨hi, hF⟩ := wr_use hF
      refine va_iast hx hb hK hP (hDa _) hS 1 0 (pMd_1 cI b M) rfl hi dX9_doGift_44 (fun H locs hP _ hS => ?_)
      obtain ⟨M7, eM7⟩ : ∃ z : Md, z = ((upd (M.1) (501 + (2 * v5) : Int32).toNatClampNeg x1), M.2) := ⟨_, rfl⟩
      have hF := nm_use hF eM7
      have hP : va_P D vwCl (wMd cI b M7) H := by rw [eM7]; exact hP
      refine lv_aload_n hx hb dX9_doGift_45 rfl (lv_at hl 0 rfl) ?_
      refine va_get (ci := 9) (v := .ref (b 1)) (C := RX9) (T := TX9) (N := 10) hx hb htb kin9 hown hK hP 0 (pMd_0 cI b M7) rfl 0 (by decide) (htb _ bw4_25) (fun _ h9 => h9) rfl dX9_doGift_46 ?_
      refine lv_sipush (v := 501) hx hb dX9_doGift_49 (by decide) ?_
      refine lv_iconst (v := 2) hx hb dX9_doGift_52 (by decide) ?_
      refine lv_aload_n hx hb dX9_doGift_53 rfl (lv_at hl 0 rfl) ?_
      refine va_get (ci := 9) (v := .ref (b 1)) (C := RX9) (T := TX9) (N := 10) hx hb htb kin9 hown hK hP 0 (pMd_0 cI b M7) rfl 0 (by decide) (htb _ bw4_25) (fun _ h9 => h9) rfl dX9_doGift_54 ?_
      refine lv_iconst (v := 2) hx hb dX9_doGift_57 (by decide) ?_
      obtain ⟨hi, hF⟩ := rd_use hF
      refine va_iald hx hb hK hP 1 0 (pMd_1 cI b M7) rfl hi dX9_doGift_58 ?_
      refine lv_topi (fun v8 ev8 => ?_)
      have hF := hF v8 ev8
      refine lv_imul hx hb dX9_doGift_59 ?_
      refine lv_iadd hx hb dX9_doGift_60 ?_
      refine lv_iconst (v := 1) hx hb dX9_doGift_61 (by decide) ?_
      refine lv_iadd hx hb dX9_doGift_62 ?_
      refine lv_iload_n hx hb dX9_doGift_63 rfl (lv_at hl 1 rfl) ?_
      obtain ⟨hi, hF⟩ := wr_use hF
      refine va_iast hx hb hK hP (hDa _) hS 1 0 (pMd_1 cI b M7) rfl hi dX9_doGift_64 (fun H locs hP _ hS => ?_)
      obtain ⟨M10, eM10⟩ : ∃ z : Md, z = ((upd (M7.1) ((501 + (2 * v8)) + 1 : Int32).toNatClampNeg x1), M7.2) := ⟨_, rfl⟩
      have hF := nm_use hF eM10
      have hP : va_P D vwCl (wMd cI b M10) H := by rw [eM10]; exact hP
      refine lv_aload_n hx hb dX9_doGift_65 rfl (lv_at hl 0 rfl) ?_
      refine va_get (ci := 9) (v := .ref (b 1)) (C := RX9) (T := TX9) (N := 10) hx hb htb kin9 hown hK hP 0 (pMd_0 cI b M10) rfl 0 (by decide) (htb _ bw4_25) (fun _ h9 => h9) rfl dX9_doGift_66 ?_
      refine lv_iconst (v := 3) hx hb dX9_doGift_69 (by decide) ?_
      refine lv_dup2_11 hx hb dX9_doGift_70 rfl rfl ?_
      obtain ⟨hi, hF⟩ := rd_use hF
      refine va_iald hx hb hK hP 1 0 (pMd_1 cI b M10) rfl hi dX9_doGift_71 ?_
      refine lv_topi (fun v11 ev11 => ?_)
      have hF := hF v11 ev11
      refine lv_iload_n hx hb dX9_doGift_72 rfl (lv_at hl 1 rfl) ?_
      refine lv_iadd hx hb dX9_doGift_73 ?_
      obtain ⟨hi, hF⟩ := wr_use hF
      refine va_iast hx hb hK hP (hDa _) hS 1 0 (pMd_1 cI b M10) rfl hi dX9_doGift_74 (fun H locs hP _ hS => ?_)
      obtain ⟨M13, eM13⟩ : ∃ z : Md, z = ((upd (M10.1) (3 : Int32).toNatClampNeg (v11 + x1)), M10.2) := ⟨_, rfl⟩
      have hF := nm_use hF eM13
      have hP : va_P D vwCl (wMd cI b M13) H := by rw [eM13]; exact hP
      refine lv_aload_n hx hb dX9_doGift_75 rfl (lv_at hl 0 rfl) ?_
      refine va_get (ci := 9) (v := .ref (b 1)) (C := RX9) (T := TX9) (N := 10) hx hb htb kin9 hown hK hP 0 (pMd_0 cI b M13) rfl 0 (by decide) (htb _ bw4_25) (fun _ h9 => h9) rfl dX9_doGift_76 ?_
      refine lv_iconst (v := 2) hx hb dX9_doGift_79 (by decide) ?_
      refine lv_dup2_11 hx hb dX9_doGift_80 rfl rfl ?_
      obtain ⟨hi, hF⟩ := rd_use hF
      refine va_iald hx hb hK hP 1 0 (pMd_1 cI b M13) rfl hi dX9_doGift_81 ?_
      refine lv_topi (fun v14 ev14 => ?_)
      have hF := hF v14 ev14
      refine lv_iconst (v := 1) hx hb dX9_doGift_82 (by decide) ?_
      refine lv_iadd hx hb dX9_doGift_83 ?_
      obtain ⟨hi, hF⟩ := wr_use hF
      refine va_iast hx hb hK hP (hDa _) hS 1 0 (pMd_1 cI b M13) rfl hi dX9_doGift_84 (fun H locs hP _ hS => ?_)
      obtain ⟨M16, eM16⟩ : ∃ z : Md, z = ((upd (M13.1) (2 : Int32).toNatClampNeg (v14 + 1)), M13.2) := ⟨_, rfl⟩
      have hF := nm_use hF eM16
      have hP : va_P D vwCl (wMd cI b M16) H := by rw [eM16]; exact hP
      refine lv_aload_n hx hb dX9_doGift_85 rfl (lv_at hl 0 rfl) ?_
      refine va_get (ci := 9) (v := .ref (b 1)) (C := RX9) (T := TX9) (N := 10) hx hb htb kin9 hown hK hP 0 (pMd_0 cI b M16) rfl 0 (by decide) (htb _ bw4_25) (fun _ h9 => h9) rfl dX9_doGift_86 ?_
      refine lv_iconst (v := 2) hx hb dX9_doGift_89 (by decide) ?_
      obtain ⟨hi, hF⟩ := rd_use hF
      refine va_iald hx hb hK hP 1 0 (pMd_1 cI b M16) rfl hi dX9_doGift_90 ?_
      refine lv_topi (fun v17 ev17 => ?_)
      have hF := hF v17 ev17
      refine lv_iconst (v := 1) hx hb dX9_doGift_91 (by decide) ?_
      refine lv_isub hx hb dX9_doGift_92 ?_
      obtain ⟨er, eM⟩ := pr_use hF
      exact rt_I hx hb hr hlocks hS (by rw [← eM]; exact hP) er dX9_doGift_93
    · have hF := it_t hF c4
      refine lv_bipush (v := (-3)) hx hb dX9_doGift_24 (by decide) ?_
      obtain ⟨er, eM⟩ := pr_use hF
      exact rt_I hx hb hr hlocks hS (by rw [← eM]; exact hP) er dX9_doGift_26
  · have hF := it_t hF c2
    refine lv_iconst (v := (-1)) hx hb dX9_doGift_11 (by decide) ?_
    obtain ⟨er, eM⟩ := pr_use hF
    exact rt_I hx hb hr hlocks hS (by rw [← eM]; exact hP) er dX9_doGift_12
noncomputable def fX9_sellVoucher  (M : Md) (x1 : Int32) : Option (Int32 × Md) := (fX9_hold M).bind fun M1 => b2 (fX9_doGift M1 x1) fun r3 M2 => b2 (fX9_ends M2 r3) fun r5 M4 => some (r5, M4)
abbrev vX9_sellVoucher : List Cond := Cond.code yX9_sellVoucher cX9_sellVoucher 2 (some .int) :: BIG
theorem gX9_sellVoucher {own : String} {idx : Nat} (h : (Cond.methodLink own idx yX9_sellVoucher) ∈ BIG) : GoodIn BIG (wsV own idx RX9 yX9_sellVoucher vX9_sellVoucher) := gdV h bw4_95 bw4_96 bw1_11 bw4_97
def rmX9_sellVoucher : Room := { frames := 2, cells := 0, slots := 0, locals := 43 }
theorem hdX9_sellVoucher : yX9_sellVoucher.cls = RX9 ∧ yX9_sellVoucher.cls ≠ "java/lang/invoke/MethodHandle" ∧ yX9_sellVoucher.cls ≠ "java/lang/invoke/VarHandle" ∧ (parseMethodDescriptor yX9_sellVoucher.desc).map (fun d => d.parameters.length) = some 1 := by decide +kernel
set_option maxHeartbeats 4000000 in
set_option maxRecDepth 100000 in
theorem kX9_sellVoucher (l : Launch) (D : va_G) (cS : ClassId) (g : Nat → Nat) (cI : ClassId) (b : Nat → Nat) (M : Md) (x1 : Int32) (r : Int32) (M' : Md) (hF : fX9_sellVoucher M x1 = some (r, M')) : mI l yX9_sellVoucher vX9_sellVoucher rmX9_sellVoucher D cI cS g [.ref (b 0), .int x1] (wMd cI b M) r (wMd cI b (M')) := by
  refine st_I rfl (by decide) (Nat.le_of_ble_eq_true rfl) ?_
  intro p e s m args below meth c A ls hx hb hr hml hlocks hown hts hA hK hD0 hG hP hS hl
  have hown : s.vm.findClass RX9 = some m.cls := hown
  have hDa : ∀ M, va_D A (wMd cI b M) := fun M => hD0.adr rfl
  have htb : ∀ w ∈ BIG, w.before args s = true := fun w h => hts w (List.mem_cons_of_mem _ h)
  have hl : lv_has ls 2 [(0, .ref (b 0)), (1, .int x1)] := hl
  refine lv_aload_n hx hb dX9_sellVoucher_0 rfl (lv_at hl 0 rfl) ?_
  obtain ⟨M1, hM1, hF⟩ := bd_use hF
  refine cl_VV ⟨hx, hb, hml, hown, htb⟩ (kX9_hold l D cS g cI b M  _ hM1) (cwV 0 htb (gX9_hold bw4_60) rfl rfl rfl hdX9_hold ⟨Nat.le_of_ble_eq_true rfl, Nat.le_of_ble_eq_true rfl⟩) hK (hDa _) hG hA hP hS (sg_Md_Md cI b M M1) hl.1 rfl 0 (pMd_0 _ _ _) rfl rfl (Nat.le_of_ble_eq_true rfl) dX9_sellVoucher_1 (fun H locs hP hS => ?_)
  refine lv_aload_n hx hb dX9_sellVoucher_4 rfl (lv_at hl 0 rfl) ?_
  refine lv_aload_n hx hb dX9_sellVoucher_5 rfl (lv_at hl 0 rfl) ?_
  refine lv_iload_n hx hb dX9_sellVoucher_6 rfl (lv_at hl 1 rfl) ?_
  obtain ⟨r3, M2, hM2, hF⟩ := b2_use hF
  refine cl_VI ⟨hx, hb, hml, hown, htb⟩ (kX9_doGift l D cS g cI b M1 x1 _ _ hM2) (cwV 1 htb (gX9_doGift bw4_98) rfl rfl rfl hdX9_doGift ⟨Nat.le_of_ble_eq_true rfl, Nat.le_of_ble_eq_true rfl⟩) hK (hDa _) hG hA hP hS (sg_Md_Md cI b M1 M2) hl.1 rfl 0 (pMd_0 _ _ _) rfl rfl (Nat.le_of_ble_eq_true rfl) dX9_sellVoucher_7 (fun H locs hP hS => ?_)
  obtain ⟨r5, M4, hM4, hF⟩ := b2_use hF
  refine cl_VI ⟨hx, hb, hml, hown, htb⟩ (kX9_ends l D cS g cI b M2 r3 _ _ hM4) (cwV 1 htb (gX9_ends bw4_71) rfl rfl rfl hdX9_ends ⟨Nat.le_of_ble_eq_true rfl, Nat.le_of_ble_eq_true rfl⟩) hK (hDa _) hG hA hP hS (sg_Md_Md cI b M2 M4) hl.1 rfl 0 (pMd_0 _ _ _) rfl rfl (Nat.le_of_ble_eq_true rfl) dX9_sellVoucher_10 (fun H locs hP hS => ?_)
  obtain ⟨er, eM⟩ := pr_use hF
  exact rt_I hx hb hr hlocks hS (by rw [← eM]; exact hP) er dX9_sellVoucher_13
noncomputable def fX9_isPossible_j121  (x1 : Int32) (x2 : Int32) (x3 : Int32) (ih : Int32 → Int32 → Option (Int32)) (M : Md) (x4 : Int32) (x5 : Int32) : Option (Int32) := nm (x5 + 1) fun v4 => ih x4 v4
noncomputable def fX9_isPossible_j119  (x1 : Int32) (x2 : Int32) (x3 : Int32) (ih : Int32 → Int32 → Option (Int32)) (M : Md) (x5 : Int32) (s0 : Int32) : Option (Int32) := fX9_isPossible_j121 x1 x2 x3 ih M s0 x5
noncomputable def fX9_isPossible_j118  (x1 : Int32) (x2 : Int32) (x3 : Int32) (ih : Int32 → Int32 → Option (Int32)) (M : Md) (x5 : Int32) : Option (Int32) := fX9_isPossible_j119 x1 x2 x3 ih M x5 0
noncomputable def fX9_isPossible_j114  (x1 : Int32) (x2 : Int32) (x3 : Int32) (ih : Int32 → Int32 → Option (Int32)) (M : Md) (x5 : Int32) : Option (Int32) := fX9_isPossible_j119 x1 x2 x3 ih M x5 1
noncomputable def fX9_isPossible_l6  (M : Md) (x1 : Int32) (x2 : Int32) (x3 : Int32) : Nat → Int32 → Int32 → Option (Int32) := fun fu => Nat.rec (motive := fun _ => Int32 → Int32 → Option (Int32)) (fun _ _ => none) (fun _ ih => fun x4 x5 => Rd (M.1) 1553 1 fun v1 => if v1 ≤ x5 then (Zb x4 (some x4)) else (if x5 = x3 then (fX9_isPossible_j121 x1 x2 x3 ih M x4 x5) else ((fX9_its M x5 0).bind fun r5 => if r5 = x1 then ((fX9_its M x5 3).bind fun r7 => if 2 ≤ r7 then (fX9_isPossible_j121 x1 x2 x3 ih M x4 x5) else ((fX9_its M x5 1).bind fun r9 => nm (x2 - r9) fun v10 => if x4 = 0 then (fX9_isPossible_j118 x1 x2 x3 ih M x5) else ((fX9_of M x1 0).bind fun r12 => (fX9_of M x1 1).bind fun r13 => (fX9_of M x1 0).bind fun r14 => (fX9_of M x1 1).bind fun r15 => (fX9_in v10 ((1 - r12) - r13) ((r14 + r15) - 1)).bind fun r16 => if r16 = 0 then ((fX9_its M x5 3).bind fun r18 => if r18 = 0 then (fX9_isPossible_j114 x1 x2 x3 ih M x5) else (if v10 ≤ 0 then (fX9_isPossible_j118 x1 x2 x3 ih M x5) else (fX9_isPossible_j114 x1 x2 x3 ih M x5))) else (fX9_isPossible_j118 x1 x2 x3 ih M x5)))) else (fX9_isPossible_j121 x1 x2 x3 ih M x4 x5)))) fu
theorem fX9_isPossible_l6_s  (M : Md) (x1 : Int32) (x2 : Int32) (x3 : Int32) (fu : Nat) (x4 : Int32) (x5 : Int32) : fX9_isPossible_l6 M x1 x2 x3 (fu + 1) x4 x5 = (Rd (M.1) 1553 1 fun v1 => if v1 ≤ x5 then (Zb x4 (some x4)) else (if x5 = x3 then (fX9_isPossible_j121 x1 x2 x3 (fX9_isPossible_l6 M x1 x2 x3 fu) M x4 x5) else ((fX9_its M x5 0).bind fun r5 => if r5 = x1 then ((fX9_its M x5 3).bind fun r7 => if 2 ≤ r7 then (fX9_isPossible_j121 x1 x2 x3 (fX9_isPossible_l6 M x1 x2 x3 fu) M x4 x5) else ((fX9_its M x5 1).bind fun r9 => nm (x2 - r9) fun v10 => if x4 = 0 then (fX9_isPossible_j118 x1 x2 x3 (fX9_isPossible_l6 M x1 x2 x3 fu) M x5) else ((fX9_of M x1 0).bind fun r12 => (fX9_of M x1 1).bind fun r13 => (fX9_of M x1 0).bind fun r14 => (fX9_of M x1 1).bind fun r15 => (fX9_in v10 ((1 - r12) - r13) ((r14 + r15) - 1)).bind fun r16 => if r16 = 0 then ((fX9_its M x5 3).bind fun r18 => if r18 = 0 then (fX9_isPossible_j114 x1 x2 x3 (fX9_isPossible_l6 M x1 x2 x3 fu) M x5) else (if v10 ≤ 0 then (fX9_isPossible_j118 x1 x2 x3 (fX9_isPossible_l6 M x1 x2 x3 fu) M x5) else (fX9_isPossible_j114 x1 x2 x3 (fX9_isPossible_l6 M x1 x2 x3 fu) M x5))) else (fX9_isPossible_j118 x1 x2 x3 (fX9_isPossible_l6 M x1 x2 x3 fu) M x5)))) else (fX9_isPossible_j121 x1 x2 x3 (fX9_isPossible_l6 M x1 x2 x3 fu) M x4 x5)))) := rfl
theorem fX9_isPossible_l6_z  (M : Md) (x1 : Int32) (x2 : Int32) (x3 : Int32) (x4 : Int32) (x5 : Int32) : fX9_isPossible_l6 M x1 x2 x3 0 x4 x5 = none := rfl
noncomputable def fX9_isPossible  (M : Md) (x1 : Int32) (x2 : Int32) (x3 : Int32) : Option (Int32) := fX9_isPossible_l6 M x1 x2 x3 FU 1 0
abbrev vX9_isPossible : List Cond := Cond.code yX9_isPossible cX9_isPossible 7 (some .boolean) :: BIG
theorem gX9_isPossible {own : String} {idx : Nat} (h : (Cond.methodLink own idx yX9_isPossible) ∈ BIG) : GoodIn BIG (wsV own idx RX9 yX9_isPossible vX9_isPossible) := gdV h bw4_116 bs29 bw1_11 bw4_117
def rmX9_isPossible : Room := { frames := 1, cells := 0, slots := 0, locals := 22 }
theorem hdX9_isPossible : yX9_isPossible.cls = RX9 ∧ yX9_isPossible.cls ≠ "java/lang/invoke/MethodHandle" ∧ yX9_isPossible.cls ≠ "java/lang/invoke/VarHandle" ∧ (parseMethodDescriptor yX9_isPossible.desc).map (fun d => d.parameters.length) = some 3 := by decide +kernel
set_option maxHeartbeats 4000000 in
set_option maxRecDepth 100000 in
theorem kX9_isPossible (l : Launch) (D : va_G) (cS : ClassId) (g : Nat → Nat) (cI : ClassId) (b : Nat → Nat) (M : Md) (x1 : Int32) (x2 : Int32) (x3 : Int32) (r : Int32) (hF : fX9_isPossible M x1 x2 x3 = some r) : mI l yX9_isPossible vX9_isPossible rmX9_isPossible D cI cS g [.ref (b 0), .int x1, .int x2, .int x3] (wMd cI b M) r (wMd cI b M) := by
  refine st_I rfl (by decide) (Nat.le_of_ble_eq_true rfl) ?_
  intro p e s m args below meth c A ls hx hb hr hml hlocks hown hts hA hK hD0 hG hP hS hl
  have hown : s.vm.findClass RX9 = some m.cls := hown
  have hDa : ∀ M, va_D A (wMd cI b M) := fun M => hD0.adr rfl
  have htb : ∀ w ∈ BIG, w.before args s = true := fun w h => hts w (List.mem_cons_of_mem _ h)
  have hl : lv_has ls 7 [(0, .ref (b 0)), (1, .int x1), (2, .int x2), (3, .int x3)] := hl
  have l6 : ∀ (x1 : Int32) (x2 : Int32) (x3 : Int32) (fu : Nat) (x4 : Int32) (x5 : Int32) (H : Heap) (locs : List Loc) (ls : Array Slot), fX9_isPossible_l6 M x1 x2 x3 fu x4 x5 = some r → va_P D vwCl (wMd cI b M) H → va_S A s.heap H locs → lv_has ls 7 [(0, .ref (b 0)), (1, .int x1), (2, .int x2), (3, .int x3), (4, .int x4), (5, .int x5)] → W p l e rmX9_isPossible s m args below meth c H locs 0 0 (MQ below (qI D r (wMd cI b M) A) args s 0 0 A) (F0 m 6 ls []) := by
    intro x1 x2 x3  fu
    induction fu with
    | zero => intro x4 x5 H locs ls hF; exact nn_use hF
    | succ fu ihn =>
      intro x4 x5 H locs ls hF hP hS hl 
      rw [fX9_isPossible_l6_s] at hF
      have j121 : ∀ (x4 : Int32) (x5 : Int32) (H : Heap) (locs : List Loc) (ls : Array Slot), fX9_isPossible_j121 x1 x2 x3  (fX9_isPossible_l6 M x1 x2 x3 fu) M x4 x5 = some r → va_P D vwCl (wMd cI b M) H → va_S A s.heap H locs → lv_has ls 7 [(0, .ref (b 0)), (1, .int x1), (2, .int x2), (3, .int x3), (4, .int x4), (5, .int x5)] → W p l e rmX9_isPossible s m args below meth c H locs 0 0 (MQ below (qI D r (wMd cI b M) A) args s 0 0 A) (F0 m 121 ls []) := by
        intro x4 x5 H locs ls hF hP hS hl
        obtain ⟨v4, ev4⟩ : ∃ z : Int32, z = x5 + 1 := ⟨_, rfl⟩
        refine lv_iinc (v := v4) (lv' := [(5, .int v4), (0, .ref (b 0)), (1, .int x1), (2, .int x2), (3, .int x3), (4, .int x4)]) hx hb dX9_isPossible_121 hl (k := 5) rfl (by rw [ev4]; rfl) (by decide) rfl (fun ls hl => ?_)
        have hF := nm_use hF ev4
        refine lv_goto (tgt := 6) hx hb dX9_isPossible_124 (by decide) ?_
        exact ihn x4 v4 _ _ _ hF hP hS (lv_sub hl [1, 2, 3, 4, 5, 0] rfl)
      have j119 : ∀ (x5 : Int32) (s0 : Int32) (H : Heap) (locs : List Loc) (ls : Array Slot), fX9_isPossible_j119 x1 x2 x3  (fX9_isPossible_l6 M x1 x2 x3 fu) M x5 s0 = some r → va_P D vwCl (wMd cI b M) H → va_S A s.heap H locs → lv_has ls 7 [(0, .ref (b 0)), (1, .int x1), (2, .int x2), (3, .int x3), (5, .int x5)] → W p l e rmX9_isPossible s m args below meth c H locs 0 0 (MQ below (qI D r (wMd cI b M) A) args s 0 0 A) (F0 m 119 ls [.int s0]) := by
        intro x5 s0 H locs ls hF hP hS hl
        refine lv_istore (lv' := [(4, .int s0), (0, .ref (b 0)), (1, .int x1), (2, .int x2), (3, .int x3), (5, .int x5)]) hx hb dX9_isPossible_119 hl (by decide) rfl (fun ls hl => ?_)
        exact j121 s0 x5 _ _ _ hF hP hS (lv_sub hl [1, 2, 3, 4, 0, 5] rfl)
      have j118 : ∀ (x5 : Int32) (H : Heap) (locs : List Loc) (ls : Array Slot), fX9_isPossible_j118 x1 x2 x3  (fX9_isPossible_l6 M x1 x2 x3 fu) M x5 = some r → va_P D vwCl (wMd cI b M) H → va_S A s.heap H locs → lv_has ls 7 [(0, .ref (b 0)), (1, .int x1), (2, .int x2), (3, .int x3), (5, .int x5)] → W p l e rmX9_isPossible s m args below meth c H locs 0 0 (MQ below (qI D r (wMd cI b M) A) args s 0 0 A) (F0 m 118 ls []) := by
        intro x5 H locs ls hF hP hS hl
        refine lv_iconst (v := 0) hx hb dX9_isPossible_118 (by decide) ?_
        exact j119 x5 0 _ _ _ hF hP hS (lv_sub hl [0, 1, 2, 3, 4] rfl)
      have j114 : ∀ (x5 : Int32) (H : Heap) (locs : List Loc) (ls : Array Slot), fX9_isPossible_j114 x1 x2 x3  (fX9_isPossible_l6 M x1 x2 x3 fu) M x5 = some r → va_P D vwCl (wMd cI b M) H → va_S A s.heap H locs → lv_has ls 7 [(0, .ref (b 0)), (1, .int x1), (2, .int x2), (3, .int x3), (5, .int x5)] → W p l e rmX9_isPossible s m args below meth c H locs 0 0 (MQ below (qI D r (wMd cI b M) A) args s 0 0 A) (F0 m 114 ls []) := by
        intro x5 H locs ls hF hP hS hl
        refine lv_iconst (v := 1) hx hb dX9_isPossible_114 (by decide) ?_
        refine lv_goto (tgt := 119) hx hb dX9_isPossible_115 (by decide) ?_
        exact j119 x5 1 _ _ _ hF hP hS (lv_sub hl [0, 1, 2, 3, 4] rfl)
      refine lv_iload hx hb dX9_isPossible_6 (lv_at hl 5 rfl) ?_
      refine lv_aload_n hx hb dX9_isPossible_8 rfl (lv_at hl 0 rfl) ?_
      refine va_get (ci := 9) (v := .ref (b 1)) (C := RX9) (T := TX9) (N := 10) hx hb htb kin9 hown hK hP 0 (pMd_0 cI b M) rfl 0 (by decide) (htb _ bw4_25) (fun _ h9 => h9) rfl dX9_isPossible_9 ?_
      refine lv_iconst (v := 1) hx hb dX9_isPossible_12 (by decide) ?_
      obtain ⟨hi, hF⟩ := rd_use hF
      refine va_iald hx hb hK hP 1 0 (pMd_1 cI b M) rfl hi dX9_isPossible_13 ?_
      refine lv_topi (fun v1 ev1 => ?_)
      have hF := hF v1 ev1
      refine lv_icmp_ge (tgt := 127) hx hb dX9_isPossible_14 (by decide) (fun c2 => ?_) (fun c2 => ?_)
      · have hF := it_t hF c2
        refine lv_iload hx hb dX9_isPossible_127 (lv_at hl 4 rfl) ?_
        obtain ⟨hz, hF⟩ := zb_use hF
        exact rt_Z hx hb hr hlocks hS hP hz (so_use hF) dX9_isPossible_129
      · have hF := it_f hF c2
        refine lv_iload hx hb dX9_isPossible_17 (lv_at hl 5 rfl) ?_
        refine lv_iload_n hx hb dX9_isPossible_19 rfl (lv_at hl 3 rfl) ?_
        refine lv_icmp_eq (tgt := 121) hx hb dX9_isPossible_20 (by decide) (fun c3 => ?_) (fun c3 => ?_)
        · have hF := it_t hF c3
          exact j121 x4 x5 _ _ _ hF hP hS (lv_sub hl [0, 1, 2, 3, 4, 5] rfl)
        · have hF := it_f hF c3
          refine lv_aload_n hx hb dX9_isPossible_23 rfl (lv_at hl 0 rfl) ?_
          refine lv_iload hx hb dX9_isPossible_24 (lv_at hl 5 rfl) ?_
          refine lv_iconst (v := 0) hx hb dX9_isPossible_26 (by decide) ?_
          obtain ⟨r5, hr5, hF⟩ := bd_use hF
          refine cl_VI ⟨hx, hb, hml, hown, htb⟩ (kX9_its l D cS g cI b M x5 0 _ hr5) (cwV 2 htb (gX9_its bw4_118) rfl rfl rfl hdX9_its ⟨Nat.le_of_ble_eq_true rfl, Nat.le_of_ble_eq_true rfl⟩) hK (hDa _) hG hA hP hS (sr_Md_Md cI b M) hl.1 rfl 0 (pMd_0 _ _ _) rfl rfl (Nat.le_of_ble_eq_true rfl) dX9_isPossible_27 (fun H locs hP hS => ?_)
          refine lv_iload_n hx hb dX9_isPossible_30 rfl (lv_at hl 1 rfl) ?_
          refine lv_icmp_ne (tgt := 121) hx hb dX9_isPossible_31 (by decide) (fun c6 => ?_) (fun c6 => ?_)
          · have hF := it_f hF c6
            exact j121 x4 x5 _ _ _ hF hP hS (lv_sub hl [0, 1, 2, 3, 4, 5] rfl)
          · have hF := it_t hF c6
            refine lv_aload_n hx hb dX9_isPossible_34 rfl (lv_at hl 0 rfl) ?_
            refine lv_iload hx hb dX9_isPossible_35 (lv_at hl 5 rfl) ?_
            refine lv_iconst (v := 3) hx hb dX9_isPossible_37 (by decide) ?_
            obtain ⟨r7, hr7, hF⟩ := bd_use hF
            refine cl_VI ⟨hx, hb, hml, hown, htb⟩ (kX9_its l D cS g cI b M x5 3 _ hr7) (cwV 2 htb (gX9_its bw4_118) rfl rfl rfl hdX9_its ⟨Nat.le_of_ble_eq_true rfl, Nat.le_of_ble_eq_true rfl⟩) hK (hDa _) hG hA hP hS (sr_Md_Md cI b M) hl.1 rfl 0 (pMd_0 _ _ _) rfl rfl (Nat.le_of_ble_eq_true rfl) dX9_isPossible_38 (fun H locs hP hS => ?_)
            refine lv_iconst (v := 2) hx hb dX9_isPossible_41 (by decide) ?_
            refine lv_icmp_ge (tgt := 121) hx hb dX9_isPossible_42 (by decide) (fun c8 => ?_) (fun c8 => ?_)
            · have hF := it_t hF c8
              exact j121 x4 x5 _ _ _ hF hP hS (lv_sub hl [0, 1, 2, 3, 4, 5] rfl)
            · have hF := it_f hF c8
              refine lv_iload_n hx hb dX9_isPossible_45 rfl (lv_at hl 2 rfl) ?_
              refine lv_aload_n hx hb dX9_isPossible_46 rfl (lv_at hl 0 rfl) ?_
              refine lv_iload hx hb dX9_isPossible_47 (lv_at hl 5 rfl) ?_
              refine lv_iconst (v := 1) hx hb dX9_isPossible_49 (by decide) ?_
              obtain ⟨r9, hr9, hF⟩ := bd_use hF
              refine cl_VI ⟨hx, hb, hml, hown, htb⟩ (kX9_its l D cS g cI b M x5 1 _ hr9) (cwV 2 htb (gX9_its bw4_118) rfl rfl rfl hdX9_its ⟨Nat.le_of_ble_eq_true rfl, Nat.le_of_ble_eq_true rfl⟩) hK (hDa _) hG hA hP hS (sr_Md_Md cI b M) hl.1 rfl 0 (pMd_0 _ _ _) rfl rfl (Nat.le_of_ble_eq_true rfl) dX9_isPossible_50 (fun H locs hP hS => ?_)
              refine lv_isub hx hb dX9_isPossible_53 ?_
              refine lv_topi (fun v10 ev10 => ?_)
              have hF := nm_use hF ev10
              refine lv_istore (lv' := [(6, .int v10), (0, .ref (b 0)), (1, .int x1), (2, .int x2), (3, .int x3), (4, .int x4), (5, .int x5)]) hx hb dX9_isPossible_54 hl (by decide) rfl (fun ls hl => ?_)
              refine lv_iload hx hb dX9_isPossible_56 (lv_at hl 5 rfl) ?_
              refine lv_if_eq (tgt := 118) hx hb dX9_isPossible_58 (by decide) (fun c11 => ?_) (fun c11 => ?_)
              · have hF := it_t hF c11
                exact j118 x5 _ _ _ hF hP hS (lv_sub hl [1, 2, 3, 4, 6] rfl)
              · have hF := it_f hF c11
                refine lv_iload hx hb dX9_isPossible_61 (lv_at hl 0 rfl) ?_
                refine lv_iconst (v := 1) hx hb dX9_isPossible_63 (by decide) ?_
                refine lv_aload_n hx hb dX9_isPossible_64 rfl (lv_at hl 1 rfl) ?_
                refine lv_iload_n hx hb dX9_isPossible_65 rfl (lv_at hl 2 rfl) ?_
                refine lv_iconst (v := 0) hx hb dX9_isPossible_66 (by decide) ?_
                obtain ⟨r12, hr12, hF⟩ := bd_use hF
                refine cl_VI ⟨hx, hb, hml, hown, htb⟩ (kX9_of l D cS g cI b M x1 0 _ hr12) (cwV 2 htb (gX9_of bw4_83) rfl rfl rfl hdX9_of ⟨Nat.le_of_ble_eq_true rfl, Nat.le_of_ble_eq_true rfl⟩) hK (hDa _) hG hA hP hS (sr_Md_Md cI b M) hl.1 rfl 0 (pMd_0 _ _ _) rfl rfl (Nat.le_of_ble_eq_true rfl) dX9_isPossible_67 (fun H locs hP hS => ?_)
                refine lv_isub hx hb dX9_isPossible_70 ?_
                refine lv_aload_n hx hb dX9_isPossible_71 rfl (lv_at hl 1 rfl) ?_
                refine lv_iload_n hx hb dX9_isPossible_72 rfl (lv_at hl 2 rfl) ?_
                refine lv_iconst (v := 1) hx hb dX9_isPossible_73 (by decide) ?_
                obtain ⟨r13, hr13, hF⟩ := bd_use hF
                refine cl_VI ⟨hx, hb, hml, hown, htb⟩ (kX9_of l D cS g cI b M x1 1 _ hr13) (cwV 2 htb (gX9_of bw4_83) rfl rfl rfl hdX9_of ⟨Nat.le_of_ble_eq_true rfl, Nat.le_of_ble_eq_true rfl⟩) hK (hDa _) hG hA hP hS (sr_Md_Md cI b M) hl.1 rfl 0 (pMd_0 _ _ _) rfl rfl (Nat.le_of_ble_eq_true rfl) dX9_isPossible_74 (fun H locs hP hS => ?_)
                refine lv_isub hx hb dX9_isPossible_77 ?_
                refine lv_aload_n hx hb dX9_isPossible_78 rfl (lv_at hl 1 rfl) ?_
                refine lv_iload_n hx hb dX9_isPossible_79 rfl (lv_at hl 2 rfl) ?_
                refine lv_iconst (v := 0) hx hb dX9_isPossible_80 (by decide) ?_
                obtain ⟨r14, hr14, hF⟩ := bd_use hF
                refine cl_VI ⟨hx, hb, hml, hown, htb⟩ (kX9_of l D cS g cI b M x1 0 _ hr14) (cwV 2 htb (gX9_of bw4_83) rfl rfl rfl hdX9_of ⟨Nat.le_of_ble_eq_true rfl, Nat.le_of_ble_eq_true rfl⟩) hK (hDa _) hG hA hP hS (sr_Md_Md cI b M) hl.1 rfl 0 (pMd_0 _ _ _) rfl rfl (Nat.le_of_ble_eq_true rfl) dX9_isPossible_81 (fun H locs hP hS => ?_)
                refine lv_aload_n hx hb dX9_isPossible_84 rfl (lv_at hl 1 rfl) ?_
                refine lv_iload_n hx hb dX9_isPossible_85 rfl (lv_at hl 2 rfl) ?_
                refine lv_iconst (v := 1) hx hb dX9_isPossible_86 (by decide) ?_
                obtain ⟨r15, hr15, hF⟩ := bd_use hF
                refine cl_VI ⟨hx, hb, hml, hown, htb⟩ (kX9_of l D cS g cI b M x1 1 _ hr15) (cwV 2 htb (gX9_of bw4_83) rfl rfl rfl hdX9_of ⟨Nat.le_of_ble_eq_true rfl, Nat.le_of_ble_eq_true rfl⟩) hK (hDa _) hG hA hP hS (sr_Md_Md cI b M) hl.1 rfl 0 (pMd_0 _ _ _) rfl rfl (Nat.le_of_ble_eq_true rfl) dX9_isPossible_87 (fun H locs hP hS => ?_)
                refine lv_iadd hx hb dX9_isPossible_90 ?_
                refine lv_iconst (v := 1) hx hb dX9_isPossible_91 (by decide) ?_
                refine lv_isub hx hb dX9_isPossible_92 ?_
                obtain ⟨r16, hr16, hF⟩ := bd_use hF
                refine cl_SI ⟨hx, hb, hml, hown, htb⟩ (kX9_in l D cS g cI v10 ((1 - r12) - r13) ((r14 + r15) - 1) _ hr16) (va_cwS 3 htb (gX9_in bw4_68) rfl rfl rfl hdX9_in ⟨Nat.le_of_ble_eq_true rfl, Nat.le_of_ble_eq_true rfl⟩) hK (hDa _) hG hA hP hS sg_nil hl.1 rfl rfl (Nat.le_of_ble_eq_true rfl) dX9_isPossible_93 (fun H locs hP hS => ?_)
                refine lv_if_ne (tgt := 118) hx hb dX9_isPossible_96 (by decide) (fun c17 => ?_) (fun c17 => ?_)
                · have hF := it_f hF c17
                  exact j118 x5 _ _ _ hF hP hS (lv_sub hl [1, 2, 3, 4, 6] rfl)
                · have hF := it_t hF c17
                  refine lv_aload_n hx hb dX9_isPossible_99 rfl (lv_at hl 1 rfl) ?_
                  refine lv_iload hx hb dX9_isPossible_100 (lv_at hl 6 rfl) ?_
                  refine lv_iconst (v := 3) hx hb dX9_isPossible_102 (by decide) ?_
                  obtain ⟨r18, hr18, hF⟩ := bd_use hF
                  refine cl_VI ⟨hx, hb, hml, hown, htb⟩ (kX9_its l D cS g cI b M x5 3 _ hr18) (cwV 2 htb (gX9_its bw4_118) rfl rfl rfl hdX9_its ⟨Nat.le_of_ble_eq_true rfl, Nat.le_of_ble_eq_true rfl⟩) hK (hDa _) hG hA hP hS (sr_Md_Md cI b M) hl.1 rfl 0 (pMd_0 _ _ _) rfl rfl (Nat.le_of_ble_eq_true rfl) dX9_isPossible_103 (fun H locs hP hS => ?_)
                  refine lv_if_eq (tgt := 114) hx hb dX9_isPossible_106 (by decide) (fun c19 => ?_) (fun c19 => ?_)
                  · have hF := it_t hF c19
                    exact j114 x5 _ _ _ hF hP hS (lv_sub hl [1, 2, 3, 4, 6] rfl)
                  · have hF := it_f hF c19
                    refine lv_iload hx hb dX9_isPossible_109 (lv_at hl 0 rfl) ?_
                    refine lv_if_le (tgt := 118) hx hb dX9_isPossible_111 (by decide) (fun c20 => ?_) (fun c20 => ?_)
                    · have hF := it_t hF c20
                      exact j118 x5 _ _ _ hF hP hS (lv_sub hl [1, 2, 3, 4, 6] rfl)
                    · have hF := it_f hF c20
                      exact j114 x5 _ _ _ hF hP hS (lv_sub hl [1, 2, 3, 4, 6] rfl)
  refine lv_iconst (v := 1) hx hb dX9_isPossible_0 (by decide) ?_
  refine lv_istore (lv' := [(4, .int 1), (0, .ref (b 0)), (1, .int x1), (2, .int x2), (3, .int x3)]) hx hb dX9_isPossible_1 hl (by decide) rfl (fun ls hl => ?_)
  refine lv_iconst (v := 0) hx hb dX9_isPossible_3 (by decide) ?_
  refine lv_istore (lv' := [(5, .int 0), (4, .int 1), (0, .ref (b 0)), (1, .int x1), (2, .int x2), (3, .int x3)]) hx hb dX9_isPossible_4 hl (by decide) rfl (fun ls hl => ?_)
  refine l6 x1 x2 x3  _ 1 0 _ _ _ hF hP hS (lv_sub hl [2, 3, 4, 5, 1, 0] rfl)
noncomputable def fX9_doBook_j314  (M : Md) (x5 : Int32) : Option (Int32 × Md) := Rd (M.1) 1553 1 fun v34 => Wr (M.1) 1553 1 (v34 + 1) fun f35 => nm ((f35, M.2)) fun M36 => some (x5, M36)
noncomputable def fX9_doBook_j125  (M : Md) (x1 : Int32) (x2 : Int32) (x3 : Int32) (x4 : Int32) (x5 : Int32) (x6 : Int32) (s0 : Int32) : Option (Int32 × Md) := (fX9_lays M x5 0 x1).bind fun M19 => (fX9_lays M19 x5 1 x2).bind fun M20 => (fX9_lays M20 x5 2 x3).bind fun M21 => (fX9_lays M21 x5 3 0).bind fun M22 => (fX9_lays M22 x5 4 x6).bind fun M23 => (fX9_lays M23 x5 5 (x6 - s0)).bind fun M24 => (fX9_lays M24 x5 6 0).bind fun M25 => (fX9_lays M25 x5 7 (-9)).bind fun M26 => (fX9_lays M26 x5 8 (-9)).bind fun M27 => Wr (M27.1) 1553 (197 + x5) 0 fun f28 => nm ((f28, M27.2)) fun M29 => Rd (M29.1) 1553 3 fun v30 => Wr (M29.1) 1553 3 (v30 + (x6 - s0)) fun f31 => nm ((f31, M29.2)) fun M32 => if s0 ≤ 0 then (fX9_doBook_j314 M32 x5) else (nm ((501 + (2 * x4)) + 1) fun v37 => Rd (M32.1) 1553 v37 fun v38 => Wr (M32.1) 1553 v37 (v38 - s0) fun f39 => nm ((f39, M32.2)) fun M40 => Wr (M40.1) 1553 (469 + x5) x4 fun f41 => nm ((f41, M40.2)) fun M42 => Wr (M42.1) 1553 (485 + x5) s0 fun f43 => nm ((f43, M42.2)) fun M44 => Wr (M44.1) 1553 (213 + (16 * x5)) x5 fun f45 => nm ((f45, M44.2)) fun M46 => Wr (M46.1) 1553 (197 + x5) 1 fun f47 => nm ((f47, M46.2)) fun M48 => fX9_doBook_j314 M48 x5)
noncomputable def fX9_doBook_j50  (M : Md) (x1 : Int32) (x2 : Int32) (x3 : Int32) (x4 : Int32) : Option (Int32 × Md) := (fX9_isPossible M x1 x2 (-9)).bind fun r9 => if r9 = 0 then (some ((-2), M)) else (Rd (M.1) 1553 1 fun v11 => if v11 = 16 then (some ((-3), M)) else (Rd (M.1) 1553 1 fun v13 => (fX9_of M x1 2).bind fun r14 => nm (r14 * x3) fun v15 => if 0 ≤ x4 then (Rd (M.1) 1553 ((501 + (2 * x4)) + 1) fun v17 => (fX9_lesser v15 v17).bind fun r18 => fX9_doBook_j125 M x1 x2 x3 x4 v13 v15 r18) else (fX9_doBook_j125 M x1 x2 x3 x4 v13 v15 0)))
noncomputable def fX9_doBook  (M : Md) (x1 : Int32) (x2 : Int32) (x3 : Int32) (x4 : Int32) : Option (Int32 × Md) := (fX9_isRoom M x1).bind fun r1 => if r1 = 0 then (some ((-1), M)) else ((fX9_in x2 0 720).bind fun r3 => if r3 = 0 then (some ((-1), M)) else ((fX9_of M x1 3).bind fun r5 => (fX9_in x3 2 r5).bind fun r6 => if r6 = 0 then (some ((-1), M)) else (if x4 = (-1) then (fX9_doBook_j50 M x1 x2 x3 x4) else ((fX9_isVoucher M x4).bind fun r49 => if r49 = 0 then (some ((-1), M)) else (fX9_doBook_j50 M x1 x2 x3 x4)))))
abbrev vX9_doBook : List Cond := Cond.code yX9_doBook cX9_doBook 8 (some .int) :: BIG
theorem gX9_doBook {own : String} {idx : Nat} (h : (Cond.methodLink own idx yX9_doBook) ∈ BIG) : GoodIn BIG (wsV own idx RX9 yX9_doBook vX9_doBook) := gdV h bw4_108 bs27 bw1_11 bw4_109
def rmX9_doBook : Room := { frames := 2, cells := 0, slots := 0, locals := 48 }
theorem hdX9_doBook : yX9_doBook.cls = RX9 ∧ yX9_doBook.cls ≠ "java/lang/invoke/MethodHandle" ∧ yX9_doBook.cls ≠ "java/lang/invoke/VarHandle" ∧ (parseMethodDescriptor yX9_doBook.desc).map (fun d => d.parameters.length) = some 4 := by decide +kernel
set_option maxHeartbeats 4000000 in
set_option maxRecDepth 100000 in
theorem kX9_doBook (l : Launch) (D : va_G) (cS : ClassId) (g : Nat → Nat) (cI : ClassId) (b : Nat → Nat) (M : Md) (x1 : Int32) (x2 : Int32) (x3 : Int32) (x4 : Int32) (r : Int32) (M' : Md) (hF : fX9_doBook M x1 x2 x3 x4 = some (r, M')) : mI l yX9_doBook vX9_doBook rmX9_doBook D cI cS g [.ref (b 0), .int x1, .int x2, .int x3, .int x4] (wMd cI b M) r (wMd cI b (M')) := by
  refine st_I rfl (by decide) (Nat.le_of_ble_eq_true rfl) ?_
  intro p e s m args below meth c A ls hx hb hr hml hlocks hown hts hA hK hD0 hG hP hS hl
  have hown : s.vm.findClass RX9 = some m.cls := hown
  have hDa : ∀ M, va_D A (wMd cI b M) := fun M => hD0.adr rfl
  have htb : ∀ w ∈ BIG, w.before args s = true := fun w h => hts w (List.mem_cons_of_mem _ h)
  have hl : lv_has ls 8 [(0, .ref (b 0)), (1, .int x1), (2, .int x2), (3, .int x3), (4, .int x4)] := hl
  have j314 : ∀ (M : Md) (x5 : Int32) (H : Heap) (locs : List Loc) (ls : Array Slot), fX9_doBook_j314 M x5 = some (r, M') → va_P D vwCl (wMd cI b M) H → va_S A s.heap H locs → lv_has ls 8 [(0, .ref (b 0)), (5, .int x5)] → W p l e rmX9_doBook s m args below meth c H locs 0 0 (MQ below (qI D r (wMd cI b (M')) A) args s 0 0 A) (F0 m 314 ls []) := by
    intro M x5 H locs ls hF hP hS hl
    refine lv_aload_n hx hb dX9_doBook_314 rfl (lv_at hl 0 rfl) ?_
    refine va_get (ci := 9) (v := .ref (b 1)) (C := RX9) (T := TX9) (N := 10) hx hb htb kin9 hown hK hP 0 (pMd_0 cI b M) rfl 0 (by decide) (htb _ bw4_25) (fun _ h9 => h9) rfl dX9_doBook_315 ?_
    refine lv_iconst (v := 1) hx hb dX9_doBook_318 (by decide) ?_
    refine lv_dup2_11 hx hb dX9_doBook_319 rfl rfl ?_
    obtain ⟨hi, hF⟩ := rd_use hF
    refine va_iald hx hb hK hP 1 0 (pMd_1 cI b M) rfl hi dX9_doBook_320 ?_
    refine lv_topi (fun v34 ev34 => ?_)
    have hF := hF v34 ev34
    refine lv_iconst (v := 1) hx hb dX9_doBook_321 (by decide) ?_
    refine lv_iadd hx hb dX9_doBook_322 ?_
    obtain ⟨hi, hF⟩ := wr_use hF
    refine va_iast hx hb hK hP (hDa _) hS 1 0 (pMd_1 cI b M) rfl hi dX9_doBook_323 (fun H locs hP _ hS => ?_)
    obtain ⟨M36, eM36⟩ : ∃ z : Md, z = ((upd (M.1) (1 : Int32).toNatClampNeg (v34 + 1)), M.2) := ⟨_, rfl⟩
    have hF := nm_use hF eM36
    have hP : va_P D vwCl (wMd cI b M36) H := by rw [eM36]; exact hP
    refine lv_iload hx hb dX9_doBook_324 (lv_at hl 1 rfl) ?_
    obtain ⟨er, eM⟩ := pr_use hF
    exact rt_I hx hb hr hlocks hS (by rw [← eM]; exact hP) er dX9_doBook_326
  have j125 : ∀ (M : Md) (x1 : Int32) (x2 : Int32) (x3 : Int32) (x4 : Int32) (x5 : Int32) (x6 : Int32) (s0 : Int32) (H : Heap) (locs : List Loc) (ls : Array Slot), fX9_doBook_j125 M x1 x2 x3 x4 x5 x6 s0 = some (r, M') → va_P D vwCl (wMd cI b M) H → va_S A s.heap H locs → lv_has ls 8 [(0, .ref (b 0)), (1, .int x1), (2, .int x2), (3, .int x3), (4, .int x4), (5, .int x5), (6, .int x6)] → W p l e rmX9_doBook s m args below meth c H locs 0 0 (MQ below (qI D r (wMd cI b (M')) A) args s 0 0 A) (F0 m 125 ls [.int s0]) := by
    intro M x1 x2 x3 x4 x5 x6 s0 H locs ls hF hP hS hl
    refine lv_istore (lv' := [(7, .int s0), (0, .ref (b 0)), (1, .int x1), (2, .int x2), (3, .int x3), (4, .int x4), (5, .int x5), (6, .int x6)]) hx hb dX9_doBook_125 hl (by decide) rfl (fun ls hl => ?_)
    refine lv_aload_n hx hb dX9_doBook_127 rfl (lv_at hl 1 rfl) ?_
    refine lv_iload hx hb dX9_doBook_128 (lv_at hl 6 rfl) ?_
    refine lv_iconst (v := 0) hx hb dX9_doBook_130 (by decide) ?_
    refine lv_iload_n hx hb dX9_doBook_131 rfl (lv_at hl 2 rfl) ?_
    obtain ⟨M19, hM19, hF⟩ := bd_use hF
    refine cl_VV ⟨hx, hb, hml, hown, htb⟩ (kX9_lays l D cS g cI b M x5 0 x1 _ hM19) (cwV 3 htb (gX9_lays bw4_125) rfl rfl rfl hdX9_lays ⟨Nat.le_of_ble_eq_true rfl, Nat.le_of_ble_eq_true rfl⟩) hK (hDa _) hG hA hP hS (sg_Md_Md cI b M M19) hl.1 rfl 0 (pMd_0 _ _ _) rfl rfl (Nat.le_of_ble_eq_true rfl) dX9_doBook_132 (fun H locs hP hS => ?_)
    refine lv_aload_n hx hb dX9_doBook_135 rfl (lv_at hl 1 rfl) ?_
    refine lv_iload hx hb dX9_doBook_136 (lv_at hl 6 rfl) ?_
    refine lv_iconst (v := 1) hx hb dX9_doBook_138 (by decide) ?_
    refine lv_iload_n hx hb dX9_doBook_139 rfl (lv_at hl 3 rfl) ?_
    obtain ⟨M20, hM20, hF⟩ := bd_use hF
    refine cl_VV ⟨hx, hb, hml, hown, htb⟩ (kX9_lays l D cS g cI b M19 x5 1 x2 _ hM20) (cwV 3 htb (gX9_lays bw4_125) rfl rfl rfl hdX9_lays ⟨Nat.le_of_ble_eq_true rfl, Nat.le_of_ble_eq_true rfl⟩) hK (hDa _) hG hA hP hS (sg_Md_Md cI b M19 M20) hl.1 rfl 0 (pMd_0 _ _ _) rfl rfl (Nat.le_of_ble_eq_true rfl) dX9_doBook_140 (fun H locs hP hS => ?_)
    refine lv_aload_n hx hb dX9_doBook_143 rfl (lv_at hl 1 rfl) ?_
    refine lv_iload hx hb dX9_doBook_144 (lv_at hl 6 rfl) ?_
    refine lv_iconst (v := 2) hx hb dX9_doBook_146 (by decide) ?_
    refine lv_iload_n hx hb dX9_doBook_147 rfl (lv_at hl 4 rfl) ?_
    obtain ⟨M21, hM21, hF⟩ := bd_use hF
    refine cl_VV ⟨hx, hb, hml, hown, htb⟩ (kX9_lays l D cS g cI b M20 x5 2 x3 _ hM21) (cwV 3 htb (gX9_lays bw4_125) rfl rfl rfl hdX9_lays ⟨Nat.le_of_ble_eq_true rfl, Nat.le_of_ble_eq_true rfl⟩) hK (hDa _) hG hA hP hS (sg_Md_Md cI b M20 M21) hl.1 rfl 0 (pMd_0 _ _ _) rfl rfl (Nat.le_of_ble_eq_true rfl) dX9_doBook_148 (fun H locs hP hS => ?_)
    refine lv_aload_n hx hb dX9_doBook_151 rfl (lv_at hl 1 rfl) ?_
    refine lv_iload hx hb dX9_doBook_152 (lv_at hl 6 rfl) ?_
    refine lv_iconst (v := 3) hx hb dX9_doBook_154 (by decide) ?_
    refine lv_iconst (v := 0) hx hb dX9_doBook_155 (by decide) ?_
    obtain ⟨M22, hM22, hF⟩ := bd_use hF
    refine cl_VV ⟨hx, hb, hml, hown, htb⟩ (kX9_lays l D cS g cI b M21 x5 3 0 _ hM22) (cwV 3 htb (gX9_lays bw4_125) rfl rfl rfl hdX9_lays ⟨Nat.le_of_ble_eq_true rfl, Nat.le_of_ble_eq_true rfl⟩) hK (hDa _) hG hA hP hS (sg_Md_Md cI b M21 M22) hl.1 rfl 0 (pMd_0 _ _ _) rfl rfl (Nat.le_of_ble_eq_true rfl) dX9_doBook_156 (fun H locs hP hS => ?_)
    refine lv_aload_n hx hb dX9_doBook_159 rfl (lv_at hl 1 rfl) ?_
    refine lv_iload hx hb dX9_doBook_160 (lv_at hl 6 rfl) ?_
    refine lv_iconst (v := 4) hx hb dX9_doBook_162 (by decide) ?_
    refine lv_iload hx hb dX9_doBook_163 (lv_at hl 7 rfl) ?_
    obtain ⟨M23, hM23, hF⟩ := bd_use hF
    refine cl_VV ⟨hx, hb, hml, hown, htb⟩ (kX9_lays l D cS g cI b M22 x5 4 x6 _ hM23) (cwV 3 htb (gX9_lays bw4_125) rfl rfl rfl hdX9_lays ⟨Nat.le_of_ble_eq_true rfl, Nat.le_of_ble_eq_true rfl⟩) hK (hDa _) hG hA hP hS (sg_Md_Md cI b M22 M23) hl.1 rfl 0 (pMd_0 _ _ _) rfl rfl (Nat.le_of_ble_eq_true rfl) dX9_doBook_165 (fun H locs hP hS => ?_)
    refine lv_aload_n hx hb dX9_doBook_168 rfl (lv_at hl 1 rfl) ?_
    refine lv_iload hx hb dX9_doBook_169 (lv_at hl 6 rfl) ?_
    refine lv_iconst (v := 5) hx hb dX9_doBook_171 (by decide) ?_
    refine lv_iload hx hb dX9_doBook_172 (lv_at hl 7 rfl) ?_
    refine lv_iload hx hb dX9_doBook_174 (lv_at hl 0 rfl) ?_
    refine lv_isub hx hb dX9_doBook_176 ?_
    obtain ⟨M24, hM24, hF⟩ := bd_use hF
    refine cl_VV ⟨hx, hb, hml, hown, htb⟩ (kX9_lays l D cS g cI b M23 x5 5 (x6 - s0) _ hM24) (cwV 3 htb (gX9_lays bw4_125) rfl rfl rfl hdX9_lays ⟨Nat.le_of_ble_eq_true rfl, Nat.le_of_ble_eq_true rfl⟩) hK (hDa _) hG hA hP hS (sg_Md_Md cI b M23 M24) hl.1 rfl 0 (pMd_0 _ _ _) rfl rfl (Nat.le_of_ble_eq_true rfl) dX9_doBook_177 (fun H locs hP hS => ?_)
    refine lv_aload_n hx hb dX9_doBook_180 rfl (lv_at hl 1 rfl) ?_
    refine lv_iload hx hb dX9_doBook_181 (lv_at hl 6 rfl) ?_
    refine lv_bipush (v := 6) hx hb dX9_doBook_183 (by decide) ?_
    refine lv_iconst (v := 0) hx hb dX9_doBook_185 (by decide) ?_
    obtain ⟨M25, hM25, hF⟩ := bd_use hF
    refine cl_VV ⟨hx, hb, hml, hown, htb⟩ (kX9_lays l D cS g cI b M24 x5 6 0 _ hM25) (cwV 3 htb (gX9_lays bw4_125) rfl rfl rfl hdX9_lays ⟨Nat.le_of_ble_eq_true rfl, Nat.le_of_ble_eq_true rfl⟩) hK (hDa _) hG hA hP hS (sg_Md_Md cI b M24 M25) hl.1 rfl 0 (pMd_0 _ _ _) rfl rfl (Nat.le_of_ble_eq_true rfl) dX9_doBook_186 (fun H locs hP hS => ?_)
    refine lv_aload_n hx hb dX9_doBook_189 rfl (lv_at hl 1 rfl) ?_
    refine lv_iload hx hb dX9_doBook_190 (lv_at hl 6 rfl) ?_
    refine lv_bipush (v := 7) hx hb dX9_doBook_192 (by decide) ?_
    refine lv_bipush (v := (-9)) hx hb dX9_doBook_194 (by decide) ?_
    obtain ⟨M26, hM26, hF⟩ := bd_use hF
    refine cl_VV ⟨hx, hb, hml, hown, htb⟩ (kX9_lays l D cS g cI b M25 x5 7 (-9) _ hM26) (cwV 3 htb (gX9_lays bw4_125) rfl rfl rfl hdX9_lays ⟨Nat.le_of_ble_eq_true rfl, Nat.le_of_ble_eq_true rfl⟩) hK (hDa _) hG hA hP hS (sg_Md_Md cI b M25 M26) hl.1 rfl 0 (pMd_0 _ _ _) rfl rfl (Nat.le_of_ble_eq_true rfl) dX9_doBook_196 (fun H locs hP hS => ?_)
    refine lv_aload_n hx hb dX9_doBook_199 rfl (lv_at hl 1 rfl) ?_
    refine lv_iload hx hb dX9_doBook_200 (lv_at hl 6 rfl) ?_
    refine lv_bipush (v := 8) hx hb dX9_doBook_202 (by decide) ?_
    refine lv_bipush (v := (-9)) hx hb dX9_doBook_204 (by decide) ?_
    obtain ⟨M27, hM27, hF⟩ := bd_use hF
    refine cl_VV ⟨hx, hb, hml, hown, htb⟩ (kX9_lays l D cS g cI b M26 x5 8 (-9) _ hM27) (cwV 3 htb (gX9_lays bw4_125) rfl rfl rfl hdX9_lays ⟨Nat.le_of_ble_eq_true rfl, Nat.le_of_ble_eq_true rfl⟩) hK (hDa _) hG hA hP hS (sg_Md_Md cI b M26 M27) hl.1 rfl 0 (pMd_0 _ _ _) rfl rfl (Nat.le_of_ble_eq_true rfl) dX9_doBook_206 (fun H locs hP hS => ?_)
    refine lv_aload_n hx hb dX9_doBook_209 rfl (lv_at hl 1 rfl) ?_
    refine va_get (ci := 9) (v := .ref (b 1)) (C := RX9) (T := TX9) (N := 10) hx hb htb kin9 hown hK hP 0 (pMd_0 cI b M27) rfl 0 (by decide) (htb _ bw4_25) (fun _ h9 => h9) rfl dX9_doBook_210 ?_
    refine lv_sipush (v := 197) hx hb dX9_doBook_213 (by decide) ?_
    refine lv_iload hx hb dX9_doBook_216 (lv_at hl 6 rfl) ?_
    refine lv_iadd hx hb dX9_doBook_218 ?_
    refine lv_iconst (v := 0) hx hb dX9_doBook_219 (by decide) ?_
    obtain ⟨hi, hF⟩ := wr_use hF
    refine va_iast hx hb hK hP (hDa _) hS 1 0 (pMd_1 cI b M27) rfl hi dX9_doBook_220 (fun H locs hP _ hS => ?_)
    obtain ⟨M29, eM29⟩ : ∃ z : Md, z = ((upd (M27.1) (197 + x5 : Int32).toNatClampNeg 0), M27.2) := ⟨_, rfl⟩
    have hF := nm_use hF eM29
    have hP : va_P D vwCl (wMd cI b M29) H := by rw [eM29]; exact hP
    refine lv_aload_n hx hb dX9_doBook_221 rfl (lv_at hl 1 rfl) ?_
    refine va_get (ci := 9) (v := .ref (b 1)) (C := RX9) (T := TX9) (N := 10) hx hb htb kin9 hown hK hP 0 (pMd_0 cI b M29) rfl 0 (by decide) (htb _ bw4_25) (fun _ h9 => h9) rfl dX9_doBook_222 ?_
    refine lv_iconst (v := 3) hx hb dX9_doBook_225 (by decide) ?_
    refine lv_dup2_11 hx hb dX9_doBook_226 rfl rfl ?_
    obtain ⟨hi, hF⟩ := rd_use hF
    refine va_iald hx hb hK hP 1 0 (pMd_1 cI b M29) rfl hi dX9_doBook_227 ?_
    refine lv_topi (fun v30 ev30 => ?_)
    have hF := hF v30 ev30
    refine lv_iload hx hb dX9_doBook_228 (lv_at hl 7 rfl) ?_
    refine lv_iload hx hb dX9_doBook_230 (lv_at hl 0 rfl) ?_
    refine lv_isub hx hb dX9_doBook_232 ?_
    refine lv_iadd hx hb dX9_doBook_233 ?_
    obtain ⟨hi, hF⟩ := wr_use hF
    refine va_iast hx hb hK hP (hDa _) hS 1 0 (pMd_1 cI b M29) rfl hi dX9_doBook_234 (fun H locs hP _ hS => ?_)
    obtain ⟨M32, eM32⟩ : ∃ z : Md, z = ((upd (M29.1) (3 : Int32).toNatClampNeg (v30 + (x6 - s0))), M29.2) := ⟨_, rfl⟩
    have hF := nm_use hF eM32
    have hP : va_P D vwCl (wMd cI b M32) H := by rw [eM32]; exact hP
    refine lv_iload hx hb dX9_doBook_235 (lv_at hl 0 rfl) ?_
    refine lv_if_le (tgt := 314) hx hb dX9_doBook_237 (by decide) (fun c33 => ?_) (fun c33 => ?_)
    · have hF := it_t hF c33
      exact j314 M32 x5 _ _ _ hF hP hS (lv_sub hl [1, 6] rfl)
    · have hF := it_f hF c33
      refine lv_aload_n hx hb dX9_doBook_240 rfl (lv_at hl 1 rfl) ?_
      refine va_get (ci := 9) (v := .ref (b 1)) (C := RX9) (T := TX9) (N := 10) hx hb htb kin9 hown hK hP 0 (pMd_0 cI b M32) rfl 0 (by decide) (htb _ bw4_25) (fun _ h9 => h9) rfl dX9_doBook_241 ?_
      refine lv_sipush (v := 501) hx hb dX9_doBook_244 (by decide) ?_
      refine lv_iconst (v := 2) hx hb dX9_doBook_247 (by decide) ?_
      refine lv_iload hx hb dX9_doBook_248 (lv_at hl 5 rfl) ?_
      refine lv_imul hx hb dX9_doBook_250 ?_
      refine lv_iadd hx hb dX9_doBook_251 ?_
      refine lv_iconst (v := 1) hx hb dX9_doBook_252 (by decide) ?_
      refine lv_iadd hx hb dX9_doBook_253 ?_
      refine lv_topi (fun v37 ev37 => ?_)
      have hF := nm_use hF ev37
      refine lv_dup2_11 hx hb dX9_doBook_254 rfl rfl ?_
      obtain ⟨hi, hF⟩ := rd_use hF
      refine va_iald hx hb hK hP 1 0 (pMd_1 cI b M32) rfl hi dX9_doBook_255 ?_
      refine lv_topi (fun v38 ev38 => ?_)
      have hF := hF v38 ev38
      refine lv_iload hx hb dX9_doBook_256 (lv_at hl 0 rfl) ?_
      refine lv_isub hx hb dX9_doBook_258 ?_
      obtain ⟨hi, hF⟩ := wr_use hF
      refine va_iast hx hb hK hP (hDa _) hS 1 0 (pMd_1 cI b M32) rfl hi dX9_doBook_259 (fun H locs hP _ hS => ?_)
      obtain ⟨M40, eM40⟩ : ∃ z : Md, z = ((upd (M32.1) (v37 : Int32).toNatClampNeg (v38 - s0)), M32.2) := ⟨_, rfl⟩
      have hF := nm_use hF eM40
      have hP : va_P D vwCl (wMd cI b M40) H := by rw [eM40]; exact hP
      refine lv_aload_n hx hb dX9_doBook_260 rfl (lv_at hl 1 rfl) ?_
      refine va_get (ci := 9) (v := .ref (b 1)) (C := RX9) (T := TX9) (N := 10) hx hb htb kin9 hown hK hP 0 (pMd_0 cI b M40) rfl 0 (by decide) (htb _ bw4_25) (fun _ h9 => h9) rfl dX9_doBook_261 ?_
      refine lv_sipush (v := 469) hx hb dX9_doBook_264 (by decide) ?_
      refine lv_iload hx hb dX9_doBook_267 (lv_at hl 6 rfl) ?_
      refine lv_iadd hx hb dX9_doBook_269 ?_
      refine lv_iload hx hb dX9_doBook_270 (lv_at hl 5 rfl) ?_
      obtain ⟨hi, hF⟩ := wr_use hF
      refine va_iast hx hb hK hP (hDa _) hS 1 0 (pMd_1 cI b M40) rfl hi dX9_doBook_272 (fun H locs hP _ hS => ?_)
      obtain ⟨M42, eM42⟩ : ∃ z : Md, z = ((upd (M40.1) (469 + x5 : Int32).toNatClampNeg x4), M40.2) := ⟨_, rfl⟩
      have hF := nm_use hF eM42
      have hP : va_P D vwCl (wMd cI b M42) H := by rw [eM42]; exact hP
      refine lv_aload_n hx hb dX9_doBook_273 rfl (lv_at hl 1 rfl) ?_
      refine va_get (ci := 9) (v := .ref (b 1)) (C := RX9) (T := TX9) (N := 10) hx hb htb kin9 hown hK hP 0 (pMd_0 cI b M42) rfl 0 (by decide) (htb _ bw4_25) (fun _ h9 => h9) rfl dX9_doBook_274 ?_
      refine lv_sipush (v := 485) hx hb dX9_doBook_277 (by decide) ?_
      refine lv_iload hx hb dX9_doBook_280 (lv_at hl 6 rfl) ?_
      refine lv_iadd hx hb dX9_doBook_282 ?_
      refine lv_iload hx hb dX9_doBook_283 (lv_at hl 0 rfl) ?_
      obtain ⟨hi, hF⟩ := wr_use hF
      refine va_iast hx hb hK hP (hDa _) hS 1 0 (pMd_1 cI b M42) rfl hi dX9_doBook_285 (fun H locs hP _ hS => ?_)
      obtain ⟨M44, eM44⟩ : ∃ z : Md, z = ((upd (M42.1) (485 + x5 : Int32).toNatClampNeg s0), M42.2) := ⟨_, rfl⟩
      have hF := nm_use hF eM44
      have hP : va_P D vwCl (wMd cI b M44) H := by rw [eM44]; exact hP
      refine lv_aload_n hx hb dX9_doBook_286 rfl (lv_at hl 1 rfl) ?_
      refine va_get (ci := 9) (v := .ref (b 1)) (C := RX9) (T := TX9) (N := 10) hx hb htb kin9 hown hK hP 0 (pMd_0 cI b M44) rfl 0 (by decide) (htb _ bw4_25) (fun _ h9 => h9) rfl dX9_doBook_287 ?_
      refine lv_sipush (v := 213) hx hb dX9_doBook_290 (by decide) ?_
      refine lv_bipush (v := 16) hx hb dX9_doBook_293 (by decide) ?_
      refine lv_iload hx hb dX9_doBook_295 (lv_at hl 6 rfl) ?_
      refine lv_imul hx hb dX9_doBook_297 ?_
      refine lv_iadd hx hb dX9_doBook_298 ?_
      refine lv_iload hx hb dX9_doBook_299 (lv_at hl 6 rfl) ?_
      obtain ⟨hi, hF⟩ := wr_use hF
      refine va_iast hx hb hK hP (hDa _) hS 1 0 (pMd_1 cI b M44) rfl hi dX9_doBook_301 (fun H locs hP _ hS => ?_)
      obtain ⟨M46, eM46⟩ : ∃ z : Md, z = ((upd (M44.1) (213 + (16 * x5) : Int32).toNatClampNeg x5), M44.2) := ⟨_, rfl⟩
      have hF := nm_use hF eM46
      have hP : va_P D vwCl (wMd cI b M46) H := by rw [eM46]; exact hP
      refine lv_aload_n hx hb dX9_doBook_302 rfl (lv_at hl 1 rfl) ?_
      refine va_get (ci := 9) (v := .ref (b 1)) (C := RX9) (T := TX9) (N := 10) hx hb htb kin9 hown hK hP 0 (pMd_0 cI b M46) rfl 0 (by decide) (htb _ bw4_25) (fun _ h9 => h9) rfl dX9_doBook_303 ?_
      refine lv_sipush (v := 197) hx hb dX9_doBook_306 (by decide) ?_
      refine lv_iload hx hb dX9_doBook_309 (lv_at hl 6 rfl) ?_
      refine lv_iadd hx hb dX9_doBook_311 ?_
      refine lv_iconst (v := 1) hx hb dX9_doBook_312 (by decide) ?_
      obtain ⟨hi, hF⟩ := wr_use hF
      refine va_iast hx hb hK hP (hDa _) hS 1 0 (pMd_1 cI b M46) rfl hi dX9_doBook_313 (fun H locs hP _ hS => ?_)
      obtain ⟨M48, eM48⟩ : ∃ z : Md, z = ((upd (M46.1) (197 + x5 : Int32).toNatClampNeg 1), M46.2) := ⟨_, rfl⟩
      have hF := nm_use hF eM48
      have hP : va_P D vwCl (wMd cI b M48) H := by rw [eM48]; exact hP
      exact j314 M48 x5 _ _ _ hF hP hS (lv_sub hl [1, 6] rfl)
  have j50 : ∀ (M : Md) (x1 : Int32) (x2 : Int32) (x3 : Int32) (x4 : Int32) (H : Heap) (locs : List Loc) (ls : Array Slot), fX9_doBook_j50 M x1 x2 x3 x4 = some (r, M') → va_P D vwCl (wMd cI b M) H → va_S A s.heap H locs → lv_has ls 8 [(0, .ref (b 0)), (1, .int x1), (2, .int x2), (3, .int x3), (4, .int x4)] → W p l e rmX9_doBook s m args below meth c H locs 0 0 (MQ below (qI D r (wMd cI b (M')) A) args s 0 0 A) (F0 m 50 ls []) := by
    intro M x1 x2 x3 x4 H locs ls hF hP hS hl
    refine lv_aload_n hx hb dX9_doBook_50 rfl (lv_at hl 0 rfl) ?_
    refine lv_iload_n hx hb dX9_doBook_51 rfl (lv_at hl 1 rfl) ?_
    refine lv_iload_n hx hb dX9_doBook_52 rfl (lv_at hl 2 rfl) ?_
    refine lv_bipush (v := (-9)) hx hb dX9_doBook_53 (by decide) ?_
    obtain ⟨r9, hr9, hF⟩ := bd_use hF
    refine cl_VI ⟨hx, hb, hml, hown, htb⟩ (kX9_isPossible l D cS g cI b M x1 x2 (-9) _ hr9) (cwV 3 htb (gX9_isPossible bw4_114) rfl rfl rfl hdX9_isPossible ⟨Nat.le_of_ble_eq_true rfl, Nat.le_of_ble_eq_true rfl⟩) hK (hDa _) hG hA hP hS (sr_Md_Md cI b M) hl.1 rfl 0 (pMd_0 _ _ _) rfl rfl (Nat.le_of_ble_eq_true rfl) dX9_doBook_55 (fun H locs hP hS => ?_)
    refine lv_if_ne (tgt := 64) hx hb dX9_doBook_58 (by decide) (fun c10 => ?_) (fun c10 => ?_)
    · have hF := it_f hF c10
      refine lv_aload_n hx hb dX9_doBook_64 rfl (lv_at hl 0 rfl) ?_
      refine va_get (ci := 9) (v := .ref (b 1)) (C := RX9) (T := TX9) (N := 10) hx hb htb kin9 hown hK hP 0 (pMd_0 cI b M) rfl 0 (by decide) (htb _ bw4_25) (fun _ h9 => h9) rfl dX9_doBook_65 ?_
      refine lv_iconst (v := 1) hx hb dX9_doBook_68 (by decide) ?_
      obtain ⟨hi, hF⟩ := rd_use hF
      refine va_iald hx hb hK hP 1 0 (pMd_1 cI b M) rfl hi dX9_doBook_69 ?_
      refine lv_topi (fun v11 ev11 => ?_)
      have hF := hF v11 ev11
      refine lv_bipush (v := 16) hx hb dX9_doBook_70 (by decide) ?_
      refine lv_icmp_ne (tgt := 78) hx hb dX9_doBook_72 (by decide) (fun c12 => ?_) (fun c12 => ?_)
      · have hF := it_f hF c12
        refine lv_aload_n hx hb dX9_doBook_78 rfl (lv_at hl 0 rfl) ?_
        refine va_get (ci := 9) (v := .ref (b 1)) (C := RX9) (T := TX9) (N := 10) hx hb htb kin9 hown hK hP 0 (pMd_0 cI b M) rfl 0 (by decide) (htb _ bw4_25) (fun _ h9 => h9) rfl dX9_doBook_79 ?_
        refine lv_iconst (v := 1) hx hb dX9_doBook_82 (by decide) ?_
        obtain ⟨hi, hF⟩ := rd_use hF
        refine va_iald hx hb hK hP 1 0 (pMd_1 cI b M) rfl hi dX9_doBook_83 ?_
        refine lv_topi (fun v13 ev13 => ?_)
        have hF := hF v13 ev13
        refine lv_istore (lv' := [(5, .int v13), (0, .ref (b 0)), (1, .int x1), (2, .int x2), (3, .int x3), (4, .int x4)]) hx hb dX9_doBook_84 hl (by decide) rfl (fun ls hl => ?_)
        refine lv_aload_n hx hb dX9_doBook_86 rfl (lv_at hl 1 rfl) ?_
        refine lv_iload_n hx hb dX9_doBook_87 rfl (lv_at hl 2 rfl) ?_
        refine lv_iconst (v := 2) hx hb dX9_doBook_88 (by decide) ?_
        obtain ⟨r14, hr14, hF⟩ := bd_use hF
        refine cl_VI ⟨hx, hb, hml, hown, htb⟩ (kX9_of l D cS g cI b M x1 2 _ hr14) (cwV 2 htb (gX9_of bw4_83) rfl rfl rfl hdX9_of ⟨Nat.le_of_ble_eq_true rfl, Nat.le_of_ble_eq_true rfl⟩) hK (hDa _) hG hA hP hS (sr_Md_Md cI b M) hl.1 rfl 0 (pMd_0 _ _ _) rfl rfl (Nat.le_of_ble_eq_true rfl) dX9_doBook_89 (fun H locs hP hS => ?_)
        refine lv_iload_n hx hb dX9_doBook_92 rfl (lv_at hl 4 rfl) ?_
        refine lv_imul hx hb dX9_doBook_93 ?_
        refine lv_topi (fun v15 ev15 => ?_)
        have hF := nm_use hF ev15
        refine lv_istore (lv' := [(6, .int v15), (5, .int v13), (0, .ref (b 0)), (1, .int x1), (2, .int x2), (3, .int x3), (4, .int x4)]) hx hb dX9_doBook_94 hl (by decide) rfl (fun ls hl => ?_)
        refine lv_iload hx hb dX9_doBook_96 (lv_at hl 6 rfl) ?_
        refine lv_if_ge (tgt := 105) hx hb dX9_doBook_98 (by decide) (fun c16 => ?_) (fun c16 => ?_)
        · have hF := it_t hF c16
          refine lv_iload hx hb dX9_doBook_105 (lv_at hl 0 rfl) ?_
          refine lv_aload_n hx hb dX9_doBook_107 rfl (lv_at hl 2 rfl) ?_
          refine va_get (ci := 9) (v := .ref (b 1)) (C := RX9) (T := TX9) (N := 10) hx hb htb kin9 hown hK hP 0 (pMd_0 cI b M) rfl 0 (by decide) (htb _ bw4_25) (fun _ h9 => h9) rfl dX9_doBook_108 ?_
          refine lv_sipush (v := 501) hx hb dX9_doBook_111 (by decide) ?_
          refine lv_iconst (v := 2) hx hb dX9_doBook_114 (by decide) ?_
          refine lv_iload hx hb dX9_doBook_115 (lv_at hl 6 rfl) ?_
          refine lv_imul hx hb dX9_doBook_117 ?_
          refine lv_iadd hx hb dX9_doBook_118 ?_
          refine lv_iconst (v := 1) hx hb dX9_doBook_119 (by decide) ?_
          refine lv_iadd hx hb dX9_doBook_120 ?_
          obtain ⟨hi, hF⟩ := rd_use hF
          refine va_iald hx hb hK hP 1 0 (pMd_1 cI b M) rfl hi dX9_doBook_121 ?_
          refine lv_topi (fun v17 ev17 => ?_)
          have hF := hF v17 ev17
          obtain ⟨r18, hr18, hF⟩ := bd_use hF
          refine cl_SI ⟨hx, hb, hml, hown, htb⟩ (kX9_lesser l D cS g cI v15 v17 _ hr18) (va_cwS 2 htb (gX9_lesser bw4_122) rfl rfl rfl hdX9_lesser ⟨Nat.le_of_ble_eq_true rfl, Nat.le_of_ble_eq_true rfl⟩) hK (hDa _) hG hA hP hS sg_nil hl.1 rfl rfl (Nat.le_of_ble_eq_true rfl) dX9_doBook_122 (fun H locs hP hS => ?_)
          exact j125 M x1 x2 x3 x4 v13 v15 r18 _ _ _ hF hP hS (lv_sub hl [2, 3, 4, 5, 6, 1, 0] rfl)
        · have hF := it_f hF c16
          refine lv_iconst (v := 0) hx hb dX9_doBook_101 (by decide) ?_
          refine lv_goto (tgt := 125) hx hb dX9_doBook_102 (by decide) ?_
          exact j125 M x1 x2 x3 x4 v13 v15 0 _ _ _ hF hP hS (lv_sub hl [2, 3, 4, 5, 6, 1, 0] rfl)
      · have hF := it_t hF c12
        refine lv_bipush (v := (-3)) hx hb dX9_doBook_75 (by decide) ?_
        obtain ⟨er, eM⟩ := pr_use hF
        exact rt_I hx hb hr hlocks hS (by rw [← eM]; exact hP) er dX9_doBook_77
    · have hF := it_t hF c10
      refine lv_bipush (v := (-2)) hx hb dX9_doBook_61 (by decide) ?_
      obtain ⟨er, eM⟩ := pr_use hF
      exact rt_I hx hb hr hlocks hS (by rw [← eM]; exact hP) er dX9_doBook_63
  refine lv_aload_n hx hb dX9_doBook_0 rfl (lv_at hl 0 rfl) ?_
  refine lv_iload_n hx hb dX9_doBook_1 rfl (lv_at hl 1 rfl) ?_
  obtain ⟨r1, hr1, hF⟩ := bd_use hF
  refine cl_VI ⟨hx, hb, hml, hown, htb⟩ (kX9_isRoom l D cS g cI b M x1 _ hr1) (cwV 1 htb (gX9_isRoom bw4_79) rfl rfl rfl hdX9_isRoom ⟨Nat.le_of_ble_eq_true rfl, Nat.le_of_ble_eq_true rfl⟩) hK (hDa _) hG hA hP hS (sr_Md_Md cI b M) hl.1 rfl 0 (pMd_0 _ _ _) rfl rfl (Nat.le_of_ble_eq_true rfl) dX9_doBook_2 (fun H locs hP hS => ?_)
  refine lv_if_eq (tgt := 48) hx hb dX9_doBook_5 (by decide) (fun c2 => ?_) (fun c2 => ?_)
  · have hF := it_t hF c2
    refine lv_iconst (v := (-1)) hx hb dX9_doBook_48 (by decide) ?_
    obtain ⟨er, eM⟩ := pr_use hF
    exact rt_I hx hb hr hlocks hS (by rw [← eM]; exact hP) er dX9_doBook_49
  · have hF := it_f hF c2
    refine lv_iload_n hx hb dX9_doBook_8 rfl (lv_at hl 2 rfl) ?_
    refine lv_iconst (v := 0) hx hb dX9_doBook_9 (by decide) ?_
    refine lv_sipush (v := 720) hx hb dX9_doBook_10 (by decide) ?_
    obtain ⟨r3, hr3, hF⟩ := bd_use hF
    refine cl_SI ⟨hx, hb, hml, hown, htb⟩ (kX9_in l D cS g cI x2 0 720 _ hr3) (va_cwS 3 htb (gX9_in bw4_68) rfl rfl rfl hdX9_in ⟨Nat.le_of_ble_eq_true rfl, Nat.le_of_ble_eq_true rfl⟩) hK (hDa _) hG hA hP hS sg_nil hl.1 rfl rfl (Nat.le_of_ble_eq_true rfl) dX9_doBook_13 (fun H locs hP hS => ?_)
    refine lv_if_eq (tgt := 48) hx hb dX9_doBook_16 (by decide) (fun c4 => ?_) (fun c4 => ?_)
    · have hF := it_t hF c4
      refine lv_iconst (v := (-1)) hx hb dX9_doBook_48 (by decide) ?_
      obtain ⟨er, eM⟩ := pr_use hF
      exact rt_I hx hb hr hlocks hS (by rw [← eM]; exact hP) er dX9_doBook_49
    · have hF := it_f hF c4
      refine lv_iload_n hx hb dX9_doBook_19 rfl (lv_at hl 3 rfl) ?_
      refine lv_iconst (v := 2) hx hb dX9_doBook_20 (by decide) ?_
      refine lv_aload_n hx hb dX9_doBook_21 rfl (lv_at hl 0 rfl) ?_
      refine lv_iload_n hx hb dX9_doBook_22 rfl (lv_at hl 1 rfl) ?_
      refine lv_iconst (v := 3) hx hb dX9_doBook_23 (by decide) ?_
      obtain ⟨r5, hr5, hF⟩ := bd_use hF
      refine cl_VI ⟨hx, hb, hml, hown, htb⟩ (kX9_of l D cS g cI b M x1 3 _ hr5) (cwV 2 htb (gX9_of bw4_83) rfl rfl rfl hdX9_of ⟨Nat.le_of_ble_eq_true rfl, Nat.le_of_ble_eq_true rfl⟩) hK (hDa _) hG hA hP hS (sr_Md_Md cI b M) hl.1 rfl 0 (pMd_0 _ _ _) rfl rfl (Nat.le_of_ble_eq_true rfl) dX9_doBook_24 (fun H locs hP hS => ?_)
      obtain ⟨r6, hr6, hF⟩ := bd_use hF
      refine cl_SI ⟨hx, hb, hml, hown, htb⟩ (kX9_in l D cS g cI x3 2 r5 _ hr6) (va_cwS 3 htb (gX9_in bw4_68) rfl rfl rfl hdX9_in ⟨Nat.le_of_ble_eq_true rfl, Nat.le_of_ble_eq_true rfl⟩) hK (hDa _) hG hA hP hS sg_nil hl.1 rfl rfl (Nat.le_of_ble_eq_true rfl) dX9_doBook_27 (fun H locs hP hS => ?_)
      refine lv_if_eq (tgt := 48) hx hb dX9_doBook_30 (by decide) (fun c7 => ?_) (fun c7 => ?_)
      · have hF := it_t hF c7
        refine lv_iconst (v := (-1)) hx hb dX9_doBook_48 (by decide) ?_
        obtain ⟨er, eM⟩ := pr_use hF
        exact rt_I hx hb hr hlocks hS (by rw [← eM]; exact hP) er dX9_doBook_49
      · have hF := it_f hF c7
        refine lv_iload hx hb dX9_doBook_33 (lv_at hl 4 rfl) ?_
        refine lv_iconst (v := (-1)) hx hb dX9_doBook_35 (by decide) ?_
        refine lv_icmp_eq (tgt := 50) hx hb dX9_doBook_36 (by decide) (fun c8 => ?_) (fun c8 => ?_)
        · have hF := it_t hF c8
          exact j50 M x1 x2 x3 x4 _ _ _ hF hP hS (lv_sub hl [0, 1, 2, 3, 4] rfl)
        · have hF := it_f hF c8
          refine lv_aload_n hx hb dX9_doBook_39 rfl (lv_at hl 0 rfl) ?_
          refine lv_iload hx hb dX9_doBook_40 (lv_at hl 4 rfl) ?_
          obtain ⟨r49, hr49, hF⟩ := bd_use hF
          refine cl_VI ⟨hx, hb, hml, hown, htb⟩ (kX9_isVoucher l D cS g cI b M x4 _ hr49) (cwV 1 htb (gX9_isVoucher bw4_110) rfl rfl rfl hdX9_isVoucher ⟨Nat.le_of_ble_eq_true rfl, Nat.le_of_ble_eq_true rfl⟩) hK (hDa _) hG hA hP hS (sr_Md_Md cI b M) hl.1 rfl 0 (pMd_0 _ _ _) rfl rfl (Nat.le_of_ble_eq_true rfl) dX9_doBook_42 (fun H locs hP hS => ?_)
          refine lv_if_ne (tgt := 50) hx hb dX9_doBook_45 (by decide) (fun c50 => ?_) (fun c50 => ?_)
          · have hF := it_f hF c50
            exact j50 M x1 x2 x3 x4 _ _ _ hF hP hS (lv_sub hl [0, 1, 2, 3, 4] rfl)
          · have hF := it_t hF c50
            refine lv_iconst (v := (-1)) hx hb dX9_doBook_48 (by decide) ?_
            obtain ⟨er, eM⟩ := pr_use hF
            exact rt_I hx hb hr hlocks hS (by rw [← eM]; exact hP) er dX9_doBook_49
noncomputable def fX9_book  (M : Md) (x1 : Int32) (x2 : Int32) (x3 : Int32) (x4 : Int32) : Option (Int32 × Md) := (fX9_hold M).bind fun M1 => b2 (fX9_doBook M1 x1 x2 x3 x4) fun r3 M2 => b2 (fX9_ends M2 r3) fun r5 M4 => some (r5, M4)
abbrev vX9_book : List Cond := Cond.code yX9_book cX9_book 5 (some .int) :: BIG
theorem gX9_book {own : String} {idx : Nat} (h : (Cond.methodLink own idx yX9_book) ∈ BIG) : GoodIn BIG (wsV own idx RX9 yX9_book vX9_book) := gdV h bw4_103 bw4_104 bw1_11 bw4_105
def rmX9_book : Room := { frames := 3, cells := 0, slots := 0, locals := 75 }
theorem hdX9_book : yX9_book.cls = RX9 ∧ yX9_book.cls ≠ "java/lang/invoke/MethodHandle" ∧ yX9_book.cls ≠ "java/lang/invoke/VarHandle" ∧ (parseMethodDescriptor yX9_book.desc).map (fun d => d.parameters.length) = some 4 := by decide +kernel
set_option maxHeartbeats 4000000 in
set_option maxRecDepth 100000 in
theorem kX9_book (l : Launch) (D : va_G) (cS : ClassId) (g : Nat → Nat) (cI : ClassId) (b : Nat → Nat) (M : Md) (x1 : Int32) (x2 : Int32) (x3 : Int32) (x4 : Int32) (r : Int32) (M' : Md) (hF : fX9_book M x1 x2 x3 x4 = some (r, M')) : mI l yX9_book vX9_book rmX9_book D cI cS g [.ref (b 0), .int x1, .int x2, .int x3, .int x4] (wMd cI b M) r (wMd cI b (M')) := by
  refine st_I rfl (by decide) (Nat.le_of_ble_eq_true rfl) ?_
  intro p e s m args below meth c A ls hx hb hr hml hlocks hown hts hA hK hD0 hG hP hS hl
  have hown : s.vm.findClass RX9 = some m.cls := hown
  have hDa : ∀ M, va_D A (wMd cI b M) := fun M => hD0.adr rfl
  have htb : ∀ w ∈ BIG, w.before args s = true := fun w h => hts w (List.mem_cons_of_mem _ h)
  have hl : lv_has ls 5 [(0, .ref (b 0)), (1, .int x1), (2, .int x2), (3, .int x3), (4, .int x4)] := hl
  refine lv_aload_n hx hb dX9_book_0 rfl (lv_at hl 0 rfl) ?_
  obtain ⟨M1, hM1, hF⟩ := bd_use hF
  refine cl_VV ⟨hx, hb, hml, hown, htb⟩ (kX9_hold l D cS g cI b M  _ hM1) (cwV 0 htb (gX9_hold bw4_60) rfl rfl rfl hdX9_hold ⟨Nat.le_of_ble_eq_true rfl, Nat.le_of_ble_eq_true rfl⟩) hK (hDa _) hG hA hP hS (sg_Md_Md cI b M M1) hl.1 rfl 0 (pMd_0 _ _ _) rfl rfl (Nat.le_of_ble_eq_true rfl) dX9_book_1 (fun H locs hP hS => ?_)
  refine lv_aload_n hx hb dX9_book_4 rfl (lv_at hl 0 rfl) ?_
  refine lv_aload_n hx hb dX9_book_5 rfl (lv_at hl 0 rfl) ?_
  refine lv_iload_n hx hb dX9_book_6 rfl (lv_at hl 1 rfl) ?_
  refine lv_iload_n hx hb dX9_book_7 rfl (lv_at hl 2 rfl) ?_
  refine lv_iload_n hx hb dX9_book_8 rfl (lv_at hl 3 rfl) ?_
  refine lv_iload hx hb dX9_book_9 (lv_at hl 4 rfl) ?_
  obtain ⟨r3, M2, hM2, hF⟩ := b2_use hF
  refine cl_VI ⟨hx, hb, hml, hown, htb⟩ (kX9_doBook l D cS g cI b M1 x1 x2 x3 x4 _ _ hM2) (cwV 4 htb (gX9_doBook bw4_106) rfl rfl rfl hdX9_doBook ⟨Nat.le_of_ble_eq_true rfl, Nat.le_of_ble_eq_true rfl⟩) hK (hDa _) hG hA hP hS (sg_Md_Md cI b M1 M2) hl.1 rfl 0 (pMd_0 _ _ _) rfl rfl (Nat.le_of_ble_eq_true rfl) dX9_book_11 (fun H locs hP hS => ?_)
  obtain ⟨r5, M4, hM4, hF⟩ := b2_use hF
  refine cl_VI ⟨hx, hb, hml, hown, htb⟩ (kX9_ends l D cS g cI b M2 r3 _ _ hM4) (cwV 1 htb (gX9_ends bw4_71) rfl rfl rfl hdX9_ends ⟨Nat.le_of_ble_eq_true rfl, Nat.le_of_ble_eq_true rfl⟩) hK (hDa _) hG hA hP hS (sg_Md_Md cI b M2 M4) hl.1 rfl 0 (pMd_0 _ _ _) rfl rfl (Nat.le_of_ble_eq_true rfl) dX9_book_14 (fun H locs hP hS => ?_)
  obtain ⟨er, eM⟩ := pr_use hF
  exact rt_I hx hb hr hlocks hS (by rw [← eM]; exact hP) er dX9_book_17
noncomputable def fX9_move  (M : Md) (x1 : Int32) (x2 : Int32) : Option (Int32 × Md) := (fX9_isBooking M x1).bind fun r1 => if r1 = 0 then (some ((-1), M)) else ((fX9_in x2 0 720).bind fun r3 => if r3 = 0 then (some ((-1), M)) else ((fX9_its M x1 3).bind fun r5 => if r5 = 0 then ((fX9_its M x1 0).bind fun r7 => (fX9_isPossible M r7 x2 x1).bind fun r8 => if r8 = 0 then (some ((-2), M)) else ((fX9_hold M).bind fun M10 => (fX9_its M10 x1 1).bind fun r11 => (fX9_lays M10 x1 1 x2).bind fun M12 => b2 (fX9_ends M12 r11) fun r14 M13 => some (r14, M13))) else (some ((-2), M))))
abbrev vX9_move : List Cond := Cond.code yX9_move cX9_move 4 (some .int) :: BIG
theorem gX9_move {own : String} {idx : Nat} (h : (Cond.methodLink own idx yX9_move) ∈ BIG) : GoodIn BIG (wsV own idx RX9 yX9_move vX9_move) := gdV h bw4_130 bw4_131 bw1_11 bw4_132
def rmX9_move : Room := { frames := 2, cells := 0, slots := 0, locals := 48 }
theorem hdX9_move : yX9_move.cls = RX9 ∧ yX9_move.cls ≠ "java/lang/invoke/MethodHandle" ∧ yX9_move.cls ≠ "java/lang/invoke/VarHandle" ∧ (parseMethodDescriptor yX9_move.desc).map (fun d => d.parameters.length) = some 2 := by decide +kernel
set_option maxHeartbeats 4000000 in
set_option maxRecDepth 100000 in
theorem kX9_move (l : Launch) (D : va_G) (cS : ClassId) (g : Nat → Nat) (cI : ClassId) (b : Nat → Nat) (M : Md) (x1 : Int32) (x2 : Int32) (r : Int32) (M' : Md) (hF : fX9_move M x1 x2 = some (r, M')) : mI l yX9_move vX9_move rmX9_move D cI cS g [.ref (b 0), .int x1, .int x2] (wMd cI b M) r (wMd cI b (M')) := by
  refine st_I rfl (by decide) (Nat.le_of_ble_eq_true rfl) ?_
  intro p e s m args below meth c A ls hx hb hr hml hlocks hown hts hA hK hD0 hG hP hS hl
  have hown : s.vm.findClass RX9 = some m.cls := hown
  have hDa : ∀ M, va_D A (wMd cI b M) := fun M => hD0.adr rfl
  have htb : ∀ w ∈ BIG, w.before args s = true := fun w h => hts w (List.mem_cons_of_mem _ h)
  have hl : lv_has ls 4 [(0, .ref (b 0)), (1, .int x1), (2, .int x2)] := hl
  refine lv_aload_n hx hb dX9_move_0 rfl (lv_at hl 0 rfl) ?_
  refine lv_iload_n hx hb dX9_move_1 rfl (lv_at hl 1 rfl) ?_
  obtain ⟨r1, hr1, hF⟩ := bd_use hF
  refine cl_VI ⟨hx, hb, hml, hown, htb⟩ (kX9_isBooking l D cS g cI b M x1 _ hr1) (cwV 1 htb (gX9_isBooking bw4_133) rfl rfl rfl hdX9_isBooking ⟨Nat.le_of_ble_eq_true rfl, Nat.le_of_ble_eq_true rfl⟩) hK (hDa _) hG hA hP hS (sr_Md_Md cI b M) hl.1 rfl 0 (pMd_0 _ _ _) rfl rfl (Nat.le_of_ble_eq_true rfl) dX9_move_2 (fun H locs hP hS => ?_)
  refine lv_if_eq (tgt := 19) hx hb dX9_move_5 (by decide) (fun c2 => ?_) (fun c2 => ?_)
  · have hF := it_t hF c2
    refine lv_iconst (v := (-1)) hx hb dX9_move_19 (by decide) ?_
    obtain ⟨er, eM⟩ := pr_use hF
    exact rt_I hx hb hr hlocks hS (by rw [← eM]; exact hP) er dX9_move_20
  · have hF := it_f hF c2
    refine lv_iload_n hx hb dX9_move_8 rfl (lv_at hl 2 rfl) ?_
    refine lv_iconst (v := 0) hx hb dX9_move_9 (by decide) ?_
    refine lv_sipush (v := 720) hx hb dX9_move_10 (by decide) ?_
    obtain ⟨r3, hr3, hF⟩ := bd_use hF
    refine cl_SI ⟨hx, hb, hml, hown, htb⟩ (kX9_in l D cS g cI x2 0 720 _ hr3) (va_cwS 3 htb (gX9_in bw4_68) rfl rfl rfl hdX9_in ⟨Nat.le_of_ble_eq_true rfl, Nat.le_of_ble_eq_true rfl⟩) hK (hDa _) hG hA hP hS sg_nil hl.1 rfl rfl (Nat.le_of_ble_eq_true rfl) dX9_move_13 (fun H locs hP hS => ?_)
    refine lv_if_ne (tgt := 21) hx hb dX9_move_16 (by decide) (fun c4 => ?_) (fun c4 => ?_)
    · have hF := it_f hF c4
      refine lv_aload_n hx hb dX9_move_21 rfl (lv_at hl 0 rfl) ?_
      refine lv_iload_n hx hb dX9_move_22 rfl (lv_at hl 1 rfl) ?_
      refine lv_iconst (v := 3) hx hb dX9_move_23 (by decide) ?_
      obtain ⟨r5, hr5, hF⟩ := bd_use hF
      refine cl_VI ⟨hx, hb, hml, hown, htb⟩ (kX9_its l D cS g cI b M x1 3 _ hr5) (cwV 2 htb (gX9_its bw4_118) rfl rfl rfl hdX9_its ⟨Nat.le_of_ble_eq_true rfl, Nat.le_of_ble_eq_true rfl⟩) hK (hDa _) hG hA hP hS (sr_Md_Md cI b M) hl.1 rfl 0 (pMd_0 _ _ _) rfl rfl (Nat.le_of_ble_eq_true rfl) dX9_move_24 (fun H locs hP hS => ?_)
      refine lv_if_ne (tgt := 45) hx hb dX9_move_27 (by decide) (fun c6 => ?_) (fun c6 => ?_)
      · have hF := it_f hF c6
        refine lv_bipush (v := (-2)) hx hb dX9_move_45 (by decide) ?_
        obtain ⟨er, eM⟩ := pr_use hF
        exact rt_I hx hb hr hlocks hS (by rw [← eM]; exact hP) er dX9_move_47
      · have hF := it_t hF c6
        refine lv_aload_n hx hb dX9_move_30 rfl (lv_at hl 0 rfl) ?_
        refine lv_aload_n hx hb dX9_move_31 rfl (lv_at hl 0 rfl) ?_
        refine lv_iload_n hx hb dX9_move_32 rfl (lv_at hl 1 rfl) ?_
        refine lv_iconst (v := 0) hx hb dX9_move_33 (by decide) ?_
        obtain ⟨r7, hr7, hF⟩ := bd_use hF
        refine cl_VI ⟨hx, hb, hml, hown, htb⟩ (kX9_its l D cS g cI b M x1 0 _ hr7) (cwV 2 htb (gX9_its bw4_118) rfl rfl rfl hdX9_its ⟨Nat.le_of_ble_eq_true rfl, Nat.le_of_ble_eq_true rfl⟩) hK (hDa _) hG hA hP hS (sr_Md_Md cI b M) hl.1 rfl 0 (pMd_0 _ _ _) rfl rfl (Nat.le_of_ble_eq_true rfl) dX9_move_34 (fun H locs hP hS => ?_)
        refine lv_iload_n hx hb dX9_move_37 rfl (lv_at hl 2 rfl) ?_
        refine lv_iload_n hx hb dX9_move_38 rfl (lv_at hl 1 rfl) ?_
        obtain ⟨r8, hr8, hF⟩ := bd_use hF
        refine cl_VI ⟨hx, hb, hml, hown, htb⟩ (kX9_isPossible l D cS g cI b M r7 x2 x1 _ hr8) (cwV 3 htb (gX9_isPossible bw4_114) rfl rfl rfl hdX9_isPossible ⟨Nat.le_of_ble_eq_true rfl, Nat.le_of_ble_eq_true rfl⟩) hK (hDa _) hG hA hP hS (sr_Md_Md cI b M) hl.1 rfl 0 (pMd_0 _ _ _) rfl rfl (Nat.le_of_ble_eq_true rfl) dX9_move_39 (fun H locs hP hS => ?_)
        refine lv_if_ne (tgt := 48) hx hb dX9_move_42 (by decide) (fun c9 => ?_) (fun c9 => ?_)
        · have hF := it_f hF c9
          refine lv_aload_n hx hb dX9_move_48 rfl (lv_at hl 0 rfl) ?_
          obtain ⟨M10, hM10, hF⟩ := bd_use hF
          refine cl_VV ⟨hx, hb, hml, hown, htb⟩ (kX9_hold l D cS g cI b M  _ hM10) (cwV 0 htb (gX9_hold bw4_60) rfl rfl rfl hdX9_hold ⟨Nat.le_of_ble_eq_true rfl, Nat.le_of_ble_eq_true rfl⟩) hK (hDa _) hG hA hP hS (sg_Md_Md cI b M M10) hl.1 rfl 0 (pMd_0 _ _ _) rfl rfl (Nat.le_of_ble_eq_true rfl) dX9_move_49 (fun H locs hP hS => ?_)
          refine lv_aload_n hx hb dX9_move_52 rfl (lv_at hl 0 rfl) ?_
          refine lv_iload_n hx hb dX9_move_53 rfl (lv_at hl 1 rfl) ?_
          refine lv_iconst (v := 1) hx hb dX9_move_54 (by decide) ?_
          obtain ⟨r11, hr11, hF⟩ := bd_use hF
          refine cl_VI ⟨hx, hb, hml, hown, htb⟩ (kX9_its l D cS g cI b M10 x1 1 _ hr11) (cwV 2 htb (gX9_its bw4_118) rfl rfl rfl hdX9_its ⟨Nat.le_of_ble_eq_true rfl, Nat.le_of_ble_eq_true rfl⟩) hK (hDa _) hG hA hP hS (sr_Md_Md cI b M10) hl.1 rfl 0 (pMd_0 _ _ _) rfl rfl (Nat.le_of_ble_eq_true rfl) dX9_move_55 (fun H locs hP hS => ?_)
          refine lv_istore_n (lv' := [(3, .int r11), (0, .ref (b 0)), (1, .int x1), (2, .int x2)]) hx hb dX9_move_58 rfl hl (by decide) rfl (fun ls hl => ?_)
          refine lv_aload_n hx hb dX9_move_59 rfl (lv_at hl 1 rfl) ?_
          refine lv_iload_n hx hb dX9_move_60 rfl (lv_at hl 2 rfl) ?_
          refine lv_iconst (v := 1) hx hb dX9_move_61 (by decide) ?_
          refine lv_iload_n hx hb dX9_move_62 rfl (lv_at hl 3 rfl) ?_
          obtain ⟨M12, hM12, hF⟩ := bd_use hF
          refine cl_VV ⟨hx, hb, hml, hown, htb⟩ (kX9_lays l D cS g cI b M10 x1 1 x2 _ hM12) (cwV 3 htb (gX9_lays bw4_125) rfl rfl rfl hdX9_lays ⟨Nat.le_of_ble_eq_true rfl, Nat.le_of_ble_eq_true rfl⟩) hK (hDa _) hG hA hP hS (sg_Md_Md cI b M10 M12) hl.1 rfl 0 (pMd_0 _ _ _) rfl rfl (Nat.le_of_ble_eq_true rfl) dX9_move_63 (fun H locs hP hS => ?_)
          refine lv_aload_n hx hb dX9_move_66 rfl (lv_at hl 1 rfl) ?_
          refine lv_iload_n hx hb dX9_move_67 rfl (lv_at hl 0 rfl) ?_
          obtain ⟨r14, M13, hM13, hF⟩ := b2_use hF
          refine cl_VI ⟨hx, hb, hml, hown, htb⟩ (kX9_ends l D cS g cI b M12 r11 _ _ hM13) (cwV 1 htb (gX9_ends bw4_71) rfl rfl rfl hdX9_ends ⟨Nat.le_of_ble_eq_true rfl, Nat.le_of_ble_eq_true rfl⟩) hK (hDa _) hG hA hP hS (sg_Md_Md cI b M12 M13) hl.1 rfl 0 (pMd_0 _ _ _) rfl rfl (Nat.le_of_ble_eq_true rfl) dX9_move_68 (fun H locs hP hS => ?_)
          obtain ⟨er, eM⟩ := pr_use hF
          exact rt_I hx hb hr hlocks hS (by rw [← eM]; exact hP) er dX9_move_71
        · have hF := it_t hF c9
          refine lv_bipush (v := (-2)) hx hb dX9_move_45 (by decide) ?_
          obtain ⟨er, eM⟩ := pr_use hF
          exact rt_I hx hb hr hlocks hS (by rw [← eM]; exact hP) er dX9_move_47
    · have hF := it_t hF c4
      refine lv_iconst (v := (-1)) hx hb dX9_move_19 (by decide) ?_
      obtain ⟨er, eM⟩ := pr_use hF
      exact rt_I hx hb hr hlocks hS (by rw [← eM]; exact hP) er dX9_move_20
noncomputable def fX9_byVouchers_l4  (M : Md) (x1 : Int32) : Nat → Int32 → Int32 → Option (Int32) := fun fu => Nat.rec (motive := fun _ => Int32 → Int32 → Option (Int32)) (fun _ _ => none) (fun _ ih => fun x2 x3 => Rd (M.1) 1553 (197 + x1) fun v1 => if v1 ≤ x3 then (some x2) else (Rd (M.1) 1553 ((213 + (16 * x1)) + x3) fun v3 => Rd (M.1) 1553 (485 + v3) fun v4 => nm (x2 + v4) fun v5 => nm (x3 + 1) fun v6 => ih v5 v6)) fu
theorem fX9_byVouchers_l4_s  (M : Md) (x1 : Int32) (fu : Nat) (x2 : Int32) (x3 : Int32) : fX9_byVouchers_l4 M x1 (fu + 1) x2 x3 = (Rd (M.1) 1553 (197 + x1) fun v1 => if v1 ≤ x3 then (some x2) else (Rd (M.1) 1553 ((213 + (16 * x1)) + x3) fun v3 => Rd (M.1) 1553 (485 + v3) fun v4 => nm (x2 + v4) fun v5 => nm (x3 + 1) fun v6 => (fX9_byVouchers_l4 M x1 fu) v5 v6)) := rfl
theorem fX9_byVouchers_l4_z  (M : Md) (x1 : Int32) (x2 : Int32) (x3 : Int32) : fX9_byVouchers_l4 M x1 0 x2 x3 = none := rfl
noncomputable def fX9_byVouchers  (M : Md) (x1 : Int32) : Option (Int32) := fX9_byVouchers_l4 M x1 FU 0 0
abbrev vX9_byVouchers : List Cond := Cond.code yX9_byVouchers cX9_byVouchers 4 (some .int) :: BIG
theorem gX9_byVouchers {own : String} {idx : Nat} (h : (Cond.methodLink own idx yX9_byVouchers) ∈ BIG) : GoodIn BIG (wsV own idx RX9 yX9_byVouchers vX9_byVouchers) := gdV h bw4_147 bs34 bw1_11 bw4_148
def rmX9_byVouchers : Room := { frames := 0, cells := 0, slots := 0, locals := 0 }
theorem hdX9_byVouchers : yX9_byVouchers.cls = RX9 ∧ yX9_byVouchers.cls ≠ "java/lang/invoke/MethodHandle" ∧ yX9_byVouchers.cls ≠ "java/lang/invoke/VarHandle" ∧ (parseMethodDescriptor yX9_byVouchers.desc).map (fun d => d.parameters.length) = some 1 := by decide +kernel
set_option maxHeartbeats 4000000 in
set_option maxRecDepth 100000 in
theorem kX9_byVouchers (l : Launch) (D : va_G) (cS : ClassId) (g : Nat → Nat) (cI : ClassId) (b : Nat → Nat) (M : Md) (x1 : Int32) (r : Int32) (hF : fX9_byVouchers M x1 = some r) : mI l yX9_byVouchers vX9_byVouchers rmX9_byVouchers D cI cS g [.ref (b 0), .int x1] (wMd cI b M) r (wMd cI b M) := by
  refine st_I rfl (by decide) (Nat.le_of_ble_eq_true rfl) ?_
  intro p e s m args below meth c A ls hx hb hr hml hlocks hown hts hA hK hD0 hG hP hS hl
  have hown : s.vm.findClass RX9 = some m.cls := hown
  have hDa : ∀ M, va_D A (wMd cI b M) := fun M => hD0.adr rfl
  have htb : ∀ w ∈ BIG, w.before args s = true := fun w h => hts w (List.mem_cons_of_mem _ h)
  have hl : lv_has ls 4 [(0, .ref (b 0)), (1, .int x1)] := hl
  have l4 : ∀ (x1 : Int32) (fu : Nat) (x2 : Int32) (x3 : Int32) (H : Heap) (locs : List Loc) (ls : Array Slot), fX9_byVouchers_l4 M x1 fu x2 x3 = some r → va_P D vwCl (wMd cI b M) H → va_S A s.heap H locs → lv_has ls 4 [(0, .ref (b 0)), (1, .int x1), (2, .int x2), (3, .int x3)] → W p l e rmX9_byVouchers s m args below meth c H locs 0 0 (MQ below (qI D r (wMd cI b M) A) args s 0 0 A) (F0 m 4 ls []) := by
    intro x1  fu
    induction fu with
    | zero => intro x2 x3 H locs ls hF; exact nn_use hF
    | succ fu ihn =>
      intro x2 x3 H locs ls hF hP hS hl 
      rw [fX9_byVouchers_l4_s] at hF
      refine lv_iload_n hx hb dX9_byVouchers_4 rfl (lv_at hl 3 rfl) ?_
      refine lv_aload_n hx hb dX9_byVouchers_5 rfl (lv_at hl 0 rfl) ?_
      refine va_get (ci := 9) (v := .ref (b 1)) (C := RX9) (T := TX9) (N := 10) hx hb htb kin9 hown hK hP 0 (pMd_0 cI b M) rfl 0 (by decide) (htb _ bw4_25) (fun _ h9 => h9) rfl dX9_byVouchers_6 ?_
      refine lv_sipush (v := 197) hx hb dX9_byVouchers_9 (by decide) ?_
      refine lv_iload_n hx hb dX9_byVouchers_12 rfl (lv_at hl 1 rfl) ?_
      refine lv_iadd hx hb dX9_byVouchers_13 ?_
      obtain ⟨hi, hF⟩ := rd_use hF
      refine va_iald hx hb hK hP 1 0 (pMd_1 cI b M) rfl hi dX9_byVouchers_14 ?_
      refine lv_topi (fun v1 ev1 => ?_)
      have hF := hF v1 ev1
      refine lv_icmp_ge (tgt := 51) hx hb dX9_byVouchers_15 (by decide) (fun c2 => ?_) (fun c2 => ?_)
      · have hF := it_t hF c2
        refine lv_iload_n hx hb dX9_byVouchers_51 rfl (lv_at hl 2 rfl) ?_
        exact rt_I hx hb hr hlocks hS hP (so_use hF) dX9_byVouchers_52
      · have hF := it_f hF c2
        refine lv_iload_n hx hb dX9_byVouchers_18 rfl (lv_at hl 2 rfl) ?_
        refine lv_aload_n hx hb dX9_byVouchers_19 rfl (lv_at hl 0 rfl) ?_
        refine va_get (ci := 9) (v := .ref (b 1)) (C := RX9) (T := TX9) (N := 10) hx hb htb kin9 hown hK hP 0 (pMd_0 cI b M) rfl 0 (by decide) (htb _ bw4_25) (fun _ h9 => h9) rfl dX9_byVouchers_20 ?_
        refine lv_sipush (v := 485) hx hb dX9_byVouchers_23 (by decide) ?_
        refine lv_aload_n hx hb dX9_byVouchers_26 rfl (lv_at hl 0 rfl) ?_
        refine va_get (ci := 9) (v := .ref (b 1)) (C := RX9) (T := TX9) (N := 10) hx hb htb kin9 hown hK hP 0 (pMd_0 cI b M) rfl 0 (by decide) (htb _ bw4_25) (fun _ h9 => h9) rfl dX9_byVouchers_27 ?_
        refine lv_sipush (v := 213) hx hb dX9_byVouchers_30 (by decide) ?_
        refine lv_bipush (v := 16) hx hb dX9_byVouchers_33 (by decide) ?_
        refine lv_iload_n hx hb dX9_byVouchers_35 rfl (lv_at hl 1 rfl) ?_
        refine lv_imul hx hb dX9_byVouchers_36 ?_
        refine lv_iadd hx hb dX9_byVouchers_37 ?_
        refine lv_iload_n hx hb dX9_byVouchers_38 rfl (lv_at hl 3 rfl) ?_
        refine lv_iadd hx hb dX9_byVouchers_39 ?_
        obtain ⟨hi, hF⟩ := rd_use hF
        refine va_iald hx hb hK hP 1 0 (pMd_1 cI b M) rfl hi dX9_byVouchers_40 ?_
        refine lv_topi (fun v3 ev3 => ?_)
        have hF := hF v3 ev3
        refine lv_iadd hx hb dX9_byVouchers_41 ?_
        obtain ⟨hi, hF⟩ := rd_use hF
        refine va_iald hx hb hK hP 1 0 (pMd_1 cI b M) rfl hi dX9_byVouchers_42 ?_
        refine lv_topi (fun v4 ev4 => ?_)
        have hF := hF v4 ev4
        refine lv_iadd hx hb dX9_byVouchers_43 ?_
        refine lv_topi (fun v5 ev5 => ?_)
        have hF := nm_use hF ev5
        refine lv_istore_n (lv' := [(2, .int v5), (0, .ref (b 0)), (1, .int x1), (3, .int x3)]) hx hb dX9_byVouchers_44 rfl hl (by decide) rfl (fun ls hl => ?_)
        obtain ⟨v6, ev6⟩ : ∃ z : Int32, z = x3 + 1 := ⟨_, rfl⟩
        refine lv_iinc (v := v6) (lv' := [(3, .int v6), (2, .int v5), (0, .ref (b 0)), (1, .int x1)]) hx hb dX9_byVouchers_45 hl (k := 3) rfl (by rw [ev6]; rfl) (by decide) rfl (fun ls hl => ?_)
        have hF := nm_use hF ev6
        refine lv_goto (tgt := 4) hx hb dX9_byVouchers_48 (by decide) ?_
        exact ihn v5 v6 _ _ _ hF hP hS (lv_sub hl [2, 3, 1, 0] rfl)
  refine lv_iconst (v := 0) hx hb dX9_byVouchers_0 (by decide) ?_
  refine lv_istore_n (lv' := [(2, .int 0), (0, .ref (b 0)), (1, .int x1)]) hx hb dX9_byVouchers_1 rfl hl (by decide) rfl (fun ls hl => ?_)
  refine lv_iconst (v := 0) hx hb dX9_byVouchers_2 (by decide) ?_
  refine lv_istore_n (lv' := [(3, .int 0), (2, .int 0), (0, .ref (b 0)), (1, .int x1)]) hx hb dX9_byVouchers_3 rfl hl (by decide) rfl (fun ls hl => ?_)
  refine l4 x1  _ 0 0 _ _ _ hF hP hS (lv_sub hl [2, 3, 1, 0] rfl)
noncomputable def fX9_refunds_l56  (x1 : Int32) : Nat → Md → Int32 → Int32 → Option (Md) := fun fu => Nat.rec (motive := fun _ => Md → Int32 → Int32 → Option (Md)) (fun _ _ _ => none) (fun _ ih => fun M x4 x5 => if x5 < 0 then (some M) else (Rd (M.1) 1553 ((213 + (16 * x1)) + x5) fun v12 => Rd (M.1) 1553 (485 + v12) fun v13 => (fX9_lesser x4 v13).bind fun r14 => nm (485 + v12) fun v15 => Rd (M.1) 1553 v15 fun v16 => Wr (M.1) 1553 v15 (v16 - r14) fun f17 => nm ((f17, M.2)) fun M18 => Rd (M18.1) 1553 (469 + v12) fun v19 => nm ((501 + (2 * v19)) + 1) fun v20 => Rd (M18.1) 1553 v20 fun v21 => Wr (M18.1) 1553 v20 (v21 + r14) fun f22 => nm ((f22, M18.2)) fun M23 => nm (x4 - r14) fun v24 => nm (x5 + (-1)) fun v25 => ih M23 v24 v25)) fu
theorem fX9_refunds_l56_s  (x1 : Int32) (fu : Nat) (M : Md) (x4 : Int32) (x5 : Int32) : fX9_refunds_l56 x1 (fu + 1) M x4 x5 = (if x5 < 0 then (some M) else (Rd (M.1) 1553 ((213 + (16 * x1)) + x5) fun v12 => Rd (M.1) 1553 (485 + v12) fun v13 => (fX9_lesser x4 v13).bind fun r14 => nm (485 + v12) fun v15 => Rd (M.1) 1553 v15 fun v16 => Wr (M.1) 1553 v15 (v16 - r14) fun f17 => nm ((f17, M.2)) fun M18 => Rd (M18.1) 1553 (469 + v12) fun v19 => nm ((501 + (2 * v19)) + 1) fun v20 => Rd (M18.1) 1553 v20 fun v21 => Wr (M18.1) 1553 v20 (v21 + r14) fun f22 => nm ((f22, M18.2)) fun M23 => nm (x4 - r14) fun v24 => nm (x5 + (-1)) fun v25 => (fX9_refunds_l56 x1 fu) M23 v24 v25)) := rfl
theorem fX9_refunds_l56_z  (x1 : Int32) (M : Md) (x4 : Int32) (x5 : Int32) : fX9_refunds_l56 x1 0 M x4 x5 = none := rfl
noncomputable def fX9_refunds  (M : Md) (x1 : Int32) (x2 : Int32) : Option (Md) := (fX9_its M x1 5).bind fun r1 => (fX9_lesser x2 r1).bind fun r2 => nm (x2 - r2) fun v3 => (fX9_adds M x1 5 (-r2)).bind fun M4 => (fX9_adds M4 x1 6 x2).bind fun M5 => Rd (M5.1) 1553 3 fun v6 => Wr (M5.1) 1553 3 (v6 - r2) fun f7 => nm ((f7, M5.2)) fun M8 => Rd (M8.1) 1553 (197 + x1) fun v9 => nm (v9 - 1) fun v10 => fX9_refunds_l56 x1 FU M8 v3 v10
abbrev vX9_refunds : List Cond := Cond.code yX9_refunds cX9_refunds 8 none :: BIG
theorem gX9_refunds {own : String} {idx : Nat} (h : (Cond.methodLink own idx yX9_refunds) ∈ BIG) : GoodIn BIG (wsV own idx RX9 yX9_refunds vX9_refunds) := gdV h bw4_162 bs37 bw1_11 bw4_163
def rmX9_refunds : Room := { frames := 1, cells := 0, slots := 0, locals := 23 }
theorem hdX9_refunds : yX9_refunds.cls = RX9 ∧ yX9_refunds.cls ≠ "java/lang/invoke/MethodHandle" ∧ yX9_refunds.cls ≠ "java/lang/invoke/VarHandle" ∧ (parseMethodDescriptor yX9_refunds.desc).map (fun d => d.parameters.length) = some 2 := by decide +kernel
set_option maxHeartbeats 4000000 in
set_option maxRecDepth 100000 in
theorem kX9_refunds (l : Launch) (D : va_G) (cS : ClassId) (g : Nat → Nat) (cI : ClassId) (b : Nat → Nat) (M : Md) (x1 : Int32) (x2 : Int32) (M' : Md) (hF : fX9_refunds M x1 x2 = some M') : mV l yX9_refunds vX9_refunds rmX9_refunds D cI cS g [.ref (b 0), .int x1, .int x2] (wMd cI b M) (wMd cI b (M')) := by
  refine st_V rfl (by decide) (Nat.le_of_ble_eq_true rfl) ?_
  intro p e s m args below meth c A ls hx hb hr hml hlocks hown hts hA hK hD0 hG hP hS hl
  have hown : s.vm.findClass RX9 = some m.cls := hown
  have hDa : ∀ M, va_D A (wMd cI b M) := fun M => hD0.adr rfl
  have htb : ∀ w ∈ BIG, w.before args s = true := fun w h => hts w (List.mem_cons_of_mem _ h)
  have hl : lv_has ls 8 [(0, .ref (b 0)), (1, .int x1), (2, .int x2)] := hl
  have l56 : ∀ (x1 : Int32) (fu : Nat) (M : Md) (x4 : Int32) (x5 : Int32) (H : Heap) (locs : List Loc) (ls : Array Slot), fX9_refunds_l56 x1 fu M x4 x5 = some M' → va_P D vwCl (wMd cI b M) H → va_S A s.heap H locs → lv_has ls 8 [(0, .ref (b 0)), (1, .int x1), (4, .int x4), (5, .int x5)] → W p l e rmX9_refunds s m args below meth c H locs 0 0 (MQ below (qV D (wMd cI b (M')) A) args s 0 0 A) (F0 m 56 ls []) := by
    intro x1  fu
    induction fu with
    | zero => intro M x4 x5 H locs ls hF; exact nn_use hF
    | succ fu ihn =>
      intro M x4 x5 H locs ls hF hP hS hl 
      rw [fX9_refunds_l56_s] at hF
      refine lv_iload hx hb dX9_refunds_56 (lv_at hl 3 rfl) ?_
      refine lv_if_lt (tgt := 155) hx hb dX9_refunds_58 (by decide) (fun c11 => ?_) (fun c11 => ?_)
      · have hF := it_t hF c11
        exact rt_V hx hb hr hlocks hS (by rw [← so_use hF]; exact hP) dX9_refunds_155
      · have hF := it_f hF c11
        refine lv_aload_n hx hb dX9_refunds_61 rfl (lv_at hl 0 rfl) ?_
        refine va_get (ci := 9) (v := .ref (b 1)) (C := RX9) (T := TX9) (N := 10) hx hb htb kin9 hown hK hP 0 (pMd_0 cI b M) rfl 0 (by decide) (htb _ bw4_25) (fun _ h9 => h9) rfl dX9_refunds_62 ?_
        refine lv_sipush (v := 213) hx hb dX9_refunds_65 (by decide) ?_
        refine lv_bipush (v := 16) hx hb dX9_refunds_68 (by decide) ?_
        refine lv_iload_n hx hb dX9_refunds_70 rfl (lv_at hl 1 rfl) ?_
        refine lv_imul hx hb dX9_refunds_71 ?_
        refine lv_iadd hx hb dX9_refunds_72 ?_
        refine lv_iload hx hb dX9_refunds_73 (lv_at hl 3 rfl) ?_
        refine lv_iadd hx hb dX9_refunds_75 ?_
        obtain ⟨hi, hF⟩ := rd_use hF
        refine va_iald hx hb hK hP 1 0 (pMd_1 cI b M) rfl hi dX9_refunds_76 ?_
        refine lv_topi (fun v12 ev12 => ?_)
        have hF := hF v12 ev12
        refine lv_istore (lv' := [(6, .int v12), (0, .ref (b 0)), (1, .int x1), (4, .int x4), (5, .int x5)]) hx hb dX9_refunds_77 hl (by decide) rfl (fun ls hl => ?_)
        refine lv_iload hx hb dX9_refunds_79 (lv_at hl 3 rfl) ?_
        refine lv_aload_n hx hb dX9_refunds_81 rfl (lv_at hl 1 rfl) ?_
        refine va_get (ci := 9) (v := .ref (b 1)) (C := RX9) (T := TX9) (N := 10) hx hb htb kin9 hown hK hP 0 (pMd_0 cI b M) rfl 0 (by decide) (htb _ bw4_25) (fun _ h9 => h9) rfl dX9_refunds_82 ?_
        refine lv_sipush (v := 485) hx hb dX9_refunds_85 (by decide) ?_
        refine lv_iload hx hb dX9_refunds_88 (lv_at hl 0 rfl) ?_
        refine lv_iadd hx hb dX9_refunds_90 ?_
        obtain ⟨hi, hF⟩ := rd_use hF
        refine va_iald hx hb hK hP 1 0 (pMd_1 cI b M) rfl hi dX9_refunds_91 ?_
        refine lv_topi (fun v13 ev13 => ?_)
        have hF := hF v13 ev13
        obtain ⟨r14, hr14, hF⟩ := bd_use hF
        refine cl_SI ⟨hx, hb, hml, hown, htb⟩ (kX9_lesser l D cS g cI x4 v13 _ hr14) (va_cwS 2 htb (gX9_lesser bw4_122) rfl rfl rfl hdX9_lesser ⟨Nat.le_of_ble_eq_true rfl, Nat.le_of_ble_eq_true rfl⟩) hK (hDa _) hG hA hP hS sg_nil hl.1 rfl rfl (Nat.le_of_ble_eq_true rfl) dX9_refunds_92 (fun H locs hP hS => ?_)
        refine lv_istore (lv' := [(7, .int r14), (6, .int v12), (0, .ref (b 0)), (1, .int x1), (4, .int x4), (5, .int x5)]) hx hb dX9_refunds_95 hl (by decide) rfl (fun ls hl => ?_)
        refine lv_aload_n hx hb dX9_refunds_97 rfl (lv_at hl 2 rfl) ?_
        refine va_get (ci := 9) (v := .ref (b 1)) (C := RX9) (T := TX9) (N := 10) hx hb htb kin9 hown hK hP 0 (pMd_0 cI b M) rfl 0 (by decide) (htb _ bw4_25) (fun _ h9 => h9) rfl dX9_refunds_98 ?_
        refine lv_sipush (v := 485) hx hb dX9_refunds_101 (by decide) ?_
        refine lv_iload hx hb dX9_refunds_104 (lv_at hl 1 rfl) ?_
        refine lv_iadd hx hb dX9_refunds_106 ?_
        refine lv_topi (fun v15 ev15 => ?_)
        have hF := nm_use hF ev15
        refine lv_dup2_11 hx hb dX9_refunds_107 rfl rfl ?_
        obtain ⟨hi, hF⟩ := rd_use hF
        refine va_iald hx hb hK hP 1 0 (pMd_1 cI b M) rfl hi dX9_refunds_108 ?_
        refine lv_topi (fun v16 ev16 => ?_)
        have hF := hF v16 ev16
        refine lv_iload hx hb dX9_refunds_109 (lv_at hl 0 rfl) ?_
        refine lv_isub hx hb dX9_refunds_111 ?_
        obtain ⟨hi, hF⟩ := wr_use hF
        refine va_iast hx hb hK hP (hDa _) hS 1 0 (pMd_1 cI b M) rfl hi dX9_refunds_112 (fun H locs hP _ hS => ?_)
        obtain ⟨M18, eM18⟩ : ∃ z : Md, z = ((upd (M.1) (v15 : Int32).toNatClampNeg (v16 - r14)), M.2) := ⟨_, rfl⟩
        have hF := nm_use hF eM18
        have hP : va_P D vwCl (wMd cI b M18) H := by rw [eM18]; exact hP
        refine lv_aload_n hx hb dX9_refunds_113 rfl (lv_at hl 2 rfl) ?_
        refine va_get (ci := 9) (v := .ref (b 1)) (C := RX9) (T := TX9) (N := 10) hx hb htb kin9 hown hK hP 0 (pMd_0 cI b M18) rfl 0 (by decide) (htb _ bw4_25) (fun _ h9 => h9) rfl dX9_refunds_114 ?_
        refine lv_sipush (v := 501) hx hb dX9_refunds_117 (by decide) ?_
        refine lv_iconst (v := 2) hx hb dX9_refunds_120 (by decide) ?_
        refine lv_aload_n hx hb dX9_refunds_121 rfl (lv_at hl 2 rfl) ?_
        refine va_get (ci := 9) (v := .ref (b 1)) (C := RX9) (T := TX9) (N := 10) hx hb htb kin9 hown hK hP 0 (pMd_0 cI b M18) rfl 0 (by decide) (htb _ bw4_25) (fun _ h9 => h9) rfl dX9_refunds_122 ?_
        refine lv_sipush (v := 469) hx hb dX9_refunds_125 (by decide) ?_
        refine lv_iload hx hb dX9_refunds_128 (lv_at hl 1 rfl) ?_
        refine lv_iadd hx hb dX9_refunds_130 ?_
        obtain ⟨hi, hF⟩ := rd_use hF
        refine va_iald hx hb hK hP 1 0 (pMd_1 cI b M18) rfl hi dX9_refunds_131 ?_
        refine lv_topi (fun v19 ev19 => ?_)
        have hF := hF v19 ev19
        refine lv_imul hx hb dX9_refunds_132 ?_
        refine lv_iadd hx hb dX9_refunds_133 ?_
        refine lv_iconst (v := 1) hx hb dX9_refunds_134 (by decide) ?_
        refine lv_iadd hx hb dX9_refunds_135 ?_
        refine lv_topi (fun v20 ev20 => ?_)
        have hF := nm_use hF ev20
        refine lv_dup2_11 hx hb dX9_refunds_136 rfl rfl ?_
        obtain ⟨hi, hF⟩ := rd_use hF
        refine va_iald hx hb hK hP 1 0 (pMd_1 cI b M18) rfl hi dX9_refunds_137 ?_
        refine lv_topi (fun v21 ev21 => ?_)
        have hF := hF v21 ev21
        refine lv_iload hx hb dX9_refunds_138 (lv_at hl 0 rfl) ?_
        refine lv_iadd hx hb dX9_refunds_140 ?_
        obtain ⟨hi, hF⟩ := wr_use hF
        refine va_iast hx hb hK hP (hDa _) hS 1 0 (pMd_1 cI b M18) rfl hi dX9_refunds_141 (fun H locs hP _ hS => ?_)
        obtain ⟨M23, eM23⟩ : ∃ z : Md, z = ((upd (M18.1) (v20 : Int32).toNatClampNeg (v21 + r14)), M18.2) := ⟨_, rfl⟩
        have hF := nm_use hF eM23
        have hP : va_P D vwCl (wMd cI b M23) H := by rw [eM23]; exact hP
        refine lv_iload hx hb dX9_refunds_142 (lv_at hl 4 rfl) ?_
        refine lv_iload hx hb dX9_refunds_144 (lv_at hl 0 rfl) ?_
        refine lv_isub hx hb dX9_refunds_146 ?_
        refine lv_topi (fun v24 ev24 => ?_)
        have hF := nm_use hF ev24
        refine lv_istore (lv' := [(4, .int v24), (7, .int r14), (6, .int v12), (0, .ref (b 0)), (1, .int x1), (5, .int x5)]) hx hb dX9_refunds_147 hl (by decide) rfl (fun ls hl => ?_)
        obtain ⟨v25, ev25⟩ : ∃ z : Int32, z = x5 + (-1) := ⟨_, rfl⟩
        refine lv_iinc (v := v25) (lv' := [(5, .int v25), (4, .int v24), (7, .int r14), (6, .int v12), (0, .ref (b 0)), (1, .int x1)]) hx hb dX9_refunds_149 hl (k := 5) rfl (by rw [ev25]; rfl) (by decide) rfl (fun ls hl => ?_)
        have hF := nm_use hF ev25
        refine lv_goto (tgt := 56) hx hb dX9_refunds_152 (by decide) ?_
        exact ihn M23 v24 v25 _ _ _ hF hP hS (lv_sub hl [4, 5, 1, 0] rfl)
  refine lv_iload_n hx hb dX9_refunds_0 rfl (lv_at hl 2 rfl) ?_
  refine lv_aload_n hx hb dX9_refunds_1 rfl (lv_at hl 0 rfl) ?_
  refine lv_iload_n hx hb dX9_refunds_2 rfl (lv_at hl 1 rfl) ?_
  refine lv_iconst (v := 5) hx hb dX9_refunds_3 (by decide) ?_
  obtain ⟨r1, hr1, hF⟩ := bd_use hF
  refine cl_VI ⟨hx, hb, hml, hown, htb⟩ (kX9_its l D cS g cI b M x1 5 _ hr1) (cwV 2 htb (gX9_its bw4_118) rfl rfl rfl hdX9_its ⟨Nat.le_of_ble_eq_true rfl, Nat.le_of_ble_eq_true rfl⟩) hK (hDa _) hG hA hP hS (sr_Md_Md cI b M) hl.1 rfl 0 (pMd_0 _ _ _) rfl rfl (Nat.le_of_ble_eq_true rfl) dX9_refunds_4 (fun H locs hP hS => ?_)
  obtain ⟨r2, hr2, hF⟩ := bd_use hF
  refine cl_SI ⟨hx, hb, hml, hown, htb⟩ (kX9_lesser l D cS g cI x2 r1 _ hr2) (va_cwS 2 htb (gX9_lesser bw4_122) rfl rfl rfl hdX9_lesser ⟨Nat.le_of_ble_eq_true rfl, Nat.le_of_ble_eq_true rfl⟩) hK (hDa _) hG hA hP hS sg_nil hl.1 rfl rfl (Nat.le_of_ble_eq_true rfl) dX9_refunds_7 (fun H locs hP hS => ?_)
  refine lv_istore_n (lv' := [(3, .int r2), (0, .ref (b 0)), (1, .int x1), (2, .int x2)]) hx hb dX9_refunds_10 rfl hl (by decide) rfl (fun ls hl => ?_)
  refine lv_iload_n hx hb dX9_refunds_11 rfl (lv_at hl 3 rfl) ?_
  refine lv_iload_n hx hb dX9_refunds_12 rfl (lv_at hl 0 rfl) ?_
  refine lv_isub hx hb dX9_refunds_13 ?_
  refine lv_topi (fun v3 ev3 => ?_)
  have hF := nm_use hF ev3
  refine lv_istore (lv' := [(4, .int v3), (3, .int r2), (0, .ref (b 0)), (1, .int x1), (2, .int x2)]) hx hb dX9_refunds_14 hl (by decide) rfl (fun ls hl => ?_)
  refine lv_aload_n hx hb dX9_refunds_16 rfl (lv_at hl 2 rfl) ?_
  refine lv_iload_n hx hb dX9_refunds_17 rfl (lv_at hl 3 rfl) ?_
  refine lv_iconst (v := 5) hx hb dX9_refunds_18 (by decide) ?_
  refine lv_iload_n hx hb dX9_refunds_19 rfl (lv_at hl 1 rfl) ?_
  refine lv_ineg hx hb dX9_refunds_20 ?_
  obtain ⟨M4, hM4, hF⟩ := bd_use hF
  refine cl_VV ⟨hx, hb, hml, hown, htb⟩ (kX9_adds l D cS g cI b M x1 5 (-r2) _ hM4) (cwV 3 htb (gX9_adds bw4_164) rfl rfl rfl hdX9_adds ⟨Nat.le_of_ble_eq_true rfl, Nat.le_of_ble_eq_true rfl⟩) hK (hDa _) hG hA hP hS (sg_Md_Md cI b M M4) hl.1 rfl 0 (pMd_0 _ _ _) rfl rfl (Nat.le_of_ble_eq_true rfl) dX9_refunds_21 (fun H locs hP hS => ?_)
  refine lv_aload_n hx hb dX9_refunds_24 rfl (lv_at hl 2 rfl) ?_
  refine lv_iload_n hx hb dX9_refunds_25 rfl (lv_at hl 3 rfl) ?_
  refine lv_bipush (v := 6) hx hb dX9_refunds_26 (by decide) ?_
  refine lv_iload_n hx hb dX9_refunds_28 rfl (lv_at hl 4 rfl) ?_
  obtain ⟨M5, hM5, hF⟩ := bd_use hF
  refine cl_VV ⟨hx, hb, hml, hown, htb⟩ (kX9_adds l D cS g cI b M4 x1 6 x2 _ hM5) (cwV 3 htb (gX9_adds bw4_164) rfl rfl rfl hdX9_adds ⟨Nat.le_of_ble_eq_true rfl, Nat.le_of_ble_eq_true rfl⟩) hK (hDa _) hG hA hP hS (sg_Md_Md cI b M4 M5) hl.1 rfl 0 (pMd_0 _ _ _) rfl rfl (Nat.le_of_ble_eq_true rfl) dX9_refunds_29 (fun H locs hP hS => ?_)
  refine lv_aload_n hx hb dX9_refunds_32 rfl (lv_at hl 2 rfl) ?_
  refine va_get (ci := 9) (v := .ref (b 1)) (C := RX9) (T := TX9) (N := 10) hx hb htb kin9 hown hK hP 0 (pMd_0 cI b M5) rfl 0 (by decide) (htb _ bw4_25) (fun _ h9 => h9) rfl dX9_refunds_33 ?_
  refine lv_iconst (v := 3) hx hb dX9_refunds_36 (by decide) ?_
  refine lv_dup2_11 hx hb dX9_refunds_37 rfl rfl ?_
  obtain ⟨hi, hF⟩ := rd_use hF
  refine va_iald hx hb hK hP 1 0 (pMd_1 cI b M5) rfl hi dX9_refunds_38 ?_
  refine lv_topi (fun v6 ev6 => ?_)
  have hF := hF v6 ev6
  refine lv_iload_n hx hb dX9_refunds_39 rfl (lv_at hl 1 rfl) ?_
  refine lv_isub hx hb dX9_refunds_40 ?_
  obtain ⟨hi, hF⟩ := wr_use hF
  refine va_iast hx hb hK hP (hDa _) hS 1 0 (pMd_1 cI b M5) rfl hi dX9_refunds_41 (fun H locs hP _ hS => ?_)
  obtain ⟨M8, eM8⟩ : ∃ z : Md, z = ((upd (M5.1) (3 : Int32).toNatClampNeg (v6 - r2)), M5.2) := ⟨_, rfl⟩
  have hF := nm_use hF eM8
  have hP : va_P D vwCl (wMd cI b M8) H := by rw [eM8]; exact hP
  refine lv_aload_n hx hb dX9_refunds_42 rfl (lv_at hl 2 rfl) ?_
  refine va_get (ci := 9) (v := .ref (b 1)) (C := RX9) (T := TX9) (N := 10) hx hb htb kin9 hown hK hP 0 (pMd_0 cI b M8) rfl 0 (by decide) (htb _ bw4_25) (fun _ h9 => h9) rfl dX9_refunds_43 ?_
  refine lv_sipush (v := 197) hx hb dX9_refunds_46 (by decide) ?_
  refine lv_iload_n hx hb dX9_refunds_49 rfl (lv_at hl 3 rfl) ?_
  refine lv_iadd hx hb dX9_refunds_50 ?_
  obtain ⟨hi, hF⟩ := rd_use hF
  refine va_iald hx hb hK hP 1 0 (pMd_1 cI b M8) rfl hi dX9_refunds_51 ?_
  refine lv_topi (fun v9 ev9 => ?_)
  have hF := hF v9 ev9
  refine lv_iconst (v := 1) hx hb dX9_refunds_52 (by decide) ?_
  refine lv_isub hx hb dX9_refunds_53 ?_
  refine lv_topi (fun v10 ev10 => ?_)
  have hF := nm_use hF ev10
  refine lv_istore (lv' := [(5, .int v10), (4, .int v3), (3, .int r2), (0, .ref (b 0)), (1, .int x1), (2, .int x2)]) hx hb dX9_refunds_54 hl (by decide) rfl (fun ls hl => ?_)
  refine l56 x1  _ M8 v3 v10 _ _ _ hF hP hS (lv_sub hl [3, 4, 1, 0] rfl)
noncomputable def fX9_nextOf_j89  (x1 : Int32) (x2 : Int32) (ih : Int32 → Int32 → Option (Int32)) (M : Md) (x4 : Int32) (s0 : Int32) : Option (Int32) := nm (x4 + 1) fun v6 => ih s0 v6
noncomputable def fX9_nextOf_j88  (x1 : Int32) (x2 : Int32) (ih : Int32 → Int32 → Option (Int32)) (M : Md) (x3 : Int32) (x4 : Int32) : Option (Int32) := fX9_nextOf_j89 x1 x2 ih M x4 x3
noncomputable def fX9_nextOf_j83  (x1 : Int32) (x2 : Int32) (ih : Int32 → Int32 → Option (Int32)) (M : Md) (x4 : Int32) : Option (Int32) := fX9_nextOf_j89 x1 x2 ih M x4 x4
noncomputable def fX9_nextOf_j54  (x1 : Int32) (x2 : Int32) (ih : Int32 → Int32 → Option (Int32)) (M : Md) (x3 : Int32) (x4 : Int32) (s0 : Int32) : Option (Int32) := if s0 = 0 then (fX9_nextOf_j88 x1 x2 ih M x3 x4) else (if x3 = (-9) then (fX9_nextOf_j83 x1 x2 ih M x4) else ((fX9_its M x4 1).bind fun r8 => (fX9_its M x3 1).bind fun r9 => if r9 ≤ r8 then (fX9_nextOf_j88 x1 x2 ih M x3 x4) else (fX9_nextOf_j83 x1 x2 ih M x4)))
noncomputable def fX9_nextOf_j53  (x1 : Int32) (x2 : Int32) (ih : Int32 → Int32 → Option (Int32)) (M : Md) (x3 : Int32) (x4 : Int32) : Option (Int32) := fX9_nextOf_j54 x1 x2 ih M x3 x4 0
noncomputable def fX9_nextOf_l6  (M : Md) (x1 : Int32) (x2 : Int32) : Nat → Int32 → Int32 → Option (Int32) := fun fu => Nat.rec (motive := fun _ => Int32 → Int32 → Option (Int32)) (fun _ _ => none) (fun _ ih => fun x3 x4 => Rd (M.1) 1553 1 fun v1 => if v1 ≤ x4 then (some x3) else ((fX9_its M x4 0).bind fun r3 => if r3 = x1 then ((fX9_its M x4 3).bind fun r11 => if r11 = 0 then ((fX9_its M x4 1).bind fun r13 => if r13 ≤ x2 then (fX9_nextOf_j53 x1 x2 ih M x3 x4) else (fX9_nextOf_j54 x1 x2 ih M x3 x4 1)) else (fX9_nextOf_j53 x1 x2 ih M x3 x4)) else (fX9_nextOf_j53 x1 x2 ih M x3 x4))) fu
theorem fX9_nextOf_l6_s  (M : Md) (x1 : Int32) (x2 : Int32) (fu : Nat) (x3 : Int32) (x4 : Int32) : fX9_nextOf_l6 M x1 x2 (fu + 1) x3 x4 = (Rd (M.1) 1553 1 fun v1 => if v1 ≤ x4 then (some x3) else ((fX9_its M x4 0).bind fun r3 => if r3 = x1 then ((fX9_its M x4 3).bind fun r11 => if r11 = 0 then ((fX9_its M x4 1).bind fun r13 => if r13 ≤ x2 then (fX9_nextOf_j53 x1 x2 (fX9_nextOf_l6 M x1 x2 fu) M x3 x4) else (fX9_nextOf_j54 x1 x2 (fX9_nextOf_l6 M x1 x2 fu) M x3 x4 1)) else (fX9_nextOf_j53 x1 x2 (fX9_nextOf_l6 M x1 x2 fu) M x3 x4)) else (fX9_nextOf_j53 x1 x2 (fX9_nextOf_l6 M x1 x2 fu) M x3 x4))) := rfl
theorem fX9_nextOf_l6_z  (M : Md) (x1 : Int32) (x2 : Int32) (x3 : Int32) (x4 : Int32) : fX9_nextOf_l6 M x1 x2 0 x3 x4 = none := rfl
noncomputable def fX9_nextOf  (M : Md) (x1 : Int32) (x2 : Int32) : Option (Int32) := fX9_nextOf_l6 M x1 x2 FU (-9) 0
abbrev vX9_nextOf : List Cond := Cond.code yX9_nextOf cX9_nextOf 6 (some .int) :: BIG
theorem gX9_nextOf {own : String} {idx : Nat} (h : (Cond.methodLink own idx yX9_nextOf) ∈ BIG) : GoodIn BIG (wsV own idx RX9 yX9_nextOf vX9_nextOf) := gdV h bw4_155 bs36 bw1_11 bw4_156
def rmX9_nextOf : Room := { frames := 1, cells := 0, slots := 0, locals := 22 }
theorem hdX9_nextOf : yX9_nextOf.cls = RX9 ∧ yX9_nextOf.cls ≠ "java/lang/invoke/MethodHandle" ∧ yX9_nextOf.cls ≠ "java/lang/invoke/VarHandle" ∧ (parseMethodDescriptor yX9_nextOf.desc).map (fun d => d.parameters.length) = some 2 := by decide +kernel
set_option maxHeartbeats 4000000 in
set_option maxRecDepth 100000 in
theorem kX9_nextOf (l : Launch) (D : va_G) (cS : ClassId) (g : Nat → Nat) (cI : ClassId) (b : Nat → Nat) (M : Md) (x1 : Int32) (x2 : Int32) (r : Int32) (hF : fX9_nextOf M x1 x2 = some r) : mI l yX9_nextOf vX9_nextOf rmX9_nextOf D cI cS g [.ref (b 0), .int x1, .int x2] (wMd cI b M) r (wMd cI b M) := by
  refine st_I rfl (by decide) (Nat.le_of_ble_eq_true rfl) ?_
  intro p e s m args below meth c A ls hx hb hr hml hlocks hown hts hA hK hD0 hG hP hS hl
  have hown : s.vm.findClass RX9 = some m.cls := hown
  have hDa : ∀ M, va_D A (wMd cI b M) := fun M => hD0.adr rfl
  have htb : ∀ w ∈ BIG, w.before args s = true := fun w h => hts w (List.mem_cons_of_mem _ h)
  have hl : lv_has ls 6 [(0, .ref (b 0)), (1, .int x1), (2, .int x2)] := hl
  have l6 : ∀ (x1 : Int32) (x2 : Int32) (fu : Nat) (x3 : Int32) (x4 : Int32) (H : Heap) (locs : List Loc) (ls : Array Slot), fX9_nextOf_l6 M x1 x2 fu x3 x4 = some r → va_P D vwCl (wMd cI b M) H → va_S A s.heap H locs → lv_has ls 6 [(0, .ref (b 0)), (1, .int x1), (2, .int x2), (3, .int x3), (4, .int x4)] → W p l e rmX9_nextOf s m args below meth c H locs 0 0 (MQ below (qI D r (wMd cI b M) A) args s 0 0 A) (F0 m 6 ls []) := by
    intro x1 x2  fu
    induction fu with
    | zero => intro x3 x4 H locs ls hF; exact nn_use hF
    | succ fu ihn =>
      intro x3 x4 H locs ls hF hP hS hl 
      rw [fX9_nextOf_l6_s] at hF
      have j89 : ∀ (x4 : Int32) (s0 : Int32) (H : Heap) (locs : List Loc) (ls : Array Slot), fX9_nextOf_j89 x1 x2  (fX9_nextOf_l6 M x1 x2 fu) M x4 s0 = some r → va_P D vwCl (wMd cI b M) H → va_S A s.heap H locs → lv_has ls 6 [(0, .ref (b 0)), (1, .int x1), (2, .int x2), (4, .int x4)] → W p l e rmX9_nextOf s m args below meth c H locs 0 0 (MQ below (qI D r (wMd cI b M) A) args s 0 0 A) (F0 m 89 ls [.int s0]) := by
        intro x4 s0 H locs ls hF hP hS hl
        refine lv_istore_n (lv' := [(3, .int s0), (0, .ref (b 0)), (1, .int x1), (2, .int x2), (4, .int x4)]) hx hb dX9_nextOf_89 rfl hl (by decide) rfl (fun ls hl => ?_)
        obtain ⟨v6, ev6⟩ : ∃ z : Int32, z = x4 + 1 := ⟨_, rfl⟩
        refine lv_iinc (v := v6) (lv' := [(4, .int v6), (3, .int s0), (0, .ref (b 0)), (1, .int x1), (2, .int x2)]) hx hb dX9_nextOf_90 hl (k := 4) rfl (by rw [ev6]; rfl) (by decide) rfl (fun ls hl => ?_)
        have hF := nm_use hF ev6
        refine lv_goto (tgt := 6) hx hb dX9_nextOf_93 (by decide) ?_
        exact ihn s0 v6 _ _ _ hF hP hS (lv_sub hl [2, 3, 4, 1, 0] rfl)
      have j88 : ∀ (x3 : Int32) (x4 : Int32) (H : Heap) (locs : List Loc) (ls : Array Slot), fX9_nextOf_j88 x1 x2  (fX9_nextOf_l6 M x1 x2 fu) M x3 x4 = some r → va_P D vwCl (wMd cI b M) H → va_S A s.heap H locs → lv_has ls 6 [(0, .ref (b 0)), (1, .int x1), (2, .int x2), (3, .int x3), (4, .int x4)] → W p l e rmX9_nextOf s m args below meth c H locs 0 0 (MQ below (qI D r (wMd cI b M) A) args s 0 0 A) (F0 m 88 ls []) := by
        intro x3 x4 H locs ls hF hP hS hl
        refine lv_iload_n hx hb dX9_nextOf_88 rfl (lv_at hl 3 rfl) ?_
        exact j89 x4 x3 _ _ _ hF hP hS (lv_sub hl [0, 1, 2, 4] rfl)
      have j83 : ∀ (x4 : Int32) (H : Heap) (locs : List Loc) (ls : Array Slot), fX9_nextOf_j83 x1 x2  (fX9_nextOf_l6 M x1 x2 fu) M x4 = some r → va_P D vwCl (wMd cI b M) H → va_S A s.heap H locs → lv_has ls 6 [(0, .ref (b 0)), (1, .int x1), (2, .int x2), (4, .int x4)] → W p l e rmX9_nextOf s m args below meth c H locs 0 0 (MQ below (qI D r (wMd cI b M) A) args s 0 0 A) (F0 m 83 ls []) := by
        intro x4 H locs ls hF hP hS hl
        refine lv_iload hx hb dX9_nextOf_83 (lv_at hl 3 rfl) ?_
        refine lv_goto (tgt := 89) hx hb dX9_nextOf_85 (by decide) ?_
        exact j89 x4 x4 _ _ _ hF hP hS (lv_sub hl [0, 1, 2, 3] rfl)
      have j54 : ∀ (x3 : Int32) (x4 : Int32) (s0 : Int32) (H : Heap) (locs : List Loc) (ls : Array Slot), fX9_nextOf_j54 x1 x2  (fX9_nextOf_l6 M x1 x2 fu) M x3 x4 s0 = some r → va_P D vwCl (wMd cI b M) H → va_S A s.heap H locs → lv_has ls 6 [(0, .ref (b 0)), (1, .int x1), (2, .int x2), (3, .int x3), (4, .int x4)] → W p l e rmX9_nextOf s m args below meth c H locs 0 0 (MQ below (qI D r (wMd cI b M) A) args s 0 0 A) (F0 m 54 ls [.int s0]) := by
        intro x3 x4 s0 H locs ls hF hP hS hl
        refine lv_istore (lv' := [(5, .int s0), (0, .ref (b 0)), (1, .int x1), (2, .int x2), (3, .int x3), (4, .int x4)]) hx hb dX9_nextOf_54 hl (by decide) rfl (fun ls hl => ?_)
        refine lv_iload hx hb dX9_nextOf_56 (lv_at hl 0 rfl) ?_
        refine lv_if_eq (tgt := 88) hx hb dX9_nextOf_58 (by decide) (fun c5 => ?_) (fun c5 => ?_)
        · have hF := it_t hF c5
          exact j88 x3 x4 _ _ _ hF hP hS (lv_sub hl [1, 2, 3, 4, 5] rfl)
        · have hF := it_f hF c5
          refine lv_iload_n hx hb dX9_nextOf_61 rfl (lv_at hl 4 rfl) ?_
          refine lv_bipush (v := (-9)) hx hb dX9_nextOf_62 (by decide) ?_
          refine lv_icmp_eq (tgt := 83) hx hb dX9_nextOf_64 (by decide) (fun c7 => ?_) (fun c7 => ?_)
          · have hF := it_t hF c7
            exact j83 x4 _ _ _ hF hP hS (lv_sub hl [1, 2, 3, 5] rfl)
          · have hF := it_f hF c7
            refine lv_aload_n hx hb dX9_nextOf_67 rfl (lv_at hl 1 rfl) ?_
            refine lv_iload hx hb dX9_nextOf_68 (lv_at hl 5 rfl) ?_
            refine lv_iconst (v := 1) hx hb dX9_nextOf_70 (by decide) ?_
            obtain ⟨r8, hr8, hF⟩ := bd_use hF
            refine cl_VI ⟨hx, hb, hml, hown, htb⟩ (kX9_its l D cS g cI b M x4 1 _ hr8) (cwV 2 htb (gX9_its bw4_118) rfl rfl rfl hdX9_its ⟨Nat.le_of_ble_eq_true rfl, Nat.le_of_ble_eq_true rfl⟩) hK (hDa _) hG hA hP hS (sr_Md_Md cI b M) hl.1 rfl 0 (pMd_0 _ _ _) rfl rfl (Nat.le_of_ble_eq_true rfl) dX9_nextOf_71 (fun H locs hP hS => ?_)
            refine lv_aload_n hx hb dX9_nextOf_74 rfl (lv_at hl 1 rfl) ?_
            refine lv_iload_n hx hb dX9_nextOf_75 rfl (lv_at hl 4 rfl) ?_
            refine lv_iconst (v := 1) hx hb dX9_nextOf_76 (by decide) ?_
            obtain ⟨r9, hr9, hF⟩ := bd_use hF
            refine cl_VI ⟨hx, hb, hml, hown, htb⟩ (kX9_its l D cS g cI b M x3 1 _ hr9) (cwV 2 htb (gX9_its bw4_118) rfl rfl rfl hdX9_its ⟨Nat.le_of_ble_eq_true rfl, Nat.le_of_ble_eq_true rfl⟩) hK (hDa _) hG hA hP hS (sr_Md_Md cI b M) hl.1 rfl 0 (pMd_0 _ _ _) rfl rfl (Nat.le_of_ble_eq_true rfl) dX9_nextOf_77 (fun H locs hP hS => ?_)
            refine lv_icmp_ge (tgt := 88) hx hb dX9_nextOf_80 (by decide) (fun c10 => ?_) (fun c10 => ?_)
            · have hF := it_t hF c10
              exact j88 x3 x4 _ _ _ hF hP hS (lv_sub hl [1, 2, 3, 4, 5] rfl)
            · have hF := it_f hF c10
              exact j83 x4 _ _ _ hF hP hS (lv_sub hl [1, 2, 3, 5] rfl)
      have j53 : ∀ (x3 : Int32) (x4 : Int32) (H : Heap) (locs : List Loc) (ls : Array Slot), fX9_nextOf_j53 x1 x2  (fX9_nextOf_l6 M x1 x2 fu) M x3 x4 = some r → va_P D vwCl (wMd cI b M) H → va_S A s.heap H locs → lv_has ls 6 [(0, .ref (b 0)), (1, .int x1), (2, .int x2), (3, .int x3), (4, .int x4)] → W p l e rmX9_nextOf s m args below meth c H locs 0 0 (MQ below (qI D r (wMd cI b M) A) args s 0 0 A) (F0 m 53 ls []) := by
        intro x3 x4 H locs ls hF hP hS hl
        refine lv_iconst (v := 0) hx hb dX9_nextOf_53 (by decide) ?_
        exact j54 x3 x4 0 _ _ _ hF hP hS (lv_sub hl [0, 1, 2, 3, 4] rfl)
      refine lv_iload hx hb dX9_nextOf_6 (lv_at hl 4 rfl) ?_
      refine lv_aload_n hx hb dX9_nextOf_8 rfl (lv_at hl 0 rfl) ?_
      refine va_get (ci := 9) (v := .ref (b 1)) (C := RX9) (T := TX9) (N := 10) hx hb htb kin9 hown hK hP 0 (pMd_0 cI b M) rfl 0 (by decide) (htb _ bw4_25) (fun _ h9 => h9) rfl dX9_nextOf_9 ?_
      refine lv_iconst (v := 1) hx hb dX9_nextOf_12 (by decide) ?_
      obtain ⟨hi, hF⟩ := rd_use hF
      refine va_iald hx hb hK hP 1 0 (pMd_1 cI b M) rfl hi dX9_nextOf_13 ?_
      refine lv_topi (fun v1 ev1 => ?_)
      have hF := hF v1 ev1
      refine lv_icmp_ge (tgt := 96) hx hb dX9_nextOf_14 (by decide) (fun c2 => ?_) (fun c2 => ?_)
      · have hF := it_t hF c2
        refine lv_iload_n hx hb dX9_nextOf_96 rfl (lv_at hl 3 rfl) ?_
        exact rt_I hx hb hr hlocks hS hP (so_use hF) dX9_nextOf_97
      · have hF := it_f hF c2
        refine lv_aload_n hx hb dX9_nextOf_17 rfl (lv_at hl 0 rfl) ?_
        refine lv_iload hx hb dX9_nextOf_18 (lv_at hl 4 rfl) ?_
        refine lv_iconst (v := 0) hx hb dX9_nextOf_20 (by decide) ?_
        obtain ⟨r3, hr3, hF⟩ := bd_use hF
        refine cl_VI ⟨hx, hb, hml, hown, htb⟩ (kX9_its l D cS g cI b M x4 0 _ hr3) (cwV 2 htb (gX9_its bw4_118) rfl rfl rfl hdX9_its ⟨Nat.le_of_ble_eq_true rfl, Nat.le_of_ble_eq_true rfl⟩) hK (hDa _) hG hA hP hS (sr_Md_Md cI b M) hl.1 rfl 0 (pMd_0 _ _ _) rfl rfl (Nat.le_of_ble_eq_true rfl) dX9_nextOf_21 (fun H locs hP hS => ?_)
        refine lv_iload_n hx hb dX9_nextOf_24 rfl (lv_at hl 1 rfl) ?_
        refine lv_icmp_ne (tgt := 53) hx hb dX9_nextOf_25 (by decide) (fun c4 => ?_) (fun c4 => ?_)
        · have hF := it_f hF c4
          exact j53 x3 x4 _ _ _ hF hP hS (lv_sub hl [0, 1, 2, 3, 4] rfl)
        · have hF := it_t hF c4
          refine lv_aload_n hx hb dX9_nextOf_28 rfl (lv_at hl 0 rfl) ?_
          refine lv_iload hx hb dX9_nextOf_29 (lv_at hl 4 rfl) ?_
          refine lv_iconst (v := 3) hx hb dX9_nextOf_31 (by decide) ?_
          obtain ⟨r11, hr11, hF⟩ := bd_use hF
          refine cl_VI ⟨hx, hb, hml, hown, htb⟩ (kX9_its l D cS g cI b M x4 3 _ hr11) (cwV 2 htb (gX9_its bw4_118) rfl rfl rfl hdX9_its ⟨Nat.le_of_ble_eq_true rfl, Nat.le_of_ble_eq_true rfl⟩) hK (hDa _) hG hA hP hS (sr_Md_Md cI b M) hl.1 rfl 0 (pMd_0 _ _ _) rfl rfl (Nat.le_of_ble_eq_true rfl) dX9_nextOf_32 (fun H locs hP hS => ?_)
          refine lv_if_ne (tgt := 53) hx hb dX9_nextOf_35 (by decide) (fun c12 => ?_) (fun c12 => ?_)
          · have hF := it_f hF c12
            exact j53 x3 x4 _ _ _ hF hP hS (lv_sub hl [0, 1, 2, 3, 4] rfl)
          · have hF := it_t hF c12
            refine lv_aload_n hx hb dX9_nextOf_38 rfl (lv_at hl 0 rfl) ?_
            refine lv_iload hx hb dX9_nextOf_39 (lv_at hl 4 rfl) ?_
            refine lv_iconst (v := 1) hx hb dX9_nextOf_41 (by decide) ?_
            obtain ⟨r13, hr13, hF⟩ := bd_use hF
            refine cl_VI ⟨hx, hb, hml, hown, htb⟩ (kX9_its l D cS g cI b M x4 1 _ hr13) (cwV 2 htb (gX9_its bw4_118) rfl rfl rfl hdX9_its ⟨Nat.le_of_ble_eq_true rfl, Nat.le_of_ble_eq_true rfl⟩) hK (hDa _) hG hA hP hS (sr_Md_Md cI b M) hl.1 rfl 0 (pMd_0 _ _ _) rfl rfl (Nat.le_of_ble_eq_true rfl) dX9_nextOf_42 (fun H locs hP hS => ?_)
            refine lv_iload_n hx hb dX9_nextOf_45 rfl (lv_at hl 2 rfl) ?_
            refine lv_icmp_le (tgt := 53) hx hb dX9_nextOf_46 (by decide) (fun c14 => ?_) (fun c14 => ?_)
            · have hF := it_t hF c14
              exact j53 x3 x4 _ _ _ hF hP hS (lv_sub hl [0, 1, 2, 3, 4] rfl)
            · have hF := it_f hF c14
              refine lv_iconst (v := 1) hx hb dX9_nextOf_49 (by decide) ?_
              refine lv_goto (tgt := 54) hx hb dX9_nextOf_50 (by decide) ?_
              exact j54 x3 x4 1 _ _ _ hF hP hS (lv_sub hl [0, 1, 2, 3, 4] rfl)
  refine lv_bipush (v := (-9)) hx hb dX9_nextOf_0 (by decide) ?_
  refine lv_istore_n (lv' := [(3, .int (-9)), (0, .ref (b 0)), (1, .int x1), (2, .int x2)]) hx hb dX9_nextOf_2 rfl hl (by decide) rfl (fun ls hl => ?_)
  refine lv_iconst (v := 0) hx hb dX9_nextOf_3 (by decide) ?_
  refine lv_istore (lv' := [(4, .int 0), (3, .int (-9)), (0, .ref (b 0)), (1, .int x1), (2, .int x2)]) hx hb dX9_nextOf_4 hl (by decide) rfl (fun ls hl => ?_)
  refine l6 x1 x2  _ (-9) 0 _ _ _ hF hP hS (lv_sub hl [2, 3, 4, 1, 0] rfl)
noncomputable def fX9_startOf_l25  (M : Md) (x1 : Int32) (x3 : Int32) : Nat → Int32 → Int32 → Option (Int32) := fun fu => Nat.rec (motive := fun _ => Int32 → Int32 → Option (Int32)) (fun _ _ => none) (fun _ ih => fun x4 x5 => if x5 = x1 then ((fX9_its M x5 1).bind fun r6 => (fX9_greater x4 r6).bind fun r7 => some r7) else ((fX9_its M x5 1).bind fun r8 => (fX9_greater x4 r8).bind fun r9 => (fX9_of M x3 0).bind fun r10 => (fX9_of M x3 1).bind fun r11 => nm ((r9 + r10) + r11) fun v12 => (fX9_its M x5 1).bind fun r13 => (fX9_nextOf M x3 r13).bind fun r14 => ih v12 r14)) fu
theorem fX9_startOf_l25_s  (M : Md) (x1 : Int32) (x3 : Int32) (fu : Nat) (x4 : Int32) (x5 : Int32) : fX9_startOf_l25 M x1 x3 (fu + 1) x4 x5 = (if x5 = x1 then ((fX9_its M x5 1).bind fun r6 => (fX9_greater x4 r6).bind fun r7 => some r7) else ((fX9_its M x5 1).bind fun r8 => (fX9_greater x4 r8).bind fun r9 => (fX9_of M x3 0).bind fun r10 => (fX9_of M x3 1).bind fun r11 => nm ((r9 + r10) + r11) fun v12 => (fX9_its M x5 1).bind fun r13 => (fX9_nextOf M x3 r13).bind fun r14 => (fX9_startOf_l25 M x1 x3 fu) v12 r14)) := rfl
theorem fX9_startOf_l25_z  (M : Md) (x1 : Int32) (x3 : Int32) (x4 : Int32) (x5 : Int32) : fX9_startOf_l25 M x1 x3 0 x4 x5 = none := rfl
noncomputable def fX9_startOf  (M : Md) (x1 : Int32) (x2 : Int32) : Option (Int32) := (fX9_its M x1 0).bind fun r1 => (fX9_of M r1 4).bind fun r2 => nm (r2 + x2) fun v3 => (fX9_nextOf M r1 (-1)).bind fun r4 => fX9_startOf_l25 M x1 r1 FU v3 r4
abbrev vX9_startOf : List Cond := Cond.code yX9_startOf cX9_startOf 6 (some .int) :: BIG
theorem gX9_startOf {own : String} {idx : Nat} (h : (Cond.methodLink own idx yX9_startOf) ∈ BIG) : GoodIn BIG (wsV own idx RX9 yX9_startOf vX9_startOf) := gdV h bw4_151 bs35 bw1_11 bw4_152
def rmX9_startOf : Room := { frames := 2, cells := 0, slots := 0, locals := 47 }
theorem hdX9_startOf : yX9_startOf.cls = RX9 ∧ yX9_startOf.cls ≠ "java/lang/invoke/MethodHandle" ∧ yX9_startOf.cls ≠ "java/lang/invoke/VarHandle" ∧ (parseMethodDescriptor yX9_startOf.desc).map (fun d => d.parameters.length) = some 2 := by decide +kernel
set_option maxHeartbeats 4000000 in
set_option maxRecDepth 100000 in
theorem kX9_startOf (l : Launch) (D : va_G) (cS : ClassId) (g : Nat → Nat) (cI : ClassId) (b : Nat → Nat) (M : Md) (x1 : Int32) (x2 : Int32) (r : Int32) (hF : fX9_startOf M x1 x2 = some r) : mI l yX9_startOf vX9_startOf rmX9_startOf D cI cS g [.ref (b 0), .int x1, .int x2] (wMd cI b M) r (wMd cI b M) := by
  refine st_I rfl (by decide) (Nat.le_of_ble_eq_true rfl) ?_
  intro p e s m args below meth c A ls hx hb hr hml hlocks hown hts hA hK hD0 hG hP hS hl
  have hown : s.vm.findClass RX9 = some m.cls := hown
  have hDa : ∀ M, va_D A (wMd cI b M) := fun M => hD0.adr rfl
  have htb : ∀ w ∈ BIG, w.before args s = true := fun w h => hts w (List.mem_cons_of_mem _ h)
  have hl : lv_has ls 6 [(0, .ref (b 0)), (1, .int x1), (2, .int x2)] := hl
  have l25 : ∀ (x1 : Int32) (x3 : Int32) (fu : Nat) (x4 : Int32) (x5 : Int32) (H : Heap) (locs : List Loc) (ls : Array Slot), fX9_startOf_l25 M x1 x3 fu x4 x5 = some r → va_P D vwCl (wMd cI b M) H → va_S A s.heap H locs → lv_has ls 6 [(0, .ref (b 0)), (1, .int x1), (3, .int x3), (4, .int x4), (5, .int x5)] → W p l e rmX9_startOf s m args below meth c H locs 0 0 (MQ below (qI D r (wMd cI b M) A) args s 0 0 A) (F0 m 25 ls []) := by
    intro x1 x3  fu
    induction fu with
    | zero => intro x4 x5 H locs ls hF; exact nn_use hF
    | succ fu ihn =>
      intro x4 x5 H locs ls hF hP hS hl 
      rw [fX9_startOf_l25_s] at hF
      refine lv_iload hx hb dX9_startOf_25 (lv_at hl 4 rfl) ?_
      refine lv_iload_n hx hb dX9_startOf_27 rfl (lv_at hl 1 rfl) ?_
      refine lv_icmp_eq (tgt := 76) hx hb dX9_startOf_28 (by decide) (fun c5 => ?_) (fun c5 => ?_)
      · have hF := it_t hF c5
        refine lv_iload hx hb dX9_startOf_76 (lv_at hl 3 rfl) ?_
        refine lv_aload_n hx hb dX9_startOf_78 rfl (lv_at hl 0 rfl) ?_
        refine lv_iload hx hb dX9_startOf_79 (lv_at hl 4 rfl) ?_
        refine lv_iconst (v := 1) hx hb dX9_startOf_81 (by decide) ?_
        obtain ⟨r6, hr6, hF⟩ := bd_use hF
        refine cl_VI ⟨hx, hb, hml, hown, htb⟩ (kX9_its l D cS g cI b M x5 1 _ hr6) (cwV 2 htb (gX9_its bw4_118) rfl rfl rfl hdX9_its ⟨Nat.le_of_ble_eq_true rfl, Nat.le_of_ble_eq_true rfl⟩) hK (hDa _) hG hA hP hS (sr_Md_Md cI b M) hl.1 rfl 0 (pMd_0 _ _ _) rfl rfl (Nat.le_of_ble_eq_true rfl) dX9_startOf_82 (fun H locs hP hS => ?_)
        obtain ⟨r7, hr7, hF⟩ := bd_use hF
        refine cl_SI ⟨hx, hb, hml, hown, htb⟩ (kX9_greater l D cS g cI x4 r6 _ hr7) (va_cwS 2 htb (gX9_greater bw4_157) rfl rfl rfl hdX9_greater ⟨Nat.le_of_ble_eq_true rfl, Nat.le_of_ble_eq_true rfl⟩) hK (hDa _) hG hA hP hS sg_nil hl.1 rfl rfl (Nat.le_of_ble_eq_true rfl) dX9_startOf_85 (fun H locs hP hS => ?_)
        exact rt_I hx hb hr hlocks hS hP (so_use hF) dX9_startOf_88
      · have hF := it_f hF c5
        refine lv_iload hx hb dX9_startOf_31 (lv_at hl 3 rfl) ?_
        refine lv_aload_n hx hb dX9_startOf_33 rfl (lv_at hl 0 rfl) ?_
        refine lv_iload hx hb dX9_startOf_34 (lv_at hl 4 rfl) ?_
        refine lv_iconst (v := 1) hx hb dX9_startOf_36 (by decide) ?_
        obtain ⟨r8, hr8, hF⟩ := bd_use hF
        refine cl_VI ⟨hx, hb, hml, hown, htb⟩ (kX9_its l D cS g cI b M x5 1 _ hr8) (cwV 2 htb (gX9_its bw4_118) rfl rfl rfl hdX9_its ⟨Nat.le_of_ble_eq_true rfl, Nat.le_of_ble_eq_true rfl⟩) hK (hDa _) hG hA hP hS (sr_Md_Md cI b M) hl.1 rfl 0 (pMd_0 _ _ _) rfl rfl (Nat.le_of_ble_eq_true rfl) dX9_startOf_37 (fun H locs hP hS => ?_)
        obtain ⟨r9, hr9, hF⟩ := bd_use hF
        refine cl_SI ⟨hx, hb, hml, hown, htb⟩ (kX9_greater l D cS g cI x4 r8 _ hr9) (va_cwS 2 htb (gX9_greater bw4_157) rfl rfl rfl hdX9_greater ⟨Nat.le_of_ble_eq_true rfl, Nat.le_of_ble_eq_true rfl⟩) hK (hDa _) hG hA hP hS sg_nil hl.1 rfl rfl (Nat.le_of_ble_eq_true rfl) dX9_startOf_40 (fun H locs hP hS => ?_)
        refine lv_aload_n hx hb dX9_startOf_43 rfl (lv_at hl 0 rfl) ?_
        refine lv_iload_n hx hb dX9_startOf_44 rfl (lv_at hl 2 rfl) ?_
        refine lv_iconst (v := 0) hx hb dX9_startOf_45 (by decide) ?_
        obtain ⟨r10, hr10, hF⟩ := bd_use hF
        refine cl_VI ⟨hx, hb, hml, hown, htb⟩ (kX9_of l D cS g cI b M x3 0 _ hr10) (cwV 2 htb (gX9_of bw4_83) rfl rfl rfl hdX9_of ⟨Nat.le_of_ble_eq_true rfl, Nat.le_of_ble_eq_true rfl⟩) hK (hDa _) hG hA hP hS (sr_Md_Md cI b M) hl.1 rfl 0 (pMd_0 _ _ _) rfl rfl (Nat.le_of_ble_eq_true rfl) dX9_startOf_46 (fun H locs hP hS => ?_)
        refine lv_iadd hx hb dX9_startOf_49 ?_
        refine lv_aload_n hx hb dX9_startOf_50 rfl (lv_at hl 0 rfl) ?_
        refine lv_iload_n hx hb dX9_startOf_51 rfl (lv_at hl 2 rfl) ?_
        refine lv_iconst (v := 1) hx hb dX9_startOf_52 (by decide) ?_
        obtain ⟨r11, hr11, hF⟩ := bd_use hF
        refine cl_VI ⟨hx, hb, hml, hown, htb⟩ (kX9_of l D cS g cI b M x3 1 _ hr11) (cwV 2 htb (gX9_of bw4_83) rfl rfl rfl hdX9_of ⟨Nat.le_of_ble_eq_true rfl, Nat.le_of_ble_eq_true rfl⟩) hK (hDa _) hG hA hP hS (sr_Md_Md cI b M) hl.1 rfl 0 (pMd_0 _ _ _) rfl rfl (Nat.le_of_ble_eq_true rfl) dX9_startOf_53 (fun H locs hP hS => ?_)
        refine lv_iadd hx hb dX9_startOf_56 ?_
        refine lv_topi (fun v12 ev12 => ?_)
        have hF := nm_use hF ev12
        refine lv_istore (lv' := [(4, .int v12), (0, .ref (b 0)), (1, .int x1), (3, .int x3), (5, .int x5)]) hx hb dX9_startOf_57 hl (by decide) rfl (fun ls hl => ?_)
        refine lv_aload_n hx hb dX9_startOf_59 rfl (lv_at hl 1 rfl) ?_
        refine lv_iload_n hx hb dX9_startOf_60 rfl (lv_at hl 3 rfl) ?_
        refine lv_aload_n hx hb dX9_startOf_61 rfl (lv_at hl 1 rfl) ?_
        refine lv_iload hx hb dX9_startOf_62 (lv_at hl 4 rfl) ?_
        refine lv_iconst (v := 1) hx hb dX9_startOf_64 (by decide) ?_
        obtain ⟨r13, hr13, hF⟩ := bd_use hF
        refine cl_VI ⟨hx, hb, hml, hown, htb⟩ (kX9_its l D cS g cI b M x5 1 _ hr13) (cwV 2 htb (gX9_its bw4_118) rfl rfl rfl hdX9_its ⟨Nat.le_of_ble_eq_true rfl, Nat.le_of_ble_eq_true rfl⟩) hK (hDa _) hG hA hP hS (sr_Md_Md cI b M) hl.1 rfl 0 (pMd_0 _ _ _) rfl rfl (Nat.le_of_ble_eq_true rfl) dX9_startOf_65 (fun H locs hP hS => ?_)
        obtain ⟨r14, hr14, hF⟩ := bd_use hF
        refine cl_VI ⟨hx, hb, hml, hown, htb⟩ (kX9_nextOf l D cS g cI b M x3 r13 _ hr14) (cwV 2 htb (gX9_nextOf bw4_153) rfl rfl rfl hdX9_nextOf ⟨Nat.le_of_ble_eq_true rfl, Nat.le_of_ble_eq_true rfl⟩) hK (hDa _) hG hA hP hS (sr_Md_Md cI b M) hl.1 rfl 0 (pMd_0 _ _ _) rfl rfl (Nat.le_of_ble_eq_true rfl) dX9_startOf_68 (fun H locs hP hS => ?_)
        refine lv_istore (lv' := [(5, .int r14), (4, .int v12), (0, .ref (b 0)), (1, .int x1), (3, .int x3)]) hx hb dX9_startOf_71 hl (by decide) rfl (fun ls hl => ?_)
        refine lv_goto (tgt := 25) hx hb dX9_startOf_73 (by decide) ?_
        exact ihn v12 r14 _ _ _ hF hP hS (lv_sub hl [2, 3, 4, 1, 0] rfl)
  refine lv_aload_n hx hb dX9_startOf_0 rfl (lv_at hl 0 rfl) ?_
  refine lv_iload_n hx hb dX9_startOf_1 rfl (lv_at hl 1 rfl) ?_
  refine lv_iconst (v := 0) hx hb dX9_startOf_2 (by decide) ?_
  obtain ⟨r1, hr1, hF⟩ := bd_use hF
  refine cl_VI ⟨hx, hb, hml, hown, htb⟩ (kX9_its l D cS g cI b M x1 0 _ hr1) (cwV 2 htb (gX9_its bw4_118) rfl rfl rfl hdX9_its ⟨Nat.le_of_ble_eq_true rfl, Nat.le_of_ble_eq_true rfl⟩) hK (hDa _) hG hA hP hS (sr_Md_Md cI b M) hl.1 rfl 0 (pMd_0 _ _ _) rfl rfl (Nat.le_of_ble_eq_true rfl) dX9_startOf_3 (fun H locs hP hS => ?_)
  refine lv_istore_n (lv' := [(3, .int r1), (0, .ref (b 0)), (1, .int x1), (2, .int x2)]) hx hb dX9_startOf_6 rfl hl (by decide) rfl (fun ls hl => ?_)
  refine lv_aload_n hx hb dX9_startOf_7 rfl (lv_at hl 1 rfl) ?_
  refine lv_iload_n hx hb dX9_startOf_8 rfl (lv_at hl 0 rfl) ?_
  refine lv_iconst (v := 4) hx hb dX9_startOf_9 (by decide) ?_
  obtain ⟨r2, hr2, hF⟩ := bd_use hF
  refine cl_VI ⟨hx, hb, hml, hown, htb⟩ (kX9_of l D cS g cI b M r1 4 _ hr2) (cwV 2 htb (gX9_of bw4_83) rfl rfl rfl hdX9_of ⟨Nat.le_of_ble_eq_true rfl, Nat.le_of_ble_eq_true rfl⟩) hK (hDa _) hG hA hP hS (sr_Md_Md cI b M) hl.1 rfl 0 (pMd_0 _ _ _) rfl rfl (Nat.le_of_ble_eq_true rfl) dX9_startOf_10 (fun H locs hP hS => ?_)
  refine lv_iload_n hx hb dX9_startOf_13 rfl (lv_at hl 3 rfl) ?_
  refine lv_iadd hx hb dX9_startOf_14 ?_
  refine lv_topi (fun v3 ev3 => ?_)
  have hF := nm_use hF ev3
  refine lv_istore (lv' := [(4, .int v3), (3, .int r1), (0, .ref (b 0)), (1, .int x1), (2, .int x2)]) hx hb dX9_startOf_15 hl (by decide) rfl (fun ls hl => ?_)
  refine lv_aload_n hx hb dX9_startOf_17 rfl (lv_at hl 2 rfl) ?_
  refine lv_iload_n hx hb dX9_startOf_18 rfl (lv_at hl 1 rfl) ?_
  refine lv_iconst (v := (-1)) hx hb dX9_startOf_19 (by decide) ?_
  obtain ⟨r4, hr4, hF⟩ := bd_use hF
  refine cl_VI ⟨hx, hb, hml, hown, htb⟩ (kX9_nextOf l D cS g cI b M r1 (-1) _ hr4) (cwV 2 htb (gX9_nextOf bw4_153) rfl rfl rfl hdX9_nextOf ⟨Nat.le_of_ble_eq_true rfl, Nat.le_of_ble_eq_true rfl⟩) hK (hDa _) hG hA hP hS (sr_Md_Md cI b M) hl.1 rfl 0 (pMd_0 _ _ _) rfl rfl (Nat.le_of_ble_eq_true rfl) dX9_startOf_20 (fun H locs hP hS => ?_)
  refine lv_istore (lv' := [(5, .int r4), (4, .int v3), (3, .int r1), (0, .ref (b 0)), (1, .int x1), (2, .int x2)]) hx hb dX9_startOf_23 hl (by decide) rfl (fun ls hl => ?_)
  refine l25 x1 r1  _ v3 r4 _ _ _ hF hP hS (lv_sub hl [3, 4, 2, 1, 0] rfl)
noncomputable def fX9_shareOf_j43  (M : Md) (s0 : Int32) : Option (Int32) := some s0
noncomputable def fX9_shareOf  (M : Md) (x1 : Int32) (x2 : Int32) : Option (Int32) := Rd (M.1) 1553 7 fun v1 => nm (x2 - v1) fun v2 => if 0 < v2 then (Dv (v2 + 9) 10 fun v4 => Rd (M.1) 1553 8 fun v5 => (fX9_lesser 100 (v4 * v5)).bind fun r6 => Dv (x1 * r6) 100 fun v7 => fX9_shareOf_j43 M v7) else (fX9_shareOf_j43 M 0)
abbrev vX9_shareOf : List Cond := Cond.code yX9_shareOf cX9_shareOf 4 (some .int) :: BIG
theorem gX9_shareOf {own : String} {idx : Nat} (h : (Cond.methodLink own idx yX9_shareOf) ∈ BIG) : GoodIn BIG (wsV own idx RX9 yX9_shareOf vX9_shareOf) := gdV h bw4_190 bs42 bw1_11 bw4_191
def rmX9_shareOf : Room := { frames := 1, cells := 0, slots := 0, locals := 21 }
theorem hdX9_shareOf : yX9_shareOf.cls = RX9 ∧ yX9_shareOf.cls ≠ "java/lang/invoke/MethodHandle" ∧ yX9_shareOf.cls ≠ "java/lang/invoke/VarHandle" ∧ (parseMethodDescriptor yX9_shareOf.desc).map (fun d => d.parameters.length) = some 2 := by decide +kernel
set_option maxHeartbeats 4000000 in
set_option maxRecDepth 100000 in
theorem kX9_shareOf (l : Launch) (D : va_G) (cS : ClassId) (g : Nat → Nat) (cI : ClassId) (b : Nat → Nat) (M : Md) (x1 : Int32) (x2 : Int32) (r : Int32) (hF : fX9_shareOf M x1 x2 = some r) : mI l yX9_shareOf vX9_shareOf rmX9_shareOf D cI cS g [.ref (b 0), .int x1, .int x2] (wMd cI b M) r (wMd cI b M) := by
  refine st_I rfl (by decide) (Nat.le_of_ble_eq_true rfl) ?_
  intro p e s m args below meth c A ls hx hb hr hml hlocks hown hts hA hK hD0 hG hP hS hl
  have hown : s.vm.findClass RX9 = some m.cls := hown
  have hDa : ∀ M, va_D A (wMd cI b M) := fun M => hD0.adr rfl
  have htb : ∀ w ∈ BIG, w.before args s = true := fun w h => hts w (List.mem_cons_of_mem _ h)
  have hl : lv_has ls 4 [(0, .ref (b 0)), (1, .int x1), (2, .int x2)] := hl
  have j43 : ∀ (s0 : Int32) (H : Heap) (locs : List Loc) (ls : Array Slot), fX9_shareOf_j43 M s0 = some r → va_P D vwCl (wMd cI b M) H → va_S A s.heap H locs → lv_has ls 4 [] → W p l e rmX9_shareOf s m args below meth c H locs 0 0 (MQ below (qI D r (wMd cI b M) A) args s 0 0 A) (F0 m 43 ls [.int s0]) := by
    intro s0 H locs ls hF hP hS hl
    exact rt_I hx hb hr hlocks hS hP (so_use hF) dX9_shareOf_43
  refine lv_iload_n hx hb dX9_shareOf_0 rfl (lv_at hl 2 rfl) ?_
  refine lv_aload_n hx hb dX9_shareOf_1 rfl (lv_at hl 0 rfl) ?_
  refine va_get (ci := 9) (v := .ref (b 1)) (C := RX9) (T := TX9) (N := 10) hx hb htb kin9 hown hK hP 0 (pMd_0 cI b M) rfl 0 (by decide) (htb _ bw4_25) (fun _ h9 => h9) rfl dX9_shareOf_2 ?_
  refine lv_bipush (v := 7) hx hb dX9_shareOf_5 (by decide) ?_
  obtain ⟨hi, hF⟩ := rd_use hF
  refine va_iald hx hb hK hP 1 0 (pMd_1 cI b M) rfl hi dX9_shareOf_7 ?_
  refine lv_topi (fun v1 ev1 => ?_)
  have hF := hF v1 ev1
  refine lv_isub hx hb dX9_shareOf_8 ?_
  refine lv_topi (fun v2 ev2 => ?_)
  have hF := nm_use hF ev2
  refine lv_istore_n (lv' := [(3, .int v2), (0, .ref (b 0)), (1, .int x1), (2, .int x2)]) hx hb dX9_shareOf_9 rfl hl (by decide) rfl (fun ls hl => ?_)
  refine lv_iload_n hx hb dX9_shareOf_10 rfl (lv_at hl 0 rfl) ?_
  refine lv_if_gt (tgt := 18) hx hb dX9_shareOf_11 (by decide) (fun c3 => ?_) (fun c3 => ?_)
  · have hF := it_t hF c3
    refine lv_iload_n hx hb dX9_shareOf_18 rfl (lv_at hl 2 rfl) ?_
    refine lv_bipush (v := 100) hx hb dX9_shareOf_19 (by decide) ?_
    refine lv_iload_n hx hb dX9_shareOf_21 rfl (lv_at hl 0 rfl) ?_
    refine lv_bipush (v := 9) hx hb dX9_shareOf_22 (by decide) ?_
    refine lv_iadd hx hb dX9_shareOf_24 ?_
    refine lv_bipush (v := 10) hx hb dX9_shareOf_25 (by decide) ?_
    obtain ⟨hd, hF⟩ := dv_use hF
    refine lv_idiv hx hb dX9_shareOf_27 hd ?_
    refine lv_topi (fun v4 ev4 => ?_)
    have hF := hF v4 ev4
    refine lv_aload_n hx hb dX9_shareOf_28 rfl (lv_at hl 1 rfl) ?_
    refine va_get (ci := 9) (v := .ref (b 1)) (C := RX9) (T := TX9) (N := 10) hx hb htb kin9 hown hK hP 0 (pMd_0 cI b M) rfl 0 (by decide) (htb _ bw4_25) (fun _ h9 => h9) rfl dX9_shareOf_29 ?_
    refine lv_bipush (v := 8) hx hb dX9_shareOf_32 (by decide) ?_
    obtain ⟨hi, hF⟩ := rd_use hF
    refine va_iald hx hb hK hP 1 0 (pMd_1 cI b M) rfl hi dX9_shareOf_34 ?_
    refine lv_topi (fun v5 ev5 => ?_)
    have hF := hF v5 ev5
    refine lv_imul hx hb dX9_shareOf_35 ?_
    obtain ⟨r6, hr6, hF⟩ := bd_use hF
    refine cl_SI ⟨hx, hb, hml, hown, htb⟩ (kX9_lesser l D cS g cI 100 (v4 * v5) _ hr6) (va_cwS 2 htb (gX9_lesser bw4_122) rfl rfl rfl hdX9_lesser ⟨Nat.le_of_ble_eq_true rfl, Nat.le_of_ble_eq_true rfl⟩) hK (hDa _) hG hA hP hS sg_nil hl.1 rfl rfl (Nat.le_of_ble_eq_true rfl) dX9_shareOf_36 (fun H locs hP hS => ?_)
    refine lv_imul hx hb dX9_shareOf_39 ?_
    refine lv_bipush (v := 100) hx hb dX9_shareOf_40 (by decide) ?_
    obtain ⟨hd, hF⟩ := dv_use hF
    refine lv_idiv hx hb dX9_shareOf_42 hd ?_
    refine lv_topi (fun v7 ev7 => ?_)
    have hF := hF v7 ev7
    exact j43 v7 _ _ _ hF hP hS (lv_sub hl [] rfl)
  · have hF := it_f hF c3
    refine lv_iconst (v := 0) hx hb dX9_shareOf_14 (by decide) ?_
    refine lv_goto (tgt := 43) hx hb dX9_shareOf_15 (by decide) ?_
    exact j43 0 _ _ _ hF hP hS (lv_sub hl [] rfl)
noncomputable def fX9_doDrop_j65  (M : Md) (x1 : Int32) (s0 : Int32) : Option (Int32 × Md) := (fX9_refunds M x1 s0).bind fun M13 => (fX9_lays M13 x1 3 2).bind fun M14 => some (s0, M14)
noncomputable def fX9_doDrop  (M : Md) (x1 : Int32) : Option (Int32 × Md) := (fX9_isBooking M x1).bind fun r1 => if r1 = 0 then (some ((-1), M)) else ((fX9_its M x1 3).bind fun r3 => if r3 = 0 then ((fX9_its M x1 5).bind fun r5 => (fX9_byVouchers M x1).bind fun r6 => nm (r5 + r6) fun v7 => (fX9_startOf M x1 0).bind fun r8 => (fX9_its M x1 1).bind fun r9 => Rd (M.1) 1553 7 fun v10 => if (r8 - r9) ≤ v10 then (Dv v7 2 fun v12 => fX9_doDrop_j65 M x1 v12) else (fX9_doDrop_j65 M x1 v7)) else (some ((-2), M)))
abbrev vX9_doDrop : List Cond := Cond.code yX9_doDrop cX9_doDrop 4 (some .int) :: BIG
theorem gX9_doDrop {own : String} {idx : Nat} (h : (Cond.methodLink own idx yX9_doDrop) ∈ BIG) : GoodIn BIG (wsV own idx RX9 yX9_doDrop vX9_doDrop) := gdV h bw4_143 bs33 bw1_11 bw4_144
def rmX9_doDrop : Room := { frames := 3, cells := 0, slots := 0, locals := 72 }
theorem hdX9_doDrop : yX9_doDrop.cls = RX9 ∧ yX9_doDrop.cls ≠ "java/lang/invoke/MethodHandle" ∧ yX9_doDrop.cls ≠ "java/lang/invoke/VarHandle" ∧ (parseMethodDescriptor yX9_doDrop.desc).map (fun d => d.parameters.length) = some 1 := by decide +kernel
set_option maxHeartbeats 4000000 in
set_option maxRecDepth 100000 in
theorem kX9_doDrop (l : Launch) (D : va_G) (cS : ClassId) (g : Nat → Nat) (cI : ClassId) (b : Nat → Nat) (M : Md) (x1 : Int32) (r : Int32) (M' : Md) (hF : fX9_doDrop M x1 = some (r, M')) : mI l yX9_doDrop vX9_doDrop rmX9_doDrop D cI cS g [.ref (b 0), .int x1] (wMd cI b M) r (wMd cI b (M')) := by
  refine st_I rfl (by decide) (Nat.le_of_ble_eq_true rfl) ?_
  intro p e s m args below meth c A ls hx hb hr hml hlocks hown hts hA hK hD0 hG hP hS hl
  have hown : s.vm.findClass RX9 = some m.cls := hown
  have hDa : ∀ M, va_D A (wMd cI b M) := fun M => hD0.adr rfl
  have htb : ∀ w ∈ BIG, w.before args s = true := fun w h => hts w (List.mem_cons_of_mem _ h)
  have hl : lv_has ls 4 [(0, .ref (b 0)), (1, .int x1)] := hl
  have j65 : ∀ (M : Md) (x1 : Int32) (s0 : Int32) (H : Heap) (locs : List Loc) (ls : Array Slot), fX9_doDrop_j65 M x1 s0 = some (r, M') → va_P D vwCl (wMd cI b M) H → va_S A s.heap H locs → lv_has ls 4 [(0, .ref (b 0)), (1, .int x1)] → W p l e rmX9_doDrop s m args below meth c H locs 0 0 (MQ below (qI D r (wMd cI b (M')) A) args s 0 0 A) (F0 m 65 ls [.int s0]) := by
    intro M x1 s0 H locs ls hF hP hS hl
    refine lv_istore_n (lv' := [(3, .int s0), (0, .ref (b 0)), (1, .int x1)]) hx hb dX9_doDrop_65 rfl hl (by decide) rfl (fun ls hl => ?_)
    refine lv_aload_n hx hb dX9_doDrop_66 rfl (lv_at hl 1 rfl) ?_
    refine lv_iload_n hx hb dX9_doDrop_67 rfl (lv_at hl 2 rfl) ?_
    refine lv_iload_n hx hb dX9_doDrop_68 rfl (lv_at hl 0 rfl) ?_
    obtain ⟨M13, hM13, hF⟩ := bd_use hF
    refine cl_VV ⟨hx, hb, hml, hown, htb⟩ (kX9_refunds l D cS g cI b M x1 s0 _ hM13) (cwV 2 htb (gX9_refunds bw4_160) rfl rfl rfl hdX9_refunds ⟨Nat.le_of_ble_eq_true rfl, Nat.le_of_ble_eq_true rfl⟩) hK (hDa _) hG hA hP hS (sg_Md_Md cI b M M13) hl.1 rfl 0 (pMd_0 _ _ _) rfl rfl (Nat.le_of_ble_eq_true rfl) dX9_doDrop_69 (fun H locs hP hS => ?_)
    refine lv_aload_n hx hb dX9_doDrop_72 rfl (lv_at hl 1 rfl) ?_
    refine lv_iload_n hx hb dX9_doDrop_73 rfl (lv_at hl 2 rfl) ?_
    refine lv_iconst (v := 3) hx hb dX9_doDrop_74 (by decide) ?_
    refine lv_iconst (v := 2) hx hb dX9_doDrop_75 (by decide) ?_
    obtain ⟨M14, hM14, hF⟩ := bd_use hF
    refine cl_VV ⟨hx, hb, hml, hown, htb⟩ (kX9_lays l D cS g cI b M13 x1 3 2 _ hM14) (cwV 3 htb (gX9_lays bw4_125) rfl rfl rfl hdX9_lays ⟨Nat.le_of_ble_eq_true rfl, Nat.le_of_ble_eq_true rfl⟩) hK (hDa _) hG hA hP hS (sg_Md_Md cI b M13 M14) hl.1 rfl 0 (pMd_0 _ _ _) rfl rfl (Nat.le_of_ble_eq_true rfl) dX9_doDrop_76 (fun H locs hP hS => ?_)
    refine lv_iload_n hx hb dX9_doDrop_79 rfl (lv_at hl 0 rfl) ?_
    obtain ⟨er, eM⟩ := pr_use hF
    exact rt_I hx hb hr hlocks hS (by rw [← eM]; exact hP) er dX9_doDrop_80
  refine lv_aload_n hx hb dX9_doDrop_0 rfl (lv_at hl 0 rfl) ?_
  refine lv_iload_n hx hb dX9_doDrop_1 rfl (lv_at hl 1 rfl) ?_
  obtain ⟨r1, hr1, hF⟩ := bd_use hF
  refine cl_VI ⟨hx, hb, hml, hown, htb⟩ (kX9_isBooking l D cS g cI b M x1 _ hr1) (cwV 1 htb (gX9_isBooking bw4_133) rfl rfl rfl hdX9_isBooking ⟨Nat.le_of_ble_eq_true rfl, Nat.le_of_ble_eq_true rfl⟩) hK (hDa _) hG hA hP hS (sr_Md_Md cI b M) hl.1 rfl 0 (pMd_0 _ _ _) rfl rfl (Nat.le_of_ble_eq_true rfl) dX9_doDrop_2 (fun H locs hP hS => ?_)
  refine lv_if_ne (tgt := 10) hx hb dX9_doDrop_5 (by decide) (fun c2 => ?_) (fun c2 => ?_)
  · have hF := it_f hF c2
    refine lv_aload_n hx hb dX9_doDrop_10 rfl (lv_at hl 0 rfl) ?_
    refine lv_iload_n hx hb dX9_doDrop_11 rfl (lv_at hl 1 rfl) ?_
    refine lv_iconst (v := 3) hx hb dX9_doDrop_12 (by decide) ?_
    obtain ⟨r3, hr3, hF⟩ := bd_use hF
    refine cl_VI ⟨hx, hb, hml, hown, htb⟩ (kX9_its l D cS g cI b M x1 3 _ hr3) (cwV 2 htb (gX9_its bw4_118) rfl rfl rfl hdX9_its ⟨Nat.le_of_ble_eq_true rfl, Nat.le_of_ble_eq_true rfl⟩) hK (hDa _) hG hA hP hS (sr_Md_Md cI b M) hl.1 rfl 0 (pMd_0 _ _ _) rfl rfl (Nat.le_of_ble_eq_true rfl) dX9_doDrop_13 (fun H locs hP hS => ?_)
    refine lv_if_eq (tgt := 22) hx hb dX9_doDrop_16 (by decide) (fun c4 => ?_) (fun c4 => ?_)
    · have hF := it_t hF c4
      refine lv_aload_n hx hb dX9_doDrop_22 rfl (lv_at hl 0 rfl) ?_
      refine lv_iload_n hx hb dX9_doDrop_23 rfl (lv_at hl 1 rfl) ?_
      refine lv_iconst (v := 5) hx hb dX9_doDrop_24 (by decide) ?_
      obtain ⟨r5, hr5, hF⟩ := bd_use hF
      refine cl_VI ⟨hx, hb, hml, hown, htb⟩ (kX9_its l D cS g cI b M x1 5 _ hr5) (cwV 2 htb (gX9_its bw4_118) rfl rfl rfl hdX9_its ⟨Nat.le_of_ble_eq_true rfl, Nat.le_of_ble_eq_true rfl⟩) hK (hDa _) hG hA hP hS (sr_Md_Md cI b M) hl.1 rfl 0 (pMd_0 _ _ _) rfl rfl (Nat.le_of_ble_eq_true rfl) dX9_doDrop_25 (fun H locs hP hS => ?_)
      refine lv_aload_n hx hb dX9_doDrop_28 rfl (lv_at hl 0 rfl) ?_
      refine lv_iload_n hx hb dX9_doDrop_29 rfl (lv_at hl 1 rfl) ?_
      obtain ⟨r6, hr6, hF⟩ := bd_use hF
      refine cl_VI ⟨hx, hb, hml, hown, htb⟩ (kX9_byVouchers l D cS g cI b M x1 _ hr6) (cwV 1 htb (gX9_byVouchers bw4_145) rfl rfl rfl hdX9_byVouchers ⟨Nat.le_of_ble_eq_true rfl, Nat.le_of_ble_eq_true rfl⟩) hK (hDa _) hG hA hP hS (sr_Md_Md cI b M) hl.1 rfl 0 (pMd_0 _ _ _) rfl rfl (Nat.le_of_ble_eq_true rfl) dX9_doDrop_30 (fun H locs hP hS => ?_)
      refine lv_iadd hx hb dX9_doDrop_33 ?_
      refine lv_topi (fun v7 ev7 => ?_)
      have hF := nm_use hF ev7
      refine lv_istore_n (lv' := [(2, .int v7), (0, .ref (b 0)), (1, .int x1)]) hx hb dX9_doDrop_34 rfl hl (by decide) rfl (fun ls hl => ?_)
      refine lv_aload_n hx hb dX9_doDrop_35 rfl (lv_at hl 1 rfl) ?_
      refine lv_iload_n hx hb dX9_doDrop_36 rfl (lv_at hl 2 rfl) ?_
      refine lv_iconst (v := 0) hx hb dX9_doDrop_37 (by decide) ?_
      obtain ⟨r8, hr8, hF⟩ := bd_use hF
      refine cl_VI ⟨hx, hb, hml, hown, htb⟩ (kX9_startOf l D cS g cI b M x1 0 _ hr8) (cwV 2 htb (gX9_startOf bw4_149) rfl rfl rfl hdX9_startOf ⟨Nat.le_of_ble_eq_true rfl, Nat.le_of_ble_eq_true rfl⟩) hK (hDa _) hG hA hP hS (sr_Md_Md cI b M) hl.1 rfl 0 (pMd_0 _ _ _) rfl rfl (Nat.le_of_ble_eq_true rfl) dX9_doDrop_38 (fun H locs hP hS => ?_)
      refine lv_aload_n hx hb dX9_doDrop_41 rfl (lv_at hl 1 rfl) ?_
      refine lv_iload_n hx hb dX9_doDrop_42 rfl (lv_at hl 2 rfl) ?_
      refine lv_iconst (v := 1) hx hb dX9_doDrop_43 (by decide) ?_
      obtain ⟨r9, hr9, hF⟩ := bd_use hF
      refine cl_VI ⟨hx, hb, hml, hown, htb⟩ (kX9_its l D cS g cI b M x1 1 _ hr9) (cwV 2 htb (gX9_its bw4_118) rfl rfl rfl hdX9_its ⟨Nat.le_of_ble_eq_true rfl, Nat.le_of_ble_eq_true rfl⟩) hK (hDa _) hG hA hP hS (sr_Md_Md cI b M) hl.1 rfl 0 (pMd_0 _ _ _) rfl rfl (Nat.le_of_ble_eq_true rfl) dX9_doDrop_44 (fun H locs hP hS => ?_)
      refine lv_isub hx hb dX9_doDrop_47 ?_
      refine lv_aload_n hx hb dX9_doDrop_48 rfl (lv_at hl 1 rfl) ?_
      refine va_get (ci := 9) (v := .ref (b 1)) (C := RX9) (T := TX9) (N := 10) hx hb htb kin9 hown hK hP 0 (pMd_0 cI b M) rfl 0 (by decide) (htb _ bw4_25) (fun _ h9 => h9) rfl dX9_doDrop_49 ?_
      refine lv_bipush (v := 7) hx hb dX9_doDrop_52 (by decide) ?_
      obtain ⟨hi, hF⟩ := rd_use hF
      refine va_iald hx hb hK hP 1 0 (pMd_1 cI b M) rfl hi dX9_doDrop_54 ?_
      refine lv_topi (fun v10 ev10 => ?_)
      have hF := hF v10 ev10
      refine lv_icmp_le (tgt := 62) hx hb dX9_doDrop_55 (by decide) (fun c11 => ?_) (fun c11 => ?_)
      · have hF := it_t hF c11
        refine lv_iload_n hx hb dX9_doDrop_62 rfl (lv_at hl 0 rfl) ?_
        refine lv_iconst (v := 2) hx hb dX9_doDrop_63 (by decide) ?_
        obtain ⟨hd, hF⟩ := dv_use hF
        refine lv_idiv hx hb dX9_doDrop_64 hd ?_
        refine lv_topi (fun v12 ev12 => ?_)
        have hF := hF v12 ev12
        exact j65 M x1 v12 _ _ _ hF hP hS (lv_sub hl [1, 2] rfl)
      · have hF := it_f hF c11
        refine lv_iload_n hx hb dX9_doDrop_58 rfl (lv_at hl 0 rfl) ?_
        refine lv_goto (tgt := 65) hx hb dX9_doDrop_59 (by decide) ?_
        exact j65 M x1 v7 _ _ _ hF hP hS (lv_sub hl [1, 2] rfl)
    · have hF := it_f hF c4
      refine lv_bipush (v := (-2)) hx hb dX9_doDrop_19 (by decide) ?_
      obtain ⟨er, eM⟩ := pr_use hF
      exact rt_I hx hb hr hlocks hS (by rw [← eM]; exact hP) er dX9_doDrop_21
  · have hF := it_t hF c2
    refine lv_iconst (v := (-1)) hx hb dX9_doDrop_8 (by decide) ?_
    obtain ⟨er, eM⟩ := pr_use hF
    exact rt_I hx hb hr hlocks hS (by rw [← eM]; exact hP) er dX9_doDrop_9

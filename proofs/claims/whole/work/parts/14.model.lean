noncomputable def fX9_isLate_j71  (x1 : Int32) (x2 : Int32) (ih : Int32 → Int32 → Option (Int32)) (M : Md) (x4 : Int32) (s0 : Int32) : Option (Int32) := nm (x4 + 1) fun v4 => ih s0 v4
noncomputable def fX9_isLate_j66  (x1 : Int32) (x2 : Int32) (ih : Int32 → Int32 → Option (Int32)) (M : Md) (x4 : Int32) : Option (Int32) := fX9_isLate_j71 x1 x2 ih M x4 1
noncomputable def fX9_isLate_j70  (x1 : Int32) (x2 : Int32) (ih : Int32 → Int32 → Option (Int32)) (M : Md) (x4 : Int32) : Option (Int32) := fX9_isLate_j71 x1 x2 ih M x4 0
noncomputable def fX9_isLate_l5  (M : Md) (x1 : Int32) (x2 : Int32) : Nat → Int32 → Int32 → Option (Int32) := fun fu => Nat.rec (motive := fun _ => Int32 → Int32 → Option (Int32)) (fun _ _ => none) (fun _ ih => fun x3 x4 => Rd (M.1) 1553 1 fun v1 => if v1 ≤ x4 then (Zb x3 (some x3)) else (if x3 = 0 then ((fX9_its M x4 0).bind fun r5 => if r5 = x1 then ((fX9_its M x4 3).bind fun r7 => if r7 = 0 then ((fX9_startOf M x4 x2).bind fun r9 => (fX9_its M x4 1).bind fun r10 => Rd (M.1) 1553 7 fun v11 => if (r9 - r10) ≤ v11 then (fX9_isLate_j70 x1 x2 ih M x4) else (fX9_isLate_j66 x1 x2 ih M x4)) else (fX9_isLate_j70 x1 x2 ih M x4)) else (fX9_isLate_j70 x1 x2 ih M x4)) else (fX9_isLate_j66 x1 x2 ih M x4))) fu
theorem fX9_isLate_l5_s  (M : Md) (x1 : Int32) (x2 : Int32) (fu : Nat) (x3 : Int32) (x4 : Int32) : fX9_isLate_l5 M x1 x2 (fu + 1) x3 x4 = (Rd (M.1) 1553 1 fun v1 => if v1 ≤ x4 then (Zb x3 (some x3)) else (if x3 = 0 then ((fX9_its M x4 0).bind fun r5 => if r5 = x1 then ((fX9_its M x4 3).bind fun r7 => if r7 = 0 then ((fX9_startOf M x4 x2).bind fun r9 => (fX9_its M x4 1).bind fun r10 => Rd (M.1) 1553 7 fun v11 => if (r9 - r10) ≤ v11 then (fX9_isLate_j70 x1 x2 (fX9_isLate_l5 M x1 x2 fu) M x4) else (fX9_isLate_j66 x1 x2 (fX9_isLate_l5 M x1 x2 fu) M x4)) else (fX9_isLate_j70 x1 x2 (fX9_isLate_l5 M x1 x2 fu) M x4)) else (fX9_isLate_j70 x1 x2 (fX9_isLate_l5 M x1 x2 fu) M x4)) else (fX9_isLate_j66 x1 x2 (fX9_isLate_l5 M x1 x2 fu) M x4))) := rfl
theorem fX9_isLate_l5_z  (M : Md) (x1 : Int32) (x2 : Int32) (x3 : Int32) (x4 : Int32) : fX9_isLate_l5 M x1 x2 0 x3 x4 = none := rfl
noncomputable def fX9_isLate  (M : Md) (x1 : Int32) (x2 : Int32) : Option (Int32) := fX9_isLate_l5 M x1 x2 FU 0 0
abbrev vX9_isLate : List Cond := Cond.code yX9_isLate cX9_isLate 5 (some .boolean) :: BIG
theorem gX9_isLate {own : String} {idx : Nat} (h : (Cond.methodLink own idx yX9_isLate) ∈ BIG) : GoodIn BIG (wsV own idx RX9 yX9_isLate vX9_isLate) := gdV h bw5_76 bs56 bw1_11 bw5_77
def rmX9_isLate : Room := { frames := 3, cells := 0, slots := 0, locals := 72 }
theorem hdX9_isLate : yX9_isLate.cls = RX9 ∧ yX9_isLate.cls ≠ "java/lang/invoke/MethodHandle" ∧ yX9_isLate.cls ≠ "java/lang/invoke/VarHandle" ∧ (parseMethodDescriptor yX9_isLate.desc).map (fun d => d.parameters.length) = some 2 := by decide +kernel
set_option maxHeartbeats 4000000 in
set_option maxRecDepth 100000 in
theorem kX9_isLate (l : Launch) (D : va_G) (cS : ClassId) (g : Nat → Nat) (cI : ClassId) (b : Nat → Nat) (M : Md) (x1 : Int32) (x2 : Int32) (r : Int32) (hF : fX9_isLate M x1 x2 = some r) : mI l yX9_isLate vX9_isLate rmX9_isLate D cI cS g [.ref (b 0), .int x1, .int x2] (wMd cI b M) r (wMd cI b M) := by
  refine st_I rfl (by decide) (Nat.le_of_ble_eq_true rfl) ?_
  intro p e s m args below meth c A ls hx hb hr hml hlocks hown hts hA hK hD0 hG hP hS hl
  have hown : s.vm.findClass RX9 = some m.cls := hown
  have hDa : ∀ M, va_D A (wMd cI b M) := fun M => hD0.adr rfl
  have htb : ∀ w ∈ BIG, w.before args s = true := fun w h => hts w (List.mem_cons_of_mem _ h)
  have hl : lv_has ls 5 [(0, .ref (b 0)), (1, .int x1), (2, .int x2)] := hl
  have l5 : ∀ (x1 : Int32) (x2 : Int32) (fu : Nat) (x3 : Int32) (x4 : Int32) (H : Heap) (locs : List Loc) (ls : Array Slot), fX9_isLate_l5 M x1 x2 fu x3 x4 = some r → va_P D vwCl (wMd cI b M) H → va_S A s.heap H locs → lv_has ls 5 [(0, .ref (b 0)), (1, .int x1), (2, .int x2), (3, .int x3), (4, .int x4)] → W p l e rmX9_isLate s m args below meth c H locs 0 0 (MQ below (qI D r (wMd cI b M) A) args s 0 0 A) (F0 m 5 ls []) := by
    intro x1 x2  fu
    induction fu with
    | zero => intro x3 x4 H locs ls hF; exact nn_use hF
    | succ fu ihn =>
      intro x3 x4 H locs ls hF hP hS hl 
      rw [fX9_isLate_l5_s] at hF
      have j71 : ∀ (x4 : Int32) (s0 : Int32) (H : Heap) (locs : List Loc) (ls : Array Slot), fX9_isLate_j71 x1 x2  (fX9_isLate_l5 M x1 x2 fu) M x4 s0 = some r → va_P D vwCl (wMd cI b M) H → va_S A s.heap H locs → lv_has ls 5 [(0, .ref (b 0)), (1, .int x1), (2, .int x2), (4, .int x4)] → W p l e rmX9_isLate s m args below meth c H locs 0 0 (MQ below (qI D r (wMd cI b M) A) args s 0 0 A) (F0 m 71 ls [.int s0]) := by
        intro x4 s0 H locs ls hF hP hS hl
        refine lv_istore_n (lv' := [(3, .int s0), (0, .ref (b 0)), (1, .int x1), (2, .int x2), (4, .int x4)]) hx hb dX9_isLate_71 rfl hl (by decide) rfl (fun ls hl => ?_)
        obtain ⟨v4, ev4⟩ : ∃ z : Int32, z = x4 + 1 := ⟨_, rfl⟩
        refine lv_iinc (v := v4) (lv' := [(4, .int v4), (3, .int s0), (0, .ref (b 0)), (1, .int x1), (2, .int x2)]) hx hb dX9_isLate_72 hl (k := 4) rfl (by rw [ev4]; rfl) (by decide) rfl (fun ls hl => ?_)
        have hF := nm_use hF ev4
        refine lv_goto (tgt := 5) hx hb dX9_isLate_75 (by decide) ?_
        exact ihn s0 v4 _ _ _ hF hP hS (lv_sub hl [2, 3, 4, 1, 0] rfl)
      have j66 : ∀ (x4 : Int32) (H : Heap) (locs : List Loc) (ls : Array Slot), fX9_isLate_j66 x1 x2  (fX9_isLate_l5 M x1 x2 fu) M x4 = some r → va_P D vwCl (wMd cI b M) H → va_S A s.heap H locs → lv_has ls 5 [(0, .ref (b 0)), (1, .int x1), (2, .int x2), (4, .int x4)] → W p l e rmX9_isLate s m args below meth c H locs 0 0 (MQ below (qI D r (wMd cI b M) A) args s 0 0 A) (F0 m 66 ls []) := by
        intro x4 H locs ls hF hP hS hl
        refine lv_iconst (v := 1) hx hb dX9_isLate_66 (by decide) ?_
        refine lv_goto (tgt := 71) hx hb dX9_isLate_67 (by decide) ?_
        exact j71 x4 1 _ _ _ hF hP hS (lv_sub hl [0, 1, 2, 3] rfl)
      have j70 : ∀ (x4 : Int32) (H : Heap) (locs : List Loc) (ls : Array Slot), fX9_isLate_j70 x1 x2  (fX9_isLate_l5 M x1 x2 fu) M x4 = some r → va_P D vwCl (wMd cI b M) H → va_S A s.heap H locs → lv_has ls 5 [(0, .ref (b 0)), (1, .int x1), (2, .int x2), (4, .int x4)] → W p l e rmX9_isLate s m args below meth c H locs 0 0 (MQ below (qI D r (wMd cI b M) A) args s 0 0 A) (F0 m 70 ls []) := by
        intro x4 H locs ls hF hP hS hl
        refine lv_iconst (v := 0) hx hb dX9_isLate_70 (by decide) ?_
        exact j71 x4 0 _ _ _ hF hP hS (lv_sub hl [0, 1, 2, 3] rfl)
      refine lv_iload hx hb dX9_isLate_5 (lv_at hl 4 rfl) ?_
      refine lv_aload_n hx hb dX9_isLate_7 rfl (lv_at hl 0 rfl) ?_
      refine va_get (ci := 9) (v := .ref (b 1)) (C := RX9) (T := TX9) (N := 10) hx hb htb kin9 hown hK hP 0 (pMd_0 cI b M) rfl 0 (by decide) (htb _ bw4_25) (fun _ h9 => h9) rfl dX9_isLate_8 ?_
      refine lv_iconst (v := 1) hx hb dX9_isLate_11 (by decide) ?_
      obtain ⟨hi, hF⟩ := rd_use hF
      refine va_iald hx hb hK hP 1 0 (pMd_1 cI b M) rfl hi dX9_isLate_12 ?_
      refine lv_topi (fun v1 ev1 => ?_)
      have hF := hF v1 ev1
      refine lv_icmp_ge (tgt := 78) hx hb dX9_isLate_13 (by decide) (fun c2 => ?_) (fun c2 => ?_)
      · have hF := it_t hF c2
        refine lv_iload_n hx hb dX9_isLate_78 rfl (lv_at hl 3 rfl) ?_
        obtain ⟨hz, hF⟩ := zb_use hF
        exact rt_Z hx hb hr hlocks hS hP hz (so_use hF) dX9_isLate_79
      · have hF := it_f hF c2
        refine lv_iload_n hx hb dX9_isLate_16 rfl (lv_at hl 3 rfl) ?_
        refine lv_if_ne (tgt := 66) hx hb dX9_isLate_17 (by decide) (fun c3 => ?_) (fun c3 => ?_)
        · have hF := it_f hF c3
          exact j66 x4 _ _ _ hF hP hS (lv_sub hl [0, 1, 2, 4] rfl)
        · have hF := it_t hF c3
          refine lv_aload_n hx hb dX9_isLate_20 rfl (lv_at hl 0 rfl) ?_
          refine lv_iload hx hb dX9_isLate_21 (lv_at hl 4 rfl) ?_
          refine lv_iconst (v := 0) hx hb dX9_isLate_23 (by decide) ?_
          obtain ⟨r5, hr5, hF⟩ := bd_use hF
          refine cl_VI ⟨hx, hb, hml, hown, htb⟩ (kX9_its l D cS g cI b M x4 0 _ hr5) (cwV 2 htb (gX9_its bw4_118) rfl rfl rfl hdX9_its ⟨Nat.le_of_ble_eq_true rfl, Nat.le_of_ble_eq_true rfl⟩) hK (hDa _) hG hA hP hS (sr_Md_Md cI b M) hl.1 rfl 0 (pMd_0 _ _ _) rfl rfl (Nat.le_of_ble_eq_true rfl) dX9_isLate_24 (fun H locs hP hS => ?_)
          refine lv_iload_n hx hb dX9_isLate_27 rfl (lv_at hl 1 rfl) ?_
          refine lv_icmp_ne (tgt := 70) hx hb dX9_isLate_28 (by decide) (fun c6 => ?_) (fun c6 => ?_)
          · have hF := it_f hF c6
            exact j70 x4 _ _ _ hF hP hS (lv_sub hl [0, 1, 2, 4] rfl)
          · have hF := it_t hF c6
            refine lv_aload_n hx hb dX9_isLate_31 rfl (lv_at hl 0 rfl) ?_
            refine lv_iload hx hb dX9_isLate_32 (lv_at hl 4 rfl) ?_
            refine lv_iconst (v := 3) hx hb dX9_isLate_34 (by decide) ?_
            obtain ⟨r7, hr7, hF⟩ := bd_use hF
            refine cl_VI ⟨hx, hb, hml, hown, htb⟩ (kX9_its l D cS g cI b M x4 3 _ hr7) (cwV 2 htb (gX9_its bw4_118) rfl rfl rfl hdX9_its ⟨Nat.le_of_ble_eq_true rfl, Nat.le_of_ble_eq_true rfl⟩) hK (hDa _) hG hA hP hS (sr_Md_Md cI b M) hl.1 rfl 0 (pMd_0 _ _ _) rfl rfl (Nat.le_of_ble_eq_true rfl) dX9_isLate_35 (fun H locs hP hS => ?_)
            refine lv_if_ne (tgt := 70) hx hb dX9_isLate_38 (by decide) (fun c8 => ?_) (fun c8 => ?_)
            · have hF := it_f hF c8
              exact j70 x4 _ _ _ hF hP hS (lv_sub hl [0, 1, 2, 4] rfl)
            · have hF := it_t hF c8
              refine lv_aload_n hx hb dX9_isLate_41 rfl (lv_at hl 0 rfl) ?_
              refine lv_iload hx hb dX9_isLate_42 (lv_at hl 4 rfl) ?_
              refine lv_iload_n hx hb dX9_isLate_44 rfl (lv_at hl 2 rfl) ?_
              obtain ⟨r9, hr9, hF⟩ := bd_use hF
              refine cl_VI ⟨hx, hb, hml, hown, htb⟩ (kX9_startOf l D cS g cI b M x4 x2 _ hr9) (cwV 2 htb (gX9_startOf bw4_149) rfl rfl rfl hdX9_startOf ⟨Nat.le_of_ble_eq_true rfl, Nat.le_of_ble_eq_true rfl⟩) hK (hDa _) hG hA hP hS (sr_Md_Md cI b M) hl.1 rfl 0 (pMd_0 _ _ _) rfl rfl (Nat.le_of_ble_eq_true rfl) dX9_isLate_45 (fun H locs hP hS => ?_)
              refine lv_aload_n hx hb dX9_isLate_48 rfl (lv_at hl 0 rfl) ?_
              refine lv_iload hx hb dX9_isLate_49 (lv_at hl 4 rfl) ?_
              refine lv_iconst (v := 1) hx hb dX9_isLate_51 (by decide) ?_
              obtain ⟨r10, hr10, hF⟩ := bd_use hF
              refine cl_VI ⟨hx, hb, hml, hown, htb⟩ (kX9_its l D cS g cI b M x4 1 _ hr10) (cwV 2 htb (gX9_its bw4_118) rfl rfl rfl hdX9_its ⟨Nat.le_of_ble_eq_true rfl, Nat.le_of_ble_eq_true rfl⟩) hK (hDa _) hG hA hP hS (sr_Md_Md cI b M) hl.1 rfl 0 (pMd_0 _ _ _) rfl rfl (Nat.le_of_ble_eq_true rfl) dX9_isLate_52 (fun H locs hP hS => ?_)
              refine lv_isub hx hb dX9_isLate_55 ?_
              refine lv_aload_n hx hb dX9_isLate_56 rfl (lv_at hl 0 rfl) ?_
              refine va_get (ci := 9) (v := .ref (b 1)) (C := RX9) (T := TX9) (N := 10) hx hb htb kin9 hown hK hP 0 (pMd_0 cI b M) rfl 0 (by decide) (htb _ bw4_25) (fun _ h9 => h9) rfl dX9_isLate_57 ?_
              refine lv_bipush (v := 7) hx hb dX9_isLate_60 (by decide) ?_
              obtain ⟨hi, hF⟩ := rd_use hF
              refine va_iald hx hb hK hP 1 0 (pMd_1 cI b M) rfl hi dX9_isLate_62 ?_
              refine lv_topi (fun v11 ev11 => ?_)
              have hF := hF v11 ev11
              refine lv_icmp_le (tgt := 70) hx hb dX9_isLate_63 (by decide) (fun c12 => ?_) (fun c12 => ?_)
              · have hF := it_t hF c12
                exact j70 x4 _ _ _ hF hP hS (lv_sub hl [0, 1, 2, 4] rfl)
              · have hF := it_f hF c12
                exact j66 x4 _ _ _ hF hP hS (lv_sub hl [0, 1, 2, 4] rfl)
  refine lv_iconst (v := 0) hx hb dX9_isLate_0 (by decide) ?_
  refine lv_istore_n (lv' := [(3, .int 0), (0, .ref (b 0)), (1, .int x1), (2, .int x2)]) hx hb dX9_isLate_1 rfl hl (by decide) rfl (fun ls hl => ?_)
  refine lv_iconst (v := 0) hx hb dX9_isLate_2 (by decide) ?_
  refine lv_istore (lv' := [(4, .int 0), (3, .int 0), (0, .ref (b 0)), (1, .int x1), (2, .int x2)]) hx hb dX9_isLate_3 hl (by decide) rfl (fun ls hl => ?_)
  refine l5 x1 x2  _ 0 0 _ _ _ hF hP hS (lv_sub hl [2, 3, 4, 1, 0] rfl)
noncomputable def fX9_slack_l35  (M : Md) (x1 : Int32) (kk : Int32 → Option (Int32)) : Nat → Int32 → Option (Int32) := fun fu => Nat.rec (motive := fun _ => Int32 → Option (Int32)) (fun _ => none) (fun _ ih => fun x2 => if 999 ≤ x2 then (kk x2) else ((fX9_isLate M x1 (x2 + 1)).bind fun r8 => if r8 = 0 then (nm (x2 + 1) fun v10 => ih v10) else (kk x2))) fu
theorem fX9_slack_l35_s  (M : Md) (x1 : Int32) (kk : Int32 → Option (Int32)) (fu : Nat) (x2 : Int32) : fX9_slack_l35 M x1 kk (fu + 1) x2 = (if 999 ≤ x2 then (kk x2) else ((fX9_isLate M x1 (x2 + 1)).bind fun r8 => if r8 = 0 then (nm (x2 + 1) fun v10 => (fX9_slack_l35 M x1 kk fu) v10) else (kk x2))) := rfl
theorem fX9_slack_l35_z  (M : Md) (x1 : Int32) (kk : Int32 → Option (Int32)) (x2 : Int32) : fX9_slack_l35 M x1 kk 0 x2 = none := rfl
noncomputable def fX9_slack  (M : Md) (x1 : Int32) : Option (Int32) := (fX9_isRoom M x1).bind fun r1 => if r1 = 0 then (some (-1)) else ((fX9_nextOf M x1 (-1)).bind fun r3 => if r3 = (-9) then (some (-9)) else ((fX9_isLate M x1 0).bind fun r5 => if r5 = 0 then (fX9_slack_l35 M x1 (fun y11 => some y11) FU 0) else (some (-9))))
abbrev vX9_slack : List Cond := Cond.code yX9_slack cX9_slack 3 (some .int) :: BIG
theorem gX9_slack {own : String} {idx : Nat} (h : (Cond.methodLink own idx yX9_slack) ∈ BIG) : GoodIn BIG (wsV own idx RX9 yX9_slack vX9_slack) := gdV h bw5_71 bw5_72 bw1_11 bw5_73
def rmX9_slack : Room := { frames := 4, cells := 0, slots := 0, locals := 96 }
theorem hdX9_slack : yX9_slack.cls = RX9 ∧ yX9_slack.cls ≠ "java/lang/invoke/MethodHandle" ∧ yX9_slack.cls ≠ "java/lang/invoke/VarHandle" ∧ (parseMethodDescriptor yX9_slack.desc).map (fun d => d.parameters.length) = some 1 := by decide +kernel
set_option maxHeartbeats 4000000 in
set_option maxRecDepth 100000 in
theorem kX9_slack (l : Launch) (D : va_G) (cS : ClassId) (g : Nat → Nat) (cI : ClassId) (b : Nat → Nat) (M : Md) (x1 : Int32) (r : Int32) (hF : fX9_slack M x1 = some r) : mI l yX9_slack vX9_slack rmX9_slack D cI cS g [.ref (b 0), .int x1] (wMd cI b M) r (wMd cI b M) := by
  refine st_I rfl (by decide) (Nat.le_of_ble_eq_true rfl) ?_
  intro p e s m args below meth c A ls hx hb hr hml hlocks hown hts hA hK hD0 hG hP hS hl
  have hown : s.vm.findClass RX9 = some m.cls := hown
  have hDa : ∀ M, va_D A (wMd cI b M) := fun M => hD0.adr rfl
  have htb : ∀ w ∈ BIG, w.before args s = true := fun w h => hts w (List.mem_cons_of_mem _ h)
  have hl : lv_has ls 3 [(0, .ref (b 0)), (1, .int x1)] := hl
  have l35 : ∀ (x1 : Int32) (kk : Int32 → Option (Int32)) (fu : Nat) (x2 : Int32) (H : Heap) (locs : List Loc) (ls : Array Slot), fX9_slack_l35 M x1 kk fu x2 = some r → va_P D vwCl (wMd cI b M) H → va_S A s.heap H locs → lv_has ls 3 [(0, .ref (b 0)), (1, .int x1), (2, .int x2)] → (∀ (x2 : Int32) (H : Heap) (locs : List Loc) (ls : Array Slot), kk x2 = some r → va_P D vwCl (wMd cI b M) H → va_S A s.heap H locs → lv_has ls 3 [(2, .int x2)] → W p l e rmX9_slack s m args below meth c H locs 0 0 (MQ below (qI D r (wMd cI b M) A) args s 0 0 A) (F0 m 59 ls [])) → W p l e rmX9_slack s m args below meth c H locs 0 0 (MQ below (qI D r (wMd cI b M) A) args s 0 0 A) (F0 m 35 ls []) := by
    intro x1 kk fu
    induction fu with
    | zero => intro x2 H locs ls hF; exact nn_use hF
    | succ fu ihn =>
      intro x2 H locs ls hF hP hS hl after
      rw [fX9_slack_l35_s] at hF
      refine lv_iload_n hx hb dX9_slack_35 rfl (lv_at hl 2 rfl) ?_
      refine lv_sipush (v := 999) hx hb dX9_slack_36 (by decide) ?_
      refine lv_icmp_ge (tgt := 59) hx hb dX9_slack_39 (by decide) (fun c7 => ?_) (fun c7 => ?_)
      · have hF := it_t hF c7
        exact after x2 _ _ _ hF hP hS (lv_sub hl [2] rfl)
      · have hF := it_f hF c7
        refine lv_aload_n hx hb dX9_slack_42 rfl (lv_at hl 0 rfl) ?_
        refine lv_iload_n hx hb dX9_slack_43 rfl (lv_at hl 1 rfl) ?_
        refine lv_iload_n hx hb dX9_slack_44 rfl (lv_at hl 2 rfl) ?_
        refine lv_iconst (v := 1) hx hb dX9_slack_45 (by decide) ?_
        refine lv_iadd hx hb dX9_slack_46 ?_
        obtain ⟨r8, hr8, hF⟩ := bd_use hF
        refine cl_VI ⟨hx, hb, hml, hown, htb⟩ (kX9_isLate l D cS g cI b M x1 (x2 + 1) _ hr8) (cwV 2 htb (gX9_isLate bw5_74) rfl rfl rfl hdX9_isLate ⟨Nat.le_of_ble_eq_true rfl, Nat.le_of_ble_eq_true rfl⟩) hK (hDa _) hG hA hP hS (sr_Md_Md cI b M) hl.1 rfl 0 (pMd_0 _ _ _) rfl rfl (Nat.le_of_ble_eq_true rfl) dX9_slack_47 (fun H locs hP hS => ?_)
        refine lv_if_ne (tgt := 59) hx hb dX9_slack_50 (by decide) (fun c9 => ?_) (fun c9 => ?_)
        · have hF := it_f hF c9
          exact after x2 _ _ _ hF hP hS (lv_sub hl [2] rfl)
        · have hF := it_t hF c9
          obtain ⟨v10, ev10⟩ : ∃ z : Int32, z = x2 + 1 := ⟨_, rfl⟩
          refine lv_iinc (v := v10) (lv' := [(2, .int v10), (0, .ref (b 0)), (1, .int x1)]) hx hb dX9_slack_53 hl (k := 2) rfl (by rw [ev10]; rfl) (by decide) rfl (fun ls hl => ?_)
          have hF := nm_use hF ev10
          refine lv_goto (tgt := 35) hx hb dX9_slack_56 (by decide) ?_
          exact ihn v10 _ _ _ hF hP hS (lv_sub hl [1, 2, 0] rfl) after
  refine lv_aload_n hx hb dX9_slack_0 rfl (lv_at hl 0 rfl) ?_
  refine lv_iload_n hx hb dX9_slack_1 rfl (lv_at hl 1 rfl) ?_
  obtain ⟨r1, hr1, hF⟩ := bd_use hF
  refine cl_VI ⟨hx, hb, hml, hown, htb⟩ (kX9_isRoom l D cS g cI b M x1 _ hr1) (cwV 1 htb (gX9_isRoom bw4_79) rfl rfl rfl hdX9_isRoom ⟨Nat.le_of_ble_eq_true rfl, Nat.le_of_ble_eq_true rfl⟩) hK (hDa _) hG hA hP hS (sr_Md_Md cI b M) hl.1 rfl 0 (pMd_0 _ _ _) rfl rfl (Nat.le_of_ble_eq_true rfl) dX9_slack_2 (fun H locs hP hS => ?_)
  refine lv_if_ne (tgt := 10) hx hb dX9_slack_5 (by decide) (fun c2 => ?_) (fun c2 => ?_)
  · have hF := it_f hF c2
    refine lv_aload_n hx hb dX9_slack_10 rfl (lv_at hl 0 rfl) ?_
    refine lv_iload_n hx hb dX9_slack_11 rfl (lv_at hl 1 rfl) ?_
    refine lv_iconst (v := (-1)) hx hb dX9_slack_12 (by decide) ?_
    obtain ⟨r3, hr3, hF⟩ := bd_use hF
    refine cl_VI ⟨hx, hb, hml, hown, htb⟩ (kX9_nextOf l D cS g cI b M x1 (-1) _ hr3) (cwV 2 htb (gX9_nextOf bw4_153) rfl rfl rfl hdX9_nextOf ⟨Nat.le_of_ble_eq_true rfl, Nat.le_of_ble_eq_true rfl⟩) hK (hDa _) hG hA hP hS (sr_Md_Md cI b M) hl.1 rfl 0 (pMd_0 _ _ _) rfl rfl (Nat.le_of_ble_eq_true rfl) dX9_slack_13 (fun H locs hP hS => ?_)
    refine lv_bipush (v := (-9)) hx hb dX9_slack_16 (by decide) ?_
    refine lv_icmp_eq (tgt := 30) hx hb dX9_slack_18 (by decide) (fun c4 => ?_) (fun c4 => ?_)
    · have hF := it_t hF c4
      refine lv_bipush (v := (-9)) hx hb dX9_slack_30 (by decide) ?_
      exact rt_I hx hb hr hlocks hS hP (so_use hF) dX9_slack_32
    · have hF := it_f hF c4
      refine lv_aload_n hx hb dX9_slack_21 rfl (lv_at hl 0 rfl) ?_
      refine lv_iload_n hx hb dX9_slack_22 rfl (lv_at hl 1 rfl) ?_
      refine lv_iconst (v := 0) hx hb dX9_slack_23 (by decide) ?_
      obtain ⟨r5, hr5, hF⟩ := bd_use hF
      refine cl_VI ⟨hx, hb, hml, hown, htb⟩ (kX9_isLate l D cS g cI b M x1 0 _ hr5) (cwV 2 htb (gX9_isLate bw5_74) rfl rfl rfl hdX9_isLate ⟨Nat.le_of_ble_eq_true rfl, Nat.le_of_ble_eq_true rfl⟩) hK (hDa _) hG hA hP hS (sr_Md_Md cI b M) hl.1 rfl 0 (pMd_0 _ _ _) rfl rfl (Nat.le_of_ble_eq_true rfl) dX9_slack_24 (fun H locs hP hS => ?_)
      refine lv_if_eq (tgt := 33) hx hb dX9_slack_27 (by decide) (fun c6 => ?_) (fun c6 => ?_)
      · have hF := it_t hF c6
        refine lv_iconst (v := 0) hx hb dX9_slack_33 (by decide) ?_
        refine lv_istore_n (lv' := [(2, .int 0), (0, .ref (b 0)), (1, .int x1)]) hx hb dX9_slack_34 rfl hl (by decide) rfl (fun ls hl => ?_)
        refine l35 x1 _ _ 0 _ _ _ hF hP hS (lv_sub hl [1, 2, 0] rfl) ?_
        · intro y11 H locs ls hF hP hS hl
          refine lv_iload_n hx hb dX9_slack_59 rfl (lv_at hl 0 rfl) ?_
          exact rt_I hx hb hr hlocks hS hP (so_use hF) dX9_slack_60
      · have hF := it_f hF c6
        refine lv_bipush (v := (-9)) hx hb dX9_slack_30 (by decide) ?_
        exact rt_I hx hb hr hlocks hS hP (so_use hF) dX9_slack_32
  · have hF := it_t hF c2
    refine lv_iconst (v := (-1)) hx hb dX9_slack_8 (by decide) ?_
    exact rt_I hx hb hr hlocks hS hP (so_use hF) dX9_slack_9
noncomputable def fX9_hintsFor_l63  (M : Md) (x2 : Int32) (x3 : Int32) (kk : Int32 → Option (Int32)) : Nat → Int32 → Option (Int32) := fun fu => Nat.rec (motive := fun _ => Int32 → Option (Int32)) (fun _ => none) (fun _ ih => fun x4 => if 20 ≤ x4 then (kk x4) else (Rd (M.1) 1553 4 fun v14 => if x3 < (x2 + ((x4 + 1) * v14)) then (kk x4) else (nm (x4 + 1) fun v16 => ih v16))) fu
theorem fX9_hintsFor_l63_s  (M : Md) (x2 : Int32) (x3 : Int32) (kk : Int32 → Option (Int32)) (fu : Nat) (x4 : Int32) : fX9_hintsFor_l63 M x2 x3 kk (fu + 1) x4 = (if 20 ≤ x4 then (kk x4) else (Rd (M.1) 1553 4 fun v14 => if x3 < (x2 + ((x4 + 1) * v14)) then (kk x4) else (nm (x4 + 1) fun v16 => (fX9_hintsFor_l63 M x2 x3 kk fu) v16))) := rfl
theorem fX9_hintsFor_l63_z  (M : Md) (x2 : Int32) (x3 : Int32) (kk : Int32 → Option (Int32)) (x4 : Int32) : fX9_hintsFor_l63 M x2 x3 kk 0 x4 = none := rfl
noncomputable def fX9_hintsFor  (M : Md) (x1 : Int32) (x2 : Int32) : Option (Int32) := (fX9_isBooking M x1).bind fun r1 => if r1 = 0 then (some (-1)) else ((fX9_its M x1 0).bind fun r3 => (fX9_of M r3 0).bind fun r4 => (fX9_in x2 1 r4).bind fun r5 => if r5 = 0 then (some (-1)) else ((fX9_its M x1 3).bind fun r7 => if r7 = 0 then ((fX9_its M x1 0).bind fun r9 => (fX9_of M r9 0).bind fun r10 => Rd (M.1) 1553 5 fun v11 => nm (r10 + v11) fun v12 => fX9_hintsFor_l63 M x2 v12 (fun y17 => some y17) FU 0) else (some (-2))))
abbrev vX9_hintsFor : List Cond := Cond.code yX9_hintsFor cX9_hintsFor 5 (some .int) :: BIG
theorem gX9_hintsFor {own : String} {idx : Nat} (h : (Cond.methodLink own idx yX9_hintsFor) ∈ BIG) : GoodIn BIG (wsV own idx RX9 yX9_hintsFor vX9_hintsFor) := gdV h bw5_79 bw5_80 bw1_11 bw5_81
def rmX9_hintsFor : Room := { frames := 1, cells := 0, slots := 0, locals := 22 }
theorem hdX9_hintsFor : yX9_hintsFor.cls = RX9 ∧ yX9_hintsFor.cls ≠ "java/lang/invoke/MethodHandle" ∧ yX9_hintsFor.cls ≠ "java/lang/invoke/VarHandle" ∧ (parseMethodDescriptor yX9_hintsFor.desc).map (fun d => d.parameters.length) = some 2 := by decide +kernel
set_option maxHeartbeats 4000000 in
set_option maxRecDepth 100000 in
theorem kX9_hintsFor (l : Launch) (D : va_G) (cS : ClassId) (g : Nat → Nat) (cI : ClassId) (b : Nat → Nat) (M : Md) (x1 : Int32) (x2 : Int32) (r : Int32) (hF : fX9_hintsFor M x1 x2 = some r) : mI l yX9_hintsFor vX9_hintsFor rmX9_hintsFor D cI cS g [.ref (b 0), .int x1, .int x2] (wMd cI b M) r (wMd cI b M) := by
  refine st_I rfl (by decide) (Nat.le_of_ble_eq_true rfl) ?_
  intro p e s m args below meth c A ls hx hb hr hml hlocks hown hts hA hK hD0 hG hP hS hl
  have hown : s.vm.findClass RX9 = some m.cls := hown
  have hDa : ∀ M, va_D A (wMd cI b M) := fun M => hD0.adr rfl
  have htb : ∀ w ∈ BIG, w.before args s = true := fun w h => hts w (List.mem_cons_of_mem _ h)
  have hl : lv_has ls 5 [(0, .ref (b 0)), (1, .int x1), (2, .int x2)] := hl
  have l63 : ∀ (x2 : Int32) (x3 : Int32) (kk : Int32 → Option (Int32)) (fu : Nat) (x4 : Int32) (H : Heap) (locs : List Loc) (ls : Array Slot), fX9_hintsFor_l63 M x2 x3 kk fu x4 = some r → va_P D vwCl (wMd cI b M) H → va_S A s.heap H locs → lv_has ls 5 [(0, .ref (b 0)), (2, .int x2), (3, .int x3), (4, .int x4)] → (∀ (x4 : Int32) (H : Heap) (locs : List Loc) (ls : Array Slot), kk x4 = some r → va_P D vwCl (wMd cI b M) H → va_S A s.heap H locs → lv_has ls 5 [(4, .int x4)] → W p l e rmX9_hintsFor s m args below meth c H locs 0 0 (MQ below (qI D r (wMd cI b M) A) args s 0 0 A) (F0 m 93 ls [])) → W p l e rmX9_hintsFor s m args below meth c H locs 0 0 (MQ below (qI D r (wMd cI b M) A) args s 0 0 A) (F0 m 63 ls []) := by
    intro x2 x3 kk fu
    induction fu with
    | zero => intro x4 H locs ls hF; exact nn_use hF
    | succ fu ihn =>
      intro x4 H locs ls hF hP hS hl after
      rw [fX9_hintsFor_l63_s] at hF
      refine lv_iload hx hb dX9_hintsFor_63 (lv_at hl 3 rfl) ?_
      refine lv_bipush (v := 20) hx hb dX9_hintsFor_65 (by decide) ?_
      refine lv_icmp_ge (tgt := 93) hx hb dX9_hintsFor_67 (by decide) (fun c13 => ?_) (fun c13 => ?_)
      · have hF := it_t hF c13
        exact after x4 _ _ _ hF hP hS (lv_sub hl [3] rfl)
      · have hF := it_f hF c13
        refine lv_iload_n hx hb dX9_hintsFor_70 rfl (lv_at hl 1 rfl) ?_
        refine lv_iload hx hb dX9_hintsFor_71 (lv_at hl 3 rfl) ?_
        refine lv_iconst (v := 1) hx hb dX9_hintsFor_73 (by decide) ?_
        refine lv_iadd hx hb dX9_hintsFor_74 ?_
        refine lv_aload_n hx hb dX9_hintsFor_75 rfl (lv_at hl 0 rfl) ?_
        refine va_get (ci := 9) (v := .ref (b 1)) (C := RX9) (T := TX9) (N := 10) hx hb htb kin9 hown hK hP 0 (pMd_0 cI b M) rfl 0 (by decide) (htb _ bw4_25) (fun _ h9 => h9) rfl dX9_hintsFor_76 ?_
        refine lv_iconst (v := 4) hx hb dX9_hintsFor_79 (by decide) ?_
        obtain ⟨hi, hF⟩ := rd_use hF
        refine va_iald hx hb hK hP 1 0 (pMd_1 cI b M) rfl hi dX9_hintsFor_80 ?_
        refine lv_topi (fun v14 ev14 => ?_)
        have hF := hF v14 ev14
        refine lv_imul hx hb dX9_hintsFor_81 ?_
        refine lv_iadd hx hb dX9_hintsFor_82 ?_
        refine lv_iload_n hx hb dX9_hintsFor_83 rfl (lv_at hl 2 rfl) ?_
        refine lv_icmp_gt (tgt := 93) hx hb dX9_hintsFor_84 (by decide) (fun c15 => ?_) (fun c15 => ?_)
        · have hF := it_t hF c15
          exact after x4 _ _ _ hF hP hS (lv_sub hl [3] rfl)
        · have hF := it_f hF c15
          obtain ⟨v16, ev16⟩ : ∃ z : Int32, z = x4 + 1 := ⟨_, rfl⟩
          refine lv_iinc (v := v16) (lv' := [(4, .int v16), (0, .ref (b 0)), (2, .int x2), (3, .int x3)]) hx hb dX9_hintsFor_87 hl (k := 3) rfl (by rw [ev16]; rfl) (by decide) rfl (fun ls hl => ?_)
          have hF := nm_use hF ev16
          refine lv_goto (tgt := 63) hx hb dX9_hintsFor_90 (by decide) ?_
          exact ihn v16 _ _ _ hF hP hS (lv_sub hl [1, 2, 3, 0] rfl) after
  refine lv_aload_n hx hb dX9_hintsFor_0 rfl (lv_at hl 0 rfl) ?_
  refine lv_iload_n hx hb dX9_hintsFor_1 rfl (lv_at hl 1 rfl) ?_
  obtain ⟨r1, hr1, hF⟩ := bd_use hF
  refine cl_VI ⟨hx, hb, hml, hown, htb⟩ (kX9_isBooking l D cS g cI b M x1 _ hr1) (cwV 1 htb (gX9_isBooking bw4_133) rfl rfl rfl hdX9_isBooking ⟨Nat.le_of_ble_eq_true rfl, Nat.le_of_ble_eq_true rfl⟩) hK (hDa _) hG hA hP hS (sr_Md_Md cI b M) hl.1 rfl 0 (pMd_0 _ _ _) rfl rfl (Nat.le_of_ble_eq_true rfl) dX9_hintsFor_2 (fun H locs hP hS => ?_)
  refine lv_if_eq (tgt := 27) hx hb dX9_hintsFor_5 (by decide) (fun c2 => ?_) (fun c2 => ?_)
  · have hF := it_t hF c2
    refine lv_iconst (v := (-1)) hx hb dX9_hintsFor_27 (by decide) ?_
    exact rt_I hx hb hr hlocks hS hP (so_use hF) dX9_hintsFor_28
  · have hF := it_f hF c2
    refine lv_iload_n hx hb dX9_hintsFor_8 rfl (lv_at hl 2 rfl) ?_
    refine lv_iconst (v := 1) hx hb dX9_hintsFor_9 (by decide) ?_
    refine lv_aload_n hx hb dX9_hintsFor_10 rfl (lv_at hl 0 rfl) ?_
    refine lv_aload_n hx hb dX9_hintsFor_11 rfl (lv_at hl 0 rfl) ?_
    refine lv_iload_n hx hb dX9_hintsFor_12 rfl (lv_at hl 1 rfl) ?_
    refine lv_iconst (v := 0) hx hb dX9_hintsFor_13 (by decide) ?_
    obtain ⟨r3, hr3, hF⟩ := bd_use hF
    refine cl_VI ⟨hx, hb, hml, hown, htb⟩ (kX9_its l D cS g cI b M x1 0 _ hr3) (cwV 2 htb (gX9_its bw4_118) rfl rfl rfl hdX9_its ⟨Nat.le_of_ble_eq_true rfl, Nat.le_of_ble_eq_true rfl⟩) hK (hDa _) hG hA hP hS (sr_Md_Md cI b M) hl.1 rfl 0 (pMd_0 _ _ _) rfl rfl (Nat.le_of_ble_eq_true rfl) dX9_hintsFor_14 (fun H locs hP hS => ?_)
    refine lv_iconst (v := 0) hx hb dX9_hintsFor_17 (by decide) ?_
    obtain ⟨r4, hr4, hF⟩ := bd_use hF
    refine cl_VI ⟨hx, hb, hml, hown, htb⟩ (kX9_of l D cS g cI b M r3 0 _ hr4) (cwV 2 htb (gX9_of bw4_83) rfl rfl rfl hdX9_of ⟨Nat.le_of_ble_eq_true rfl, Nat.le_of_ble_eq_true rfl⟩) hK (hDa _) hG hA hP hS (sr_Md_Md cI b M) hl.1 rfl 0 (pMd_0 _ _ _) rfl rfl (Nat.le_of_ble_eq_true rfl) dX9_hintsFor_18 (fun H locs hP hS => ?_)
    obtain ⟨r5, hr5, hF⟩ := bd_use hF
    refine cl_SI ⟨hx, hb, hml, hown, htb⟩ (kX9_in l D cS g cI x2 1 r4 _ hr5) (va_cwS 3 htb (gX9_in bw4_68) rfl rfl rfl hdX9_in ⟨Nat.le_of_ble_eq_true rfl, Nat.le_of_ble_eq_true rfl⟩) hK (hDa _) hG hA hP hS sg_nil hl.1 rfl rfl (Nat.le_of_ble_eq_true rfl) dX9_hintsFor_21 (fun H locs hP hS => ?_)
    refine lv_if_ne (tgt := 29) hx hb dX9_hintsFor_24 (by decide) (fun c6 => ?_) (fun c6 => ?_)
    · have hF := it_f hF c6
      refine lv_aload_n hx hb dX9_hintsFor_29 rfl (lv_at hl 0 rfl) ?_
      refine lv_iload_n hx hb dX9_hintsFor_30 rfl (lv_at hl 1 rfl) ?_
      refine lv_iconst (v := 3) hx hb dX9_hintsFor_31 (by decide) ?_
      obtain ⟨r7, hr7, hF⟩ := bd_use hF
      refine cl_VI ⟨hx, hb, hml, hown, htb⟩ (kX9_its l D cS g cI b M x1 3 _ hr7) (cwV 2 htb (gX9_its bw4_118) rfl rfl rfl hdX9_its ⟨Nat.le_of_ble_eq_true rfl, Nat.le_of_ble_eq_true rfl⟩) hK (hDa _) hG hA hP hS (sr_Md_Md cI b M) hl.1 rfl 0 (pMd_0 _ _ _) rfl rfl (Nat.le_of_ble_eq_true rfl) dX9_hintsFor_32 (fun H locs hP hS => ?_)
      refine lv_if_eq (tgt := 41) hx hb dX9_hintsFor_35 (by decide) (fun c8 => ?_) (fun c8 => ?_)
      · have hF := it_t hF c8
        refine lv_aload_n hx hb dX9_hintsFor_41 rfl (lv_at hl 0 rfl) ?_
        refine lv_aload_n hx hb dX9_hintsFor_42 rfl (lv_at hl 0 rfl) ?_
        refine lv_iload_n hx hb dX9_hintsFor_43 rfl (lv_at hl 1 rfl) ?_
        refine lv_iconst (v := 0) hx hb dX9_hintsFor_44 (by decide) ?_
        obtain ⟨r9, hr9, hF⟩ := bd_use hF
        refine cl_VI ⟨hx, hb, hml, hown, htb⟩ (kX9_its l D cS g cI b M x1 0 _ hr9) (cwV 2 htb (gX9_its bw4_118) rfl rfl rfl hdX9_its ⟨Nat.le_of_ble_eq_true rfl, Nat.le_of_ble_eq_true rfl⟩) hK (hDa _) hG hA hP hS (sr_Md_Md cI b M) hl.1 rfl 0 (pMd_0 _ _ _) rfl rfl (Nat.le_of_ble_eq_true rfl) dX9_hintsFor_45 (fun H locs hP hS => ?_)
        refine lv_iconst (v := 0) hx hb dX9_hintsFor_48 (by decide) ?_
        obtain ⟨r10, hr10, hF⟩ := bd_use hF
        refine cl_VI ⟨hx, hb, hml, hown, htb⟩ (kX9_of l D cS g cI b M r9 0 _ hr10) (cwV 2 htb (gX9_of bw4_83) rfl rfl rfl hdX9_of ⟨Nat.le_of_ble_eq_true rfl, Nat.le_of_ble_eq_true rfl⟩) hK (hDa _) hG hA hP hS (sr_Md_Md cI b M) hl.1 rfl 0 (pMd_0 _ _ _) rfl rfl (Nat.le_of_ble_eq_true rfl) dX9_hintsFor_49 (fun H locs hP hS => ?_)
        refine lv_aload_n hx hb dX9_hintsFor_52 rfl (lv_at hl 0 rfl) ?_
        refine va_get (ci := 9) (v := .ref (b 1)) (C := RX9) (T := TX9) (N := 10) hx hb htb kin9 hown hK hP 0 (pMd_0 cI b M) rfl 0 (by decide) (htb _ bw4_25) (fun _ h9 => h9) rfl dX9_hintsFor_53 ?_
        refine lv_iconst (v := 5) hx hb dX9_hintsFor_56 (by decide) ?_
        obtain ⟨hi, hF⟩ := rd_use hF
        refine va_iald hx hb hK hP 1 0 (pMd_1 cI b M) rfl hi dX9_hintsFor_57 ?_
        refine lv_topi (fun v11 ev11 => ?_)
        have hF := hF v11 ev11
        refine lv_iadd hx hb dX9_hintsFor_58 ?_
        refine lv_topi (fun v12 ev12 => ?_)
        have hF := nm_use hF ev12
        refine lv_istore_n (lv' := [(3, .int v12), (0, .ref (b 0)), (1, .int x1), (2, .int x2)]) hx hb dX9_hintsFor_59 rfl hl (by decide) rfl (fun ls hl => ?_)
        refine lv_iconst (v := 0) hx hb dX9_hintsFor_60 (by decide) ?_
        refine lv_istore (lv' := [(4, .int 0), (3, .int v12), (0, .ref (b 0)), (1, .int x1), (2, .int x2)]) hx hb dX9_hintsFor_61 hl (by decide) rfl (fun ls hl => ?_)
        refine l63 x2 v12 _ _ 0 _ _ _ hF hP hS (lv_sub hl [2, 4, 1, 0] rfl) ?_
        · intro y17 H locs ls hF hP hS hl
          refine lv_iload hx hb dX9_hintsFor_93 (lv_at hl 0 rfl) ?_
          exact rt_I hx hb hr hlocks hS hP (so_use hF) dX9_hintsFor_95
      · have hF := it_f hF c8
        refine lv_bipush (v := (-2)) hx hb dX9_hintsFor_38 (by decide) ?_
        exact rt_I hx hb hr hlocks hS hP (so_use hF) dX9_hintsFor_40
    · have hF := it_t hF c6
      refine lv_iconst (v := (-1)) hx hb dX9_hintsFor_27 (by decide) ?_
      exact rt_I hx hb hr hlocks hS hP (so_use hF) dX9_hintsFor_28
noncomputable def fX9_busiest_j82  (x1 : Int32) (x2 : Int32) (kk : Int32 → Option (Int32)) (ih : Int32 → Int32 → Option (Int32)) (M : Md) (x4 : Int32) (s0 : Int32) (s1 : Int32) : Option (Int32) := nm (s0 + s1) fun v9 => nm (x4 + 1) fun v10 => ih v9 v10
noncomputable def fX9_busiest_j77  (x1 : Int32) (x2 : Int32) (kk : Int32 → Option (Int32)) (ih : Int32 → Int32 → Option (Int32)) (M : Md) (x4 : Int32) (s0 : Int32) : Option (Int32) := fX9_busiest_j82 x1 x2 kk ih M x4 s0 1
noncomputable def fX9_busiest_j81  (x1 : Int32) (x2 : Int32) (kk : Int32 → Option (Int32)) (ih : Int32 → Int32 → Option (Int32)) (M : Md) (x4 : Int32) (s0 : Int32) : Option (Int32) := fX9_busiest_j82 x1 x2 kk ih M x4 s0 0
noncomputable def fX9_busiest_l23  (M : Md) (x1 : Int32) (x2 : Int32) (kk : Int32 → Option (Int32)) : Nat → Int32 → Int32 → Option (Int32) := fun fu => Nat.rec (motive := fun _ => Int32 → Int32 → Option (Int32)) (fun _ _ => none) (fun _ ih => fun x3 x4 => Rd (M.1) 1553 0 fun v4 => if v4 ≤ x4 then (kk x3) else ((fX9_of M x4 8).bind fun r6 => (fX9_of M x2 8).bind fun r7 => if r7 < r6 then (fX9_busiest_j77 x1 x2 kk ih M x4 x3) else ((fX9_of M x4 8).bind fun r11 => (fX9_of M x2 8).bind fun r12 => if r11 = r12 then (if x2 ≤ x4 then (fX9_busiest_j81 x1 x2 kk ih M x4 x3) else (fX9_busiest_j77 x1 x2 kk ih M x4 x3)) else (fX9_busiest_j81 x1 x2 kk ih M x4 x3)))) fu
theorem fX9_busiest_l23_s  (M : Md) (x1 : Int32) (x2 : Int32) (kk : Int32 → Option (Int32)) (fu : Nat) (x3 : Int32) (x4 : Int32) : fX9_busiest_l23 M x1 x2 kk (fu + 1) x3 x4 = (Rd (M.1) 1553 0 fun v4 => if v4 ≤ x4 then (kk x3) else ((fX9_of M x4 8).bind fun r6 => (fX9_of M x2 8).bind fun r7 => if r7 < r6 then (fX9_busiest_j77 x1 x2 kk (fX9_busiest_l23 M x1 x2 kk fu) M x4 x3) else ((fX9_of M x4 8).bind fun r11 => (fX9_of M x2 8).bind fun r12 => if r11 = r12 then (if x2 ≤ x4 then (fX9_busiest_j81 x1 x2 kk (fX9_busiest_l23 M x1 x2 kk fu) M x4 x3) else (fX9_busiest_j77 x1 x2 kk (fX9_busiest_l23 M x1 x2 kk fu) M x4 x3)) else (fX9_busiest_j81 x1 x2 kk (fX9_busiest_l23 M x1 x2 kk fu) M x4 x3)))) := rfl
theorem fX9_busiest_l23_z  (M : Md) (x1 : Int32) (x2 : Int32) (kk : Int32 → Option (Int32)) (x3 : Int32) (x4 : Int32) : fX9_busiest_l23 M x1 x2 kk 0 x3 x4 = none := rfl
noncomputable def fX9_busiest_l8  (M : Md) (x1 : Int32) : Nat → Int32 → Option (Int32) := fun fu => Nat.rec (motive := fun _ => Int32 → Option (Int32)) (fun _ => none) (fun _ ih => fun x2 => Rd (M.1) 1553 0 fun v2 => if v2 ≤ x2 then (some (-9)) else (fX9_busiest_l23 M x1 x2 (fun y15 => if y15 = x1 then (some x2) else (nm (x2 + 1) fun v17 => ih v17)) FU 0 0)) fu
theorem fX9_busiest_l8_s  (M : Md) (x1 : Int32) (fu : Nat) (x2 : Int32) : fX9_busiest_l8 M x1 (fu + 1) x2 = (Rd (M.1) 1553 0 fun v2 => if v2 ≤ x2 then (some (-9)) else (fX9_busiest_l23 M x1 x2 (fun y15 => if y15 = x1 then (some x2) else (nm (x2 + 1) fun v17 => (fX9_busiest_l8 M x1 fu) v17)) FU 0 0)) := rfl
theorem fX9_busiest_l8_z  (M : Md) (x1 : Int32) (x2 : Int32) : fX9_busiest_l8 M x1 0 x2 = none := rfl
noncomputable def fX9_busiest  (M : Md) (x1 : Int32) : Option (Int32) := if 0 ≤ x1 then (fX9_busiest_l8 M x1 FU 0) else (some (-1))
abbrev vX9_busiest : List Cond := Cond.code yX9_busiest cX9_busiest 5 (some .int) :: BIG
theorem gX9_busiest {own : String} {idx : Nat} (h : (Cond.methodLink own idx yX9_busiest) ∈ BIG) : GoodIn BIG (wsV own idx RX9 yX9_busiest vX9_busiest) := gdV h bw5_83 bw5_84 bw1_11 bw5_85
def rmX9_busiest : Room := { frames := 1, cells := 0, slots := 0, locals := 22 }
theorem hdX9_busiest : yX9_busiest.cls = RX9 ∧ yX9_busiest.cls ≠ "java/lang/invoke/MethodHandle" ∧ yX9_busiest.cls ≠ "java/lang/invoke/VarHandle" ∧ (parseMethodDescriptor yX9_busiest.desc).map (fun d => d.parameters.length) = some 1 := by decide +kernel
set_option maxHeartbeats 4000000 in
set_option maxRecDepth 100000 in
theorem kX9_busiest (l : Launch) (D : va_G) (cS : ClassId) (g : Nat → Nat) (cI : ClassId) (b : Nat → Nat) (M : Md) (x1 : Int32) (r : Int32) (hF : fX9_busiest M x1 = some r) : mI l yX9_busiest vX9_busiest rmX9_busiest D cI cS g [.ref (b 0), .int x1] (wMd cI b M) r (wMd cI b M) := by
  refine st_I rfl (by decide) (Nat.le_of_ble_eq_true rfl) ?_
  intro p e s m args below meth c A ls hx hb hr hml hlocks hown hts hA hK hD0 hG hP hS hl
  have hown : s.vm.findClass RX9 = some m.cls := hown
  have hDa : ∀ M, va_D A (wMd cI b M) := fun M => hD0.adr rfl
  have htb : ∀ w ∈ BIG, w.before args s = true := fun w h => hts w (List.mem_cons_of_mem _ h)
  have hl : lv_has ls 5 [(0, .ref (b 0)), (1, .int x1)] := hl
  have l23 : ∀ (x1 : Int32) (x2 : Int32) (kk : Int32 → Option (Int32)) (fu : Nat) (x3 : Int32) (x4 : Int32) (H : Heap) (locs : List Loc) (ls : Array Slot), fX9_busiest_l23 M x1 x2 kk fu x3 x4 = some r → va_P D vwCl (wMd cI b M) H → va_S A s.heap H locs → lv_has ls 5 [(0, .ref (b 0)), (1, .int x1), (2, .int x2), (3, .int x3), (4, .int x4)] → (∀ (x3 : Int32) (H : Heap) (locs : List Loc) (ls : Array Slot), kk x3 = some r → va_P D vwCl (wMd cI b M) H → va_S A s.heap H locs → lv_has ls 5 [(0, .ref (b 0)), (1, .int x1), (2, .int x2), (3, .int x3)] → W p l e rmX9_busiest s m args below meth c H locs 0 0 (MQ below (qI D r (wMd cI b M) A) args s 0 0 A) (F0 m 90 ls [])) → W p l e rmX9_busiest s m args below meth c H locs 0 0 (MQ below (qI D r (wMd cI b M) A) args s 0 0 A) (F0 m 23 ls []) := by
    intro x1 x2 kk fu
    induction fu with
    | zero => intro x3 x4 H locs ls hF; exact nn_use hF
    | succ fu ihn =>
      intro x3 x4 H locs ls hF hP hS hl after
      rw [fX9_busiest_l23_s] at hF
      have j82 : ∀ (x4 : Int32) (s0 : Int32) (s1 : Int32) (H : Heap) (locs : List Loc) (ls : Array Slot), fX9_busiest_j82 x1 x2 kk (fX9_busiest_l23 M x1 x2 kk fu) M x4 s0 s1 = some r → va_P D vwCl (wMd cI b M) H → va_S A s.heap H locs → lv_has ls 5 [(0, .ref (b 0)), (1, .int x1), (2, .int x2), (4, .int x4)] → W p l e rmX9_busiest s m args below meth c H locs 0 0 (MQ below (qI D r (wMd cI b M) A) args s 0 0 A) (F0 m 82 ls [.int s1, .int s0]) := by
        intro x4 s0 s1 H locs ls hF hP hS hl
        refine lv_iadd hx hb dX9_busiest_82 ?_
        refine lv_topi (fun v9 ev9 => ?_)
        have hF := nm_use hF ev9
        refine lv_istore_n (lv' := [(3, .int v9), (0, .ref (b 0)), (1, .int x1), (2, .int x2), (4, .int x4)]) hx hb dX9_busiest_83 rfl hl (by decide) rfl (fun ls hl => ?_)
        obtain ⟨v10, ev10⟩ : ∃ z : Int32, z = x4 + 1 := ⟨_, rfl⟩
        refine lv_iinc (v := v10) (lv' := [(4, .int v10), (3, .int v9), (0, .ref (b 0)), (1, .int x1), (2, .int x2)]) hx hb dX9_busiest_84 hl (k := 4) rfl (by rw [ev10]; rfl) (by decide) rfl (fun ls hl => ?_)
        have hF := nm_use hF ev10
        refine lv_goto (tgt := 23) hx hb dX9_busiest_87 (by decide) ?_
        exact ihn v9 v10 _ _ _ hF hP hS (lv_sub hl [2, 3, 4, 1, 0] rfl) after
      have j77 : ∀ (x4 : Int32) (s0 : Int32) (H : Heap) (locs : List Loc) (ls : Array Slot), fX9_busiest_j77 x1 x2 kk (fX9_busiest_l23 M x1 x2 kk fu) M x4 s0 = some r → va_P D vwCl (wMd cI b M) H → va_S A s.heap H locs → lv_has ls 5 [(0, .ref (b 0)), (1, .int x1), (2, .int x2), (4, .int x4)] → W p l e rmX9_busiest s m args below meth c H locs 0 0 (MQ below (qI D r (wMd cI b M) A) args s 0 0 A) (F0 m 77 ls [.int s0]) := by
        intro x4 s0 H locs ls hF hP hS hl
        refine lv_iconst (v := 1) hx hb dX9_busiest_77 (by decide) ?_
        refine lv_goto (tgt := 82) hx hb dX9_busiest_78 (by decide) ?_
        exact j82 x4 s0 1 _ _ _ hF hP hS (lv_sub hl [0, 1, 2, 3] rfl)
      have j81 : ∀ (x4 : Int32) (s0 : Int32) (H : Heap) (locs : List Loc) (ls : Array Slot), fX9_busiest_j81 x1 x2 kk (fX9_busiest_l23 M x1 x2 kk fu) M x4 s0 = some r → va_P D vwCl (wMd cI b M) H → va_S A s.heap H locs → lv_has ls 5 [(0, .ref (b 0)), (1, .int x1), (2, .int x2), (4, .int x4)] → W p l e rmX9_busiest s m args below meth c H locs 0 0 (MQ below (qI D r (wMd cI b M) A) args s 0 0 A) (F0 m 81 ls [.int s0]) := by
        intro x4 s0 H locs ls hF hP hS hl
        refine lv_iconst (v := 0) hx hb dX9_busiest_81 (by decide) ?_
        exact j82 x4 s0 0 _ _ _ hF hP hS (lv_sub hl [0, 1, 2, 3] rfl)
      refine lv_iload hx hb dX9_busiest_23 (lv_at hl 4 rfl) ?_
      refine lv_aload_n hx hb dX9_busiest_25 rfl (lv_at hl 0 rfl) ?_
      refine va_get (ci := 9) (v := .ref (b 1)) (C := RX9) (T := TX9) (N := 10) hx hb htb kin9 hown hK hP 0 (pMd_0 cI b M) rfl 0 (by decide) (htb _ bw4_25) (fun _ h9 => h9) rfl dX9_busiest_26 ?_
      refine lv_iconst (v := 0) hx hb dX9_busiest_29 (by decide) ?_
      obtain ⟨hi, hF⟩ := rd_use hF
      refine va_iald hx hb hK hP 1 0 (pMd_1 cI b M) rfl hi dX9_busiest_30 ?_
      refine lv_topi (fun v4 ev4 => ?_)
      have hF := hF v4 ev4
      refine lv_icmp_ge (tgt := 90) hx hb dX9_busiest_31 (by decide) (fun c5 => ?_) (fun c5 => ?_)
      · have hF := it_t hF c5
        exact after x3 _ _ _ hF hP hS (lv_sub hl [0, 1, 2, 3] rfl)
      · have hF := it_f hF c5
        refine lv_iload_n hx hb dX9_busiest_34 rfl (lv_at hl 3 rfl) ?_
        refine lv_aload_n hx hb dX9_busiest_35 rfl (lv_at hl 0 rfl) ?_
        refine lv_iload hx hb dX9_busiest_36 (lv_at hl 4 rfl) ?_
        refine lv_bipush (v := 8) hx hb dX9_busiest_38 (by decide) ?_
        obtain ⟨r6, hr6, hF⟩ := bd_use hF
        refine cl_VI ⟨hx, hb, hml, hown, htb⟩ (kX9_of l D cS g cI b M x4 8 _ hr6) (cwV 2 htb (gX9_of bw4_83) rfl rfl rfl hdX9_of ⟨Nat.le_of_ble_eq_true rfl, Nat.le_of_ble_eq_true rfl⟩) hK (hDa _) hG hA hP hS (sr_Md_Md cI b M) hl.1 rfl 0 (pMd_0 _ _ _) rfl rfl (Nat.le_of_ble_eq_true rfl) dX9_busiest_40 (fun H locs hP hS => ?_)
        refine lv_aload_n hx hb dX9_busiest_43 rfl (lv_at hl 0 rfl) ?_
        refine lv_iload_n hx hb dX9_busiest_44 rfl (lv_at hl 2 rfl) ?_
        refine lv_bipush (v := 8) hx hb dX9_busiest_45 (by decide) ?_
        obtain ⟨r7, hr7, hF⟩ := bd_use hF
        refine cl_VI ⟨hx, hb, hml, hown, htb⟩ (kX9_of l D cS g cI b M x2 8 _ hr7) (cwV 2 htb (gX9_of bw4_83) rfl rfl rfl hdX9_of ⟨Nat.le_of_ble_eq_true rfl, Nat.le_of_ble_eq_true rfl⟩) hK (hDa _) hG hA hP hS (sr_Md_Md cI b M) hl.1 rfl 0 (pMd_0 _ _ _) rfl rfl (Nat.le_of_ble_eq_true rfl) dX9_busiest_47 (fun H locs hP hS => ?_)
        refine lv_icmp_gt (tgt := 77) hx hb dX9_busiest_50 (by decide) (fun c8 => ?_) (fun c8 => ?_)
        · have hF := it_t hF c8
          exact j77 x4 x3 _ _ _ hF hP hS (lv_sub hl [0, 1, 2, 4] rfl)
        · have hF := it_f hF c8
          refine lv_aload_n hx hb dX9_busiest_53 rfl (lv_at hl 0 rfl) ?_
          refine lv_iload hx hb dX9_busiest_54 (lv_at hl 4 rfl) ?_
          refine lv_bipush (v := 8) hx hb dX9_busiest_56 (by decide) ?_
          obtain ⟨r11, hr11, hF⟩ := bd_use hF
          refine cl_VI ⟨hx, hb, hml, hown, htb⟩ (kX9_of l D cS g cI b M x4 8 _ hr11) (cwV 2 htb (gX9_of bw4_83) rfl rfl rfl hdX9_of ⟨Nat.le_of_ble_eq_true rfl, Nat.le_of_ble_eq_true rfl⟩) hK (hDa _) hG hA hP hS (sr_Md_Md cI b M) hl.1 rfl 0 (pMd_0 _ _ _) rfl rfl (Nat.le_of_ble_eq_true rfl) dX9_busiest_58 (fun H locs hP hS => ?_)
          refine lv_aload_n hx hb dX9_busiest_61 rfl (lv_at hl 0 rfl) ?_
          refine lv_iload_n hx hb dX9_busiest_62 rfl (lv_at hl 2 rfl) ?_
          refine lv_bipush (v := 8) hx hb dX9_busiest_63 (by decide) ?_
          obtain ⟨r12, hr12, hF⟩ := bd_use hF
          refine cl_VI ⟨hx, hb, hml, hown, htb⟩ (kX9_of l D cS g cI b M x2 8 _ hr12) (cwV 2 htb (gX9_of bw4_83) rfl rfl rfl hdX9_of ⟨Nat.le_of_ble_eq_true rfl, Nat.le_of_ble_eq_true rfl⟩) hK (hDa _) hG hA hP hS (sr_Md_Md cI b M) hl.1 rfl 0 (pMd_0 _ _ _) rfl rfl (Nat.le_of_ble_eq_true rfl) dX9_busiest_65 (fun H locs hP hS => ?_)
          refine lv_icmp_ne (tgt := 81) hx hb dX9_busiest_68 (by decide) (fun c13 => ?_) (fun c13 => ?_)
          · have hF := it_f hF c13
            exact j81 x4 x3 _ _ _ hF hP hS (lv_sub hl [0, 1, 2, 4] rfl)
          · have hF := it_t hF c13
            refine lv_iload hx hb dX9_busiest_71 (lv_at hl 4 rfl) ?_
            refine lv_iload_n hx hb dX9_busiest_73 rfl (lv_at hl 2 rfl) ?_
            refine lv_icmp_ge (tgt := 81) hx hb dX9_busiest_74 (by decide) (fun c14 => ?_) (fun c14 => ?_)
            · have hF := it_t hF c14
              exact j81 x4 x3 _ _ _ hF hP hS (lv_sub hl [0, 1, 2, 4] rfl)
            · have hF := it_f hF c14
              exact j77 x4 x3 _ _ _ hF hP hS (lv_sub hl [0, 1, 2, 4] rfl)
  have l8 : ∀ (x1 : Int32) (fu : Nat) (x2 : Int32) (H : Heap) (locs : List Loc) (ls : Array Slot), fX9_busiest_l8 M x1 fu x2 = some r → va_P D vwCl (wMd cI b M) H → va_S A s.heap H locs → lv_has ls 5 [(0, .ref (b 0)), (1, .int x1), (2, .int x2)] → W p l e rmX9_busiest s m args below meth c H locs 0 0 (MQ below (qI D r (wMd cI b M) A) args s 0 0 A) (F0 m 8 ls []) := by
    intro x1  fu
    induction fu with
    | zero => intro x2 H locs ls hF; exact nn_use hF
    | succ fu ihn =>
      intro x2 H locs ls hF hP hS hl 
      rw [fX9_busiest_l8_s] at hF
      refine lv_iload_n hx hb dX9_busiest_8 rfl (lv_at hl 2 rfl) ?_
      refine lv_aload_n hx hb dX9_busiest_9 rfl (lv_at hl 0 rfl) ?_
      refine va_get (ci := 9) (v := .ref (b 1)) (C := RX9) (T := TX9) (N := 10) hx hb htb kin9 hown hK hP 0 (pMd_0 cI b M) rfl 0 (by decide) (htb _ bw4_25) (fun _ h9 => h9) rfl dX9_busiest_10 ?_
      refine lv_iconst (v := 0) hx hb dX9_busiest_13 (by decide) ?_
      obtain ⟨hi, hF⟩ := rd_use hF
      refine va_iald hx hb hK hP 1 0 (pMd_1 cI b M) rfl hi dX9_busiest_14 ?_
      refine lv_topi (fun v2 ev2 => ?_)
      have hF := hF v2 ev2
      refine lv_icmp_ge (tgt := 103) hx hb dX9_busiest_15 (by decide) (fun c3 => ?_) (fun c3 => ?_)
      · have hF := it_t hF c3
        refine lv_bipush (v := (-9)) hx hb dX9_busiest_103 (by decide) ?_
        exact rt_I hx hb hr hlocks hS hP (so_use hF) dX9_busiest_105
      · have hF := it_f hF c3
        refine lv_iconst (v := 0) hx hb dX9_busiest_18 (by decide) ?_
        refine lv_istore_n (lv' := [(3, .int 0), (0, .ref (b 0)), (1, .int x1), (2, .int x2)]) hx hb dX9_busiest_19 rfl hl (by decide) rfl (fun ls hl => ?_)
        refine lv_iconst (v := 0) hx hb dX9_busiest_20 (by decide) ?_
        refine lv_istore (lv' := [(4, .int 0), (3, .int 0), (0, .ref (b 0)), (1, .int x1), (2, .int x2)]) hx hb dX9_busiest_21 hl (by decide) rfl (fun ls hl => ?_)
        refine l23 x1 x2 _ _ 0 0 _ _ _ hF hP hS (lv_sub hl [2, 3, 4, 1, 0] rfl) ?_
        · intro y15 H locs ls hF hP hS hl
          refine lv_iload_n hx hb dX9_busiest_90 rfl (lv_at hl 3 rfl) ?_
          refine lv_iload_n hx hb dX9_busiest_91 rfl (lv_at hl 1 rfl) ?_
          refine lv_icmp_ne (tgt := 97) hx hb dX9_busiest_92 (by decide) (fun c16 => ?_) (fun c16 => ?_)
          · have hF := it_f hF c16
            obtain ⟨v17, ev17⟩ : ∃ z : Int32, z = x2 + 1 := ⟨_, rfl⟩
            refine lv_iinc (v := v17) (lv' := [(2, .int v17), (0, .ref (b 0)), (1, .int x1), (3, .int y15)]) hx hb dX9_busiest_97 hl (k := 2) rfl (by rw [ev17]; rfl) (by decide) rfl (fun ls hl => ?_)
            have hF := nm_use hF ev17
            refine lv_goto (tgt := 8) hx hb dX9_busiest_100 (by decide) ?_
            exact ihn v17 _ _ _ hF hP hS (lv_sub hl [1, 2, 0] rfl)
          · have hF := it_t hF c16
            refine lv_iload_n hx hb dX9_busiest_95 rfl (lv_at hl 2 rfl) ?_
            exact rt_I hx hb hr hlocks hS hP (so_use hF) dX9_busiest_96
  refine lv_iload_n hx hb dX9_busiest_0 rfl (lv_at hl 1 rfl) ?_
  refine lv_if_ge (tgt := 6) hx hb dX9_busiest_1 (by decide) (fun c1 => ?_) (fun c1 => ?_)
  · have hF := it_t hF c1
    refine lv_iconst (v := 0) hx hb dX9_busiest_6 (by decide) ?_
    refine lv_istore_n (lv' := [(2, .int 0), (0, .ref (b 0)), (1, .int x1)]) hx hb dX9_busiest_7 rfl hl (by decide) rfl (fun ls hl => ?_)
    refine l8 x1  _ 0 _ _ _ hF hP hS (lv_sub hl [1, 2, 0] rfl)
  · have hF := it_f hF c1
    refine lv_iconst (v := (-1)) hx hb dX9_busiest_4 (by decide) ?_
    exact rt_I hx hb hr hlocks hS hP (so_use hF) dX9_busiest_5

noncomputable def fX9_cancel  (M : Md) (x1 : Int32) : Option (Int32 × Md) := (fX9_hold M).bind fun M1 => b2 (fX9_doDrop M1 x1) fun r3 M2 => b2 (fX9_ends M2 r3) fun r5 M4 => some (r5, M4)
abbrev vX9_cancel : List Cond := Cond.code yX9_cancel cX9_cancel 2 (some .int) :: BIG
theorem gX9_cancel {own : String} {idx : Nat} (h : (Cond.methodLink own idx yX9_cancel) ∈ BIG) : GoodIn BIG (wsV own idx RX9 yX9_cancel vX9_cancel) := gdV h bw4_138 bw4_139 bw1_11 bw4_140
def rmX9_cancel : Room := { frames := 4, cells := 0, slots := 0, locals := 95 }
theorem hdX9_cancel : yX9_cancel.cls = RX9 ∧ yX9_cancel.cls ≠ "java/lang/invoke/MethodHandle" ∧ yX9_cancel.cls ≠ "java/lang/invoke/VarHandle" ∧ (parseMethodDescriptor yX9_cancel.desc).map (fun d => d.parameters.length) = some 1 := by decide +kernel
set_option maxHeartbeats 4000000 in
set_option maxRecDepth 100000 in
theorem kX9_cancel (l : Launch) (D : va_G) (cS : ClassId) (g : Nat → Nat) (cI : ClassId) (b : Nat → Nat) (M : Md) (x1 : Int32) (r : Int32) (M' : Md) (hF : fX9_cancel M x1 = some (r, M')) : mI l yX9_cancel vX9_cancel rmX9_cancel D cI cS g [.ref (b 0), .int x1] (wMd cI b M) r (wMd cI b (M')) := by
  refine st_I rfl (by decide) (Nat.le_of_ble_eq_true rfl) ?_
  intro p e s m args below meth c A ls hx hb hr hml hlocks hown hts hA hK hD0 hG hP hS hl
  have hown : s.vm.findClass RX9 = some m.cls := hown
  have hDa : ∀ M, va_D A (wMd cI b M) := fun M => hD0.adr rfl
  have htb : ∀ w ∈ BIG, w.before args s = true := fun w h => hts w (List.mem_cons_of_mem _ h)
  have hl : lv_has ls 2 [(0, .ref (b 0)), (1, .int x1)] := hl
  refine lv_aload_n hx hb dX9_cancel_0 rfl (lv_at hl 0 rfl) ?_
  obtain ⟨M1, hM1, hF⟩ := bd_use hF
  refine cl_VV ⟨hx, hb, hml, hown, htb⟩ (kX9_hold l D cS g cI b M  _ hM1) (cwV 0 htb (gX9_hold bw4_60) rfl rfl rfl hdX9_hold ⟨Nat.le_of_ble_eq_true rfl, Nat.le_of_ble_eq_true rfl⟩) hK (hDa _) hG hA hP hS (sg_Md_Md cI b M M1) hl.1 rfl 0 (pMd_0 _ _ _) rfl rfl (Nat.le_of_ble_eq_true rfl) dX9_cancel_1 (fun H locs hP hS => ?_)
  refine lv_aload_n hx hb dX9_cancel_4 rfl (lv_at hl 0 rfl) ?_
  refine lv_aload_n hx hb dX9_cancel_5 rfl (lv_at hl 0 rfl) ?_
  refine lv_iload_n hx hb dX9_cancel_6 rfl (lv_at hl 1 rfl) ?_
  obtain ⟨r3, M2, hM2, hF⟩ := b2_use hF
  refine cl_VI ⟨hx, hb, hml, hown, htb⟩ (kX9_doDrop l D cS g cI b M1 x1 _ _ hM2) (cwV 1 htb (gX9_doDrop bw4_141) rfl rfl rfl hdX9_doDrop ⟨Nat.le_of_ble_eq_true rfl, Nat.le_of_ble_eq_true rfl⟩) hK (hDa _) hG hA hP hS (sg_Md_Md cI b M1 M2) hl.1 rfl 0 (pMd_0 _ _ _) rfl rfl (Nat.le_of_ble_eq_true rfl) dX9_cancel_7 (fun H locs hP hS => ?_)
  obtain ⟨r5, M4, hM4, hF⟩ := b2_use hF
  refine cl_VI ⟨hx, hb, hml, hown, htb⟩ (kX9_ends l D cS g cI b M2 r3 _ _ hM4) (cwV 1 htb (gX9_ends bw4_71) rfl rfl rfl hdX9_ends ⟨Nat.le_of_ble_eq_true rfl, Nat.le_of_ble_eq_true rfl⟩) hK (hDa _) hG hA hP hS (sg_Md_Md cI b M2 M4) hl.1 rfl 0 (pMd_0 _ _ _) rfl rfl (Nat.le_of_ble_eq_true rfl) dX9_cancel_10 (fun H locs hP hS => ?_)
  obtain ⟨er, eM⟩ := pr_use hF
  exact rt_I hx hb hr hlocks hS (by rw [← eM]; exact hP) er dX9_cancel_13
noncomputable def fX9_doJoin_l127  (x1 : Int32) (x2 : Int32) (kk : Md → Option (Int32 × Md)) : Nat → Md → Int32 → Option (Int32 × Md) := fun fu => Nat.rec (motive := fun _ => Md → Int32 → Option (Int32 × Md)) (fun _ _ => none) (fun _ ih => fun M x3 => Rd (M.1) 1553 (197 + x1) fun v24 => if v24 ≤ x3 then (kk M) else (Rd (M.1) 1553 (197 + x2) fun v26 => Rd (M.1) 1553 ((213 + (16 * x1)) + x3) fun v27 => Wr (M.1) 1553 ((213 + (16 * x2)) + v26) v27 fun f28 => nm ((f28, M.2)) fun M29 => nm (197 + x2) fun v30 => Rd (M29.1) 1553 v30 fun v31 => Wr (M29.1) 1553 v30 (v31 + 1) fun f32 => nm ((f32, M29.2)) fun M33 => nm (x3 + 1) fun v34 => ih M33 v34)) fu
theorem fX9_doJoin_l127_s  (x1 : Int32) (x2 : Int32) (kk : Md → Option (Int32 × Md)) (fu : Nat) (M : Md) (x3 : Int32) : fX9_doJoin_l127 x1 x2 kk (fu + 1) M x3 = (Rd (M.1) 1553 (197 + x1) fun v24 => if v24 ≤ x3 then (kk M) else (Rd (M.1) 1553 (197 + x2) fun v26 => Rd (M.1) 1553 ((213 + (16 * x1)) + x3) fun v27 => Wr (M.1) 1553 ((213 + (16 * x2)) + v26) v27 fun f28 => nm ((f28, M.2)) fun M29 => nm (197 + x2) fun v30 => Rd (M29.1) 1553 v30 fun v31 => Wr (M29.1) 1553 v30 (v31 + 1) fun f32 => nm ((f32, M29.2)) fun M33 => nm (x3 + 1) fun v34 => (fX9_doJoin_l127 x1 x2 kk fu) M33 v34)) := rfl
theorem fX9_doJoin_l127_z  (x1 : Int32) (x2 : Int32) (kk : Md → Option (Int32 × Md)) (M : Md) (x3 : Int32) : fX9_doJoin_l127 x1 x2 kk 0 M x3 = none := rfl
noncomputable def fX9_doJoin  (M : Md) (x1 : Int32) (x2 : Int32) : Option (Int32 × Md) := (fX9_isBooking M x1).bind fun r1 => if r1 = 0 then (some ((-1), M)) else ((fX9_isBooking M x2).bind fun r3 => if r3 = 0 then (some ((-1), M)) else (if x1 = x2 then (some ((-1), M)) else ((fX9_its M x1 3).bind fun r6 => if r6 = 0 then ((fX9_its M x2 3).bind fun r8 => if r8 = 0 then ((fX9_its M x1 0).bind fun r10 => (fX9_its M x2 0).bind fun r11 => if r10 = r11 then ((fX9_its M x1 2).bind fun r13 => (fX9_its M x2 2).bind fun r14 => (fX9_its M x1 0).bind fun r15 => (fX9_of M r15 3).bind fun r16 => if (r13 + r14) ≤ r16 then ((fX9_its M x1 2).bind fun r18 => (fX9_adds M x2 2 r18).bind fun M19 => (fX9_its M19 x1 4).bind fun r20 => (fX9_adds M19 x2 4 r20).bind fun M21 => (fX9_its M21 x1 5).bind fun r22 => (fX9_adds M21 x2 5 r22).bind fun M23 => fX9_doJoin_l127 x1 x2 (fun M35 => Wr (M35.1) 1553 (197 + x1) 0 fun f36 => nm ((f36, M35.2)) fun M37 => (fX9_lays M37 x1 2 0).bind fun M38 => (fX9_lays M38 x1 4 0).bind fun M39 => (fX9_lays M39 x1 5 0).bind fun M40 => (fX9_lays M40 x1 3 3).bind fun M41 => (fX9_its M41 x2 2).bind fun r42 => some (r42, M41)) FU M23 0) else (some ((-3), M))) else (some ((-2), M))) else (some ((-2), M))) else (some ((-2), M)))))
abbrev vX9_doJoin : List Cond := Cond.code yX9_doJoin cX9_doJoin 4 (some .int) :: BIG
theorem gX9_doJoin {own : String} {idx : Nat} (h : (Cond.methodLink own idx yX9_doJoin) ∈ BIG) : GoodIn BIG (wsV own idx RX9 yX9_doJoin vX9_doJoin) := gdV h bw4_174 bs39 bw1_11 bw4_175
def rmX9_doJoin : Room := { frames := 1, cells := 0, slots := 0, locals := 23 }
theorem hdX9_doJoin : yX9_doJoin.cls = RX9 ∧ yX9_doJoin.cls ≠ "java/lang/invoke/MethodHandle" ∧ yX9_doJoin.cls ≠ "java/lang/invoke/VarHandle" ∧ (parseMethodDescriptor yX9_doJoin.desc).map (fun d => d.parameters.length) = some 2 := by decide +kernel
set_option maxHeartbeats 4000000 in
set_option maxRecDepth 100000 in
theorem kX9_doJoin (l : Launch) (D : va_G) (cS : ClassId) (g : Nat → Nat) (cI : ClassId) (b : Nat → Nat) (M : Md) (x1 : Int32) (x2 : Int32) (r : Int32) (M' : Md) (hF : fX9_doJoin M x1 x2 = some (r, M')) : mI l yX9_doJoin vX9_doJoin rmX9_doJoin D cI cS g [.ref (b 0), .int x1, .int x2] (wMd cI b M) r (wMd cI b (M')) := by
  refine st_I rfl (by decide) (Nat.le_of_ble_eq_true rfl) ?_
  intro p e s m args below meth c A ls hx hb hr hml hlocks hown hts hA hK hD0 hG hP hS hl
  have hown : s.vm.findClass RX9 = some m.cls := hown
  have hDa : ∀ M, va_D A (wMd cI b M) := fun M => hD0.adr rfl
  have htb : ∀ w ∈ BIG, w.before args s = true := fun w h => hts w (List.mem_cons_of_mem _ h)
  have hl : lv_has ls 4 [(0, .ref (b 0)), (1, .int x1), (2, .int x2)] := hl
  have l127 : ∀ (x1 : Int32) (x2 : Int32) (kk : Md → Option (Int32 × Md)) (fu : Nat) (M : Md) (x3 : Int32) (H : Heap) (locs : List Loc) (ls : Array Slot), fX9_doJoin_l127 x1 x2 kk fu M x3 = some (r, M') → va_P D vwCl (wMd cI b M) H → va_S A s.heap H locs → lv_has ls 4 [(0, .ref (b 0)), (1, .int x1), (2, .int x2), (3, .int x3)] → (∀ (M : Md) (H : Heap) (locs : List Loc) (ls : Array Slot), kk M = some (r, M') → va_P D vwCl (wMd cI b M) H → va_S A s.heap H locs → lv_has ls 4 [(0, .ref (b 0)), (1, .int x1), (2, .int x2)] → W p l e rmX9_doJoin s m args below meth c H locs 0 0 (MQ below (qI D r (wMd cI b (M')) A) args s 0 0 A) (F0 m 200 ls [])) → W p l e rmX9_doJoin s m args below meth c H locs 0 0 (MQ below (qI D r (wMd cI b (M')) A) args s 0 0 A) (F0 m 127 ls []) := by
    intro x1 x2 kk fu
    induction fu with
    | zero => intro M x3 H locs ls hF; exact nn_use hF
    | succ fu ihn =>
      intro M x3 H locs ls hF hP hS hl after
      rw [fX9_doJoin_l127_s] at hF
      refine lv_iload_n hx hb dX9_doJoin_127 rfl (lv_at hl 3 rfl) ?_
      refine lv_aload_n hx hb dX9_doJoin_128 rfl (lv_at hl 0 rfl) ?_
      refine va_get (ci := 9) (v := .ref (b 1)) (C := RX9) (T := TX9) (N := 10) hx hb htb kin9 hown hK hP 0 (pMd_0 cI b M) rfl 0 (by decide) (htb _ bw4_25) (fun _ h9 => h9) rfl dX9_doJoin_129 ?_
      refine lv_sipush (v := 197) hx hb dX9_doJoin_132 (by decide) ?_
      refine lv_iload_n hx hb dX9_doJoin_135 rfl (lv_at hl 1 rfl) ?_
      refine lv_iadd hx hb dX9_doJoin_136 ?_
      obtain ⟨hi, hF⟩ := rd_use hF
      refine va_iald hx hb hK hP 1 0 (pMd_1 cI b M) rfl hi dX9_doJoin_137 ?_
      refine lv_topi (fun v24 ev24 => ?_)
      have hF := hF v24 ev24
      refine lv_icmp_ge (tgt := 200) hx hb dX9_doJoin_138 (by decide) (fun c25 => ?_) (fun c25 => ?_)
      · have hF := it_t hF c25
        exact after M _ _ _ hF hP hS (lv_sub hl [0, 1, 2] rfl)
      · have hF := it_f hF c25
        refine lv_aload_n hx hb dX9_doJoin_141 rfl (lv_at hl 0 rfl) ?_
        refine va_get (ci := 9) (v := .ref (b 1)) (C := RX9) (T := TX9) (N := 10) hx hb htb kin9 hown hK hP 0 (pMd_0 cI b M) rfl 0 (by decide) (htb _ bw4_25) (fun _ h9 => h9) rfl dX9_doJoin_142 ?_
        refine lv_sipush (v := 213) hx hb dX9_doJoin_145 (by decide) ?_
        refine lv_bipush (v := 16) hx hb dX9_doJoin_148 (by decide) ?_
        refine lv_iload_n hx hb dX9_doJoin_150 rfl (lv_at hl 2 rfl) ?_
        refine lv_imul hx hb dX9_doJoin_151 ?_
        refine lv_iadd hx hb dX9_doJoin_152 ?_
        refine lv_aload_n hx hb dX9_doJoin_153 rfl (lv_at hl 0 rfl) ?_
        refine va_get (ci := 9) (v := .ref (b 1)) (C := RX9) (T := TX9) (N := 10) hx hb htb kin9 hown hK hP 0 (pMd_0 cI b M) rfl 0 (by decide) (htb _ bw4_25) (fun _ h9 => h9) rfl dX9_doJoin_154 ?_
        refine lv_sipush (v := 197) hx hb dX9_doJoin_157 (by decide) ?_
        refine lv_iload_n hx hb dX9_doJoin_160 rfl (lv_at hl 2 rfl) ?_
        refine lv_iadd hx hb dX9_doJoin_161 ?_
        obtain ⟨hi, hF⟩ := rd_use hF
        refine va_iald hx hb hK hP 1 0 (pMd_1 cI b M) rfl hi dX9_doJoin_162 ?_
        refine lv_topi (fun v26 ev26 => ?_)
        have hF := hF v26 ev26
        refine lv_iadd hx hb dX9_doJoin_163 ?_
        refine lv_aload_n hx hb dX9_doJoin_164 rfl (lv_at hl 0 rfl) ?_
        refine va_get (ci := 9) (v := .ref (b 1)) (C := RX9) (T := TX9) (N := 10) hx hb htb kin9 hown hK hP 0 (pMd_0 cI b M) rfl 0 (by decide) (htb _ bw4_25) (fun _ h9 => h9) rfl dX9_doJoin_165 ?_
        refine lv_sipush (v := 213) hx hb dX9_doJoin_168 (by decide) ?_
        refine lv_bipush (v := 16) hx hb dX9_doJoin_171 (by decide) ?_
        refine lv_iload_n hx hb dX9_doJoin_173 rfl (lv_at hl 1 rfl) ?_
        refine lv_imul hx hb dX9_doJoin_174 ?_
        refine lv_iadd hx hb dX9_doJoin_175 ?_
        refine lv_iload_n hx hb dX9_doJoin_176 rfl (lv_at hl 3 rfl) ?_
        refine lv_iadd hx hb dX9_doJoin_177 ?_
        obtain ⟨hi, hF⟩ := rd_use hF
        refine va_iald hx hb hK hP 1 0 (pMd_1 cI b M) rfl hi dX9_doJoin_178 ?_
        refine lv_topi (fun v27 ev27 => ?_)
        have hF := hF v27 ev27
        obtain ⟨hi, hF⟩ := wr_use hF
        refine va_iast hx hb hK hP (hDa _) hS 1 0 (pMd_1 cI b M) rfl hi dX9_doJoin_179 (fun H locs hP _ hS => ?_)
        obtain ⟨M29, eM29⟩ : ∃ z : Md, z = ((upd (M.1) ((213 + (16 * x2)) + v26 : Int32).toNatClampNeg v27), M.2) := ⟨_, rfl⟩
        have hF := nm_use hF eM29
        have hP : va_P D vwCl (wMd cI b M29) H := by rw [eM29]; exact hP
        refine lv_aload_n hx hb dX9_doJoin_180 rfl (lv_at hl 0 rfl) ?_
        refine va_get (ci := 9) (v := .ref (b 1)) (C := RX9) (T := TX9) (N := 10) hx hb htb kin9 hown hK hP 0 (pMd_0 cI b M29) rfl 0 (by decide) (htb _ bw4_25) (fun _ h9 => h9) rfl dX9_doJoin_181 ?_
        refine lv_sipush (v := 197) hx hb dX9_doJoin_184 (by decide) ?_
        refine lv_iload_n hx hb dX9_doJoin_187 rfl (lv_at hl 2 rfl) ?_
        refine lv_iadd hx hb dX9_doJoin_188 ?_
        refine lv_topi (fun v30 ev30 => ?_)
        have hF := nm_use hF ev30
        refine lv_dup2_11 hx hb dX9_doJoin_189 rfl rfl ?_
        obtain ⟨hi, hF⟩ := rd_use hF
        refine va_iald hx hb hK hP 1 0 (pMd_1 cI b M29) rfl hi dX9_doJoin_190 ?_
        refine lv_topi (fun v31 ev31 => ?_)
        have hF := hF v31 ev31
        refine lv_iconst (v := 1) hx hb dX9_doJoin_191 (by decide) ?_
        refine lv_iadd hx hb dX9_doJoin_192 ?_
        obtain ⟨hi, hF⟩ := wr_use hF
        refine va_iast hx hb hK hP (hDa _) hS 1 0 (pMd_1 cI b M29) rfl hi dX9_doJoin_193 (fun H locs hP _ hS => ?_)
        obtain ⟨M33, eM33⟩ : ∃ z : Md, z = ((upd (M29.1) (v30 : Int32).toNatClampNeg (v31 + 1)), M29.2) := ⟨_, rfl⟩
        have hF := nm_use hF eM33
        have hP : va_P D vwCl (wMd cI b M33) H := by rw [eM33]; exact hP
        obtain ⟨v34, ev34⟩ : ∃ z : Int32, z = x3 + 1 := ⟨_, rfl⟩
        refine lv_iinc (v := v34) (lv' := [(3, .int v34), (0, .ref (b 0)), (1, .int x1), (2, .int x2)]) hx hb dX9_doJoin_194 hl (k := 3) rfl (by rw [ev34]; rfl) (by decide) rfl (fun ls hl => ?_)
        have hF := nm_use hF ev34
        refine lv_goto (tgt := 127) hx hb dX9_doJoin_197 (by decide) ?_
        exact ihn M33 v34 _ _ _ hF hP hS (lv_sub hl [1, 2, 3, 0] rfl) after
  refine lv_aload_n hx hb dX9_doJoin_0 rfl (lv_at hl 0 rfl) ?_
  refine lv_iload_n hx hb dX9_doJoin_1 rfl (lv_at hl 1 rfl) ?_
  obtain ⟨r1, hr1, hF⟩ := bd_use hF
  refine cl_VI ⟨hx, hb, hml, hown, htb⟩ (kX9_isBooking l D cS g cI b M x1 _ hr1) (cwV 1 htb (gX9_isBooking bw4_133) rfl rfl rfl hdX9_isBooking ⟨Nat.le_of_ble_eq_true rfl, Nat.le_of_ble_eq_true rfl⟩) hK (hDa _) hG hA hP hS (sr_Md_Md cI b M) hl.1 rfl 0 (pMd_0 _ _ _) rfl rfl (Nat.le_of_ble_eq_true rfl) dX9_doJoin_2 (fun H locs hP hS => ?_)
  refine lv_if_eq (tgt := 21) hx hb dX9_doJoin_5 (by decide) (fun c2 => ?_) (fun c2 => ?_)
  · have hF := it_t hF c2
    refine lv_iconst (v := (-1)) hx hb dX9_doJoin_21 (by decide) ?_
    obtain ⟨er, eM⟩ := pr_use hF
    exact rt_I hx hb hr hlocks hS (by rw [← eM]; exact hP) er dX9_doJoin_22
  · have hF := it_f hF c2
    refine lv_aload_n hx hb dX9_doJoin_8 rfl (lv_at hl 0 rfl) ?_
    refine lv_iload_n hx hb dX9_doJoin_9 rfl (lv_at hl 2 rfl) ?_
    obtain ⟨r3, hr3, hF⟩ := bd_use hF
    refine cl_VI ⟨hx, hb, hml, hown, htb⟩ (kX9_isBooking l D cS g cI b M x2 _ hr3) (cwV 1 htb (gX9_isBooking bw4_133) rfl rfl rfl hdX9_isBooking ⟨Nat.le_of_ble_eq_true rfl, Nat.le_of_ble_eq_true rfl⟩) hK (hDa _) hG hA hP hS (sr_Md_Md cI b M) hl.1 rfl 0 (pMd_0 _ _ _) rfl rfl (Nat.le_of_ble_eq_true rfl) dX9_doJoin_10 (fun H locs hP hS => ?_)
    refine lv_if_eq (tgt := 21) hx hb dX9_doJoin_13 (by decide) (fun c4 => ?_) (fun c4 => ?_)
    · have hF := it_t hF c4
      refine lv_iconst (v := (-1)) hx hb dX9_doJoin_21 (by decide) ?_
      obtain ⟨er, eM⟩ := pr_use hF
      exact rt_I hx hb hr hlocks hS (by rw [← eM]; exact hP) er dX9_doJoin_22
    · have hF := it_f hF c4
      refine lv_iload_n hx hb dX9_doJoin_16 rfl (lv_at hl 1 rfl) ?_
      refine lv_iload_n hx hb dX9_doJoin_17 rfl (lv_at hl 2 rfl) ?_
      refine lv_icmp_ne (tgt := 23) hx hb dX9_doJoin_18 (by decide) (fun c5 => ?_) (fun c5 => ?_)
      · have hF := it_f hF c5
        refine lv_aload_n hx hb dX9_doJoin_23 rfl (lv_at hl 0 rfl) ?_
        refine lv_iload_n hx hb dX9_doJoin_24 rfl (lv_at hl 1 rfl) ?_
        refine lv_iconst (v := 3) hx hb dX9_doJoin_25 (by decide) ?_
        obtain ⟨r6, hr6, hF⟩ := bd_use hF
        refine cl_VI ⟨hx, hb, hml, hown, htb⟩ (kX9_its l D cS g cI b M x1 3 _ hr6) (cwV 2 htb (gX9_its bw4_118) rfl rfl rfl hdX9_its ⟨Nat.le_of_ble_eq_true rfl, Nat.le_of_ble_eq_true rfl⟩) hK (hDa _) hG hA hP hS (sr_Md_Md cI b M) hl.1 rfl 0 (pMd_0 _ _ _) rfl rfl (Nat.le_of_ble_eq_true rfl) dX9_doJoin_26 (fun H locs hP hS => ?_)
        refine lv_if_ne (tgt := 56) hx hb dX9_doJoin_29 (by decide) (fun c7 => ?_) (fun c7 => ?_)
        · have hF := it_f hF c7
          refine lv_bipush (v := (-2)) hx hb dX9_doJoin_56 (by decide) ?_
          obtain ⟨er, eM⟩ := pr_use hF
          exact rt_I hx hb hr hlocks hS (by rw [← eM]; exact hP) er dX9_doJoin_58
        · have hF := it_t hF c7
          refine lv_aload_n hx hb dX9_doJoin_32 rfl (lv_at hl 0 rfl) ?_
          refine lv_iload_n hx hb dX9_doJoin_33 rfl (lv_at hl 2 rfl) ?_
          refine lv_iconst (v := 3) hx hb dX9_doJoin_34 (by decide) ?_
          obtain ⟨r8, hr8, hF⟩ := bd_use hF
          refine cl_VI ⟨hx, hb, hml, hown, htb⟩ (kX9_its l D cS g cI b M x2 3 _ hr8) (cwV 2 htb (gX9_its bw4_118) rfl rfl rfl hdX9_its ⟨Nat.le_of_ble_eq_true rfl, Nat.le_of_ble_eq_true rfl⟩) hK (hDa _) hG hA hP hS (sr_Md_Md cI b M) hl.1 rfl 0 (pMd_0 _ _ _) rfl rfl (Nat.le_of_ble_eq_true rfl) dX9_doJoin_35 (fun H locs hP hS => ?_)
          refine lv_if_ne (tgt := 56) hx hb dX9_doJoin_38 (by decide) (fun c9 => ?_) (fun c9 => ?_)
          · have hF := it_f hF c9
            refine lv_bipush (v := (-2)) hx hb dX9_doJoin_56 (by decide) ?_
            obtain ⟨er, eM⟩ := pr_use hF
            exact rt_I hx hb hr hlocks hS (by rw [← eM]; exact hP) er dX9_doJoin_58
          · have hF := it_t hF c9
            refine lv_aload_n hx hb dX9_doJoin_41 rfl (lv_at hl 0 rfl) ?_
            refine lv_iload_n hx hb dX9_doJoin_42 rfl (lv_at hl 1 rfl) ?_
            refine lv_iconst (v := 0) hx hb dX9_doJoin_43 (by decide) ?_
            obtain ⟨r10, hr10, hF⟩ := bd_use hF
            refine cl_VI ⟨hx, hb, hml, hown, htb⟩ (kX9_its l D cS g cI b M x1 0 _ hr10) (cwV 2 htb (gX9_its bw4_118) rfl rfl rfl hdX9_its ⟨Nat.le_of_ble_eq_true rfl, Nat.le_of_ble_eq_true rfl⟩) hK (hDa _) hG hA hP hS (sr_Md_Md cI b M) hl.1 rfl 0 (pMd_0 _ _ _) rfl rfl (Nat.le_of_ble_eq_true rfl) dX9_doJoin_44 (fun H locs hP hS => ?_)
            refine lv_aload_n hx hb dX9_doJoin_47 rfl (lv_at hl 0 rfl) ?_
            refine lv_iload_n hx hb dX9_doJoin_48 rfl (lv_at hl 2 rfl) ?_
            refine lv_iconst (v := 0) hx hb dX9_doJoin_49 (by decide) ?_
            obtain ⟨r11, hr11, hF⟩ := bd_use hF
            refine cl_VI ⟨hx, hb, hml, hown, htb⟩ (kX9_its l D cS g cI b M x2 0 _ hr11) (cwV 2 htb (gX9_its bw4_118) rfl rfl rfl hdX9_its ⟨Nat.le_of_ble_eq_true rfl, Nat.le_of_ble_eq_true rfl⟩) hK (hDa _) hG hA hP hS (sr_Md_Md cI b M) hl.1 rfl 0 (pMd_0 _ _ _) rfl rfl (Nat.le_of_ble_eq_true rfl) dX9_doJoin_50 (fun H locs hP hS => ?_)
            refine lv_icmp_eq (tgt := 59) hx hb dX9_doJoin_53 (by decide) (fun c12 => ?_) (fun c12 => ?_)
            · have hF := it_t hF c12
              refine lv_aload_n hx hb dX9_doJoin_59 rfl (lv_at hl 0 rfl) ?_
              refine lv_iload_n hx hb dX9_doJoin_60 rfl (lv_at hl 1 rfl) ?_
              refine lv_iconst (v := 2) hx hb dX9_doJoin_61 (by decide) ?_
              obtain ⟨r13, hr13, hF⟩ := bd_use hF
              refine cl_VI ⟨hx, hb, hml, hown, htb⟩ (kX9_its l D cS g cI b M x1 2 _ hr13) (cwV 2 htb (gX9_its bw4_118) rfl rfl rfl hdX9_its ⟨Nat.le_of_ble_eq_true rfl, Nat.le_of_ble_eq_true rfl⟩) hK (hDa _) hG hA hP hS (sr_Md_Md cI b M) hl.1 rfl 0 (pMd_0 _ _ _) rfl rfl (Nat.le_of_ble_eq_true rfl) dX9_doJoin_62 (fun H locs hP hS => ?_)
              refine lv_aload_n hx hb dX9_doJoin_65 rfl (lv_at hl 0 rfl) ?_
              refine lv_iload_n hx hb dX9_doJoin_66 rfl (lv_at hl 2 rfl) ?_
              refine lv_iconst (v := 2) hx hb dX9_doJoin_67 (by decide) ?_
              obtain ⟨r14, hr14, hF⟩ := bd_use hF
              refine cl_VI ⟨hx, hb, hml, hown, htb⟩ (kX9_its l D cS g cI b M x2 2 _ hr14) (cwV 2 htb (gX9_its bw4_118) rfl rfl rfl hdX9_its ⟨Nat.le_of_ble_eq_true rfl, Nat.le_of_ble_eq_true rfl⟩) hK (hDa _) hG hA hP hS (sr_Md_Md cI b M) hl.1 rfl 0 (pMd_0 _ _ _) rfl rfl (Nat.le_of_ble_eq_true rfl) dX9_doJoin_68 (fun H locs hP hS => ?_)
              refine lv_iadd hx hb dX9_doJoin_71 ?_
              refine lv_aload_n hx hb dX9_doJoin_72 rfl (lv_at hl 0 rfl) ?_
              refine lv_aload_n hx hb dX9_doJoin_73 rfl (lv_at hl 0 rfl) ?_
              refine lv_iload_n hx hb dX9_doJoin_74 rfl (lv_at hl 1 rfl) ?_
              refine lv_iconst (v := 0) hx hb dX9_doJoin_75 (by decide) ?_
              obtain ⟨r15, hr15, hF⟩ := bd_use hF
              refine cl_VI ⟨hx, hb, hml, hown, htb⟩ (kX9_its l D cS g cI b M x1 0 _ hr15) (cwV 2 htb (gX9_its bw4_118) rfl rfl rfl hdX9_its ⟨Nat.le_of_ble_eq_true rfl, Nat.le_of_ble_eq_true rfl⟩) hK (hDa _) hG hA hP hS (sr_Md_Md cI b M) hl.1 rfl 0 (pMd_0 _ _ _) rfl rfl (Nat.le_of_ble_eq_true rfl) dX9_doJoin_76 (fun H locs hP hS => ?_)
              refine lv_iconst (v := 3) hx hb dX9_doJoin_79 (by decide) ?_
              obtain ⟨r16, hr16, hF⟩ := bd_use hF
              refine cl_VI ⟨hx, hb, hml, hown, htb⟩ (kX9_of l D cS g cI b M r15 3 _ hr16) (cwV 2 htb (gX9_of bw4_83) rfl rfl rfl hdX9_of ⟨Nat.le_of_ble_eq_true rfl, Nat.le_of_ble_eq_true rfl⟩) hK (hDa _) hG hA hP hS (sr_Md_Md cI b M) hl.1 rfl 0 (pMd_0 _ _ _) rfl rfl (Nat.le_of_ble_eq_true rfl) dX9_doJoin_80 (fun H locs hP hS => ?_)
              refine lv_icmp_le (tgt := 89) hx hb dX9_doJoin_83 (by decide) (fun c17 => ?_) (fun c17 => ?_)
              · have hF := it_t hF c17
                refine lv_aload_n hx hb dX9_doJoin_89 rfl (lv_at hl 0 rfl) ?_
                refine lv_iload_n hx hb dX9_doJoin_90 rfl (lv_at hl 2 rfl) ?_
                refine lv_iconst (v := 2) hx hb dX9_doJoin_91 (by decide) ?_
                refine lv_aload_n hx hb dX9_doJoin_92 rfl (lv_at hl 0 rfl) ?_
                refine lv_iload_n hx hb dX9_doJoin_93 rfl (lv_at hl 1 rfl) ?_
                refine lv_iconst (v := 2) hx hb dX9_doJoin_94 (by decide) ?_
                obtain ⟨r18, hr18, hF⟩ := bd_use hF
                refine cl_VI ⟨hx, hb, hml, hown, htb⟩ (kX9_its l D cS g cI b M x1 2 _ hr18) (cwV 2 htb (gX9_its bw4_118) rfl rfl rfl hdX9_its ⟨Nat.le_of_ble_eq_true rfl, Nat.le_of_ble_eq_true rfl⟩) hK (hDa _) hG hA hP hS (sr_Md_Md cI b M) hl.1 rfl 0 (pMd_0 _ _ _) rfl rfl (Nat.le_of_ble_eq_true rfl) dX9_doJoin_95 (fun H locs hP hS => ?_)
                obtain ⟨M19, hM19, hF⟩ := bd_use hF
                refine cl_VV ⟨hx, hb, hml, hown, htb⟩ (kX9_adds l D cS g cI b M x2 2 r18 _ hM19) (cwV 3 htb (gX9_adds bw4_164) rfl rfl rfl hdX9_adds ⟨Nat.le_of_ble_eq_true rfl, Nat.le_of_ble_eq_true rfl⟩) hK (hDa _) hG hA hP hS (sg_Md_Md cI b M M19) hl.1 rfl 0 (pMd_0 _ _ _) rfl rfl (Nat.le_of_ble_eq_true rfl) dX9_doJoin_98 (fun H locs hP hS => ?_)
                refine lv_aload_n hx hb dX9_doJoin_101 rfl (lv_at hl 0 rfl) ?_
                refine lv_iload_n hx hb dX9_doJoin_102 rfl (lv_at hl 2 rfl) ?_
                refine lv_iconst (v := 4) hx hb dX9_doJoin_103 (by decide) ?_
                refine lv_aload_n hx hb dX9_doJoin_104 rfl (lv_at hl 0 rfl) ?_
                refine lv_iload_n hx hb dX9_doJoin_105 rfl (lv_at hl 1 rfl) ?_
                refine lv_iconst (v := 4) hx hb dX9_doJoin_106 (by decide) ?_
                obtain ⟨r20, hr20, hF⟩ := bd_use hF
                refine cl_VI ⟨hx, hb, hml, hown, htb⟩ (kX9_its l D cS g cI b M19 x1 4 _ hr20) (cwV 2 htb (gX9_its bw4_118) rfl rfl rfl hdX9_its ⟨Nat.le_of_ble_eq_true rfl, Nat.le_of_ble_eq_true rfl⟩) hK (hDa _) hG hA hP hS (sr_Md_Md cI b M19) hl.1 rfl 0 (pMd_0 _ _ _) rfl rfl (Nat.le_of_ble_eq_true rfl) dX9_doJoin_107 (fun H locs hP hS => ?_)
                obtain ⟨M21, hM21, hF⟩ := bd_use hF
                refine cl_VV ⟨hx, hb, hml, hown, htb⟩ (kX9_adds l D cS g cI b M19 x2 4 r20 _ hM21) (cwV 3 htb (gX9_adds bw4_164) rfl rfl rfl hdX9_adds ⟨Nat.le_of_ble_eq_true rfl, Nat.le_of_ble_eq_true rfl⟩) hK (hDa _) hG hA hP hS (sg_Md_Md cI b M19 M21) hl.1 rfl 0 (pMd_0 _ _ _) rfl rfl (Nat.le_of_ble_eq_true rfl) dX9_doJoin_110 (fun H locs hP hS => ?_)
                refine lv_aload_n hx hb dX9_doJoin_113 rfl (lv_at hl 0 rfl) ?_
                refine lv_iload_n hx hb dX9_doJoin_114 rfl (lv_at hl 2 rfl) ?_
                refine lv_iconst (v := 5) hx hb dX9_doJoin_115 (by decide) ?_
                refine lv_aload_n hx hb dX9_doJoin_116 rfl (lv_at hl 0 rfl) ?_
                refine lv_iload_n hx hb dX9_doJoin_117 rfl (lv_at hl 1 rfl) ?_
                refine lv_iconst (v := 5) hx hb dX9_doJoin_118 (by decide) ?_
                obtain ⟨r22, hr22, hF⟩ := bd_use hF
                refine cl_VI ⟨hx, hb, hml, hown, htb⟩ (kX9_its l D cS g cI b M21 x1 5 _ hr22) (cwV 2 htb (gX9_its bw4_118) rfl rfl rfl hdX9_its ⟨Nat.le_of_ble_eq_true rfl, Nat.le_of_ble_eq_true rfl⟩) hK (hDa _) hG hA hP hS (sr_Md_Md cI b M21) hl.1 rfl 0 (pMd_0 _ _ _) rfl rfl (Nat.le_of_ble_eq_true rfl) dX9_doJoin_119 (fun H locs hP hS => ?_)
                obtain ⟨M23, hM23, hF⟩ := bd_use hF
                refine cl_VV ⟨hx, hb, hml, hown, htb⟩ (kX9_adds l D cS g cI b M21 x2 5 r22 _ hM23) (cwV 3 htb (gX9_adds bw4_164) rfl rfl rfl hdX9_adds ⟨Nat.le_of_ble_eq_true rfl, Nat.le_of_ble_eq_true rfl⟩) hK (hDa _) hG hA hP hS (sg_Md_Md cI b M21 M23) hl.1 rfl 0 (pMd_0 _ _ _) rfl rfl (Nat.le_of_ble_eq_true rfl) dX9_doJoin_122 (fun H locs hP hS => ?_)
                refine lv_iconst (v := 0) hx hb dX9_doJoin_125 (by decide) ?_
                refine lv_istore_n (lv' := [(3, .int 0), (0, .ref (b 0)), (1, .int x1), (2, .int x2)]) hx hb dX9_doJoin_126 rfl hl (by decide) rfl (fun ls hl => ?_)
                refine l127 x1 x2 _ _ M23 0 _ _ _ hF hP hS (lv_sub hl [1, 2, 3, 0] rfl) ?_
                · intro M35 H locs ls hF hP hS hl
                  refine lv_aload_n hx hb dX9_doJoin_200 rfl (lv_at hl 0 rfl) ?_
                  refine va_get (ci := 9) (v := .ref (b 1)) (C := RX9) (T := TX9) (N := 10) hx hb htb kin9 hown hK hP 0 (pMd_0 cI b M35) rfl 0 (by decide) (htb _ bw4_25) (fun _ h9 => h9) rfl dX9_doJoin_201 ?_
                  refine lv_sipush (v := 197) hx hb dX9_doJoin_204 (by decide) ?_
                  refine lv_iload_n hx hb dX9_doJoin_207 rfl (lv_at hl 1 rfl) ?_
                  refine lv_iadd hx hb dX9_doJoin_208 ?_
                  refine lv_iconst (v := 0) hx hb dX9_doJoin_209 (by decide) ?_
                  obtain ⟨hi, hF⟩ := wr_use hF
                  refine va_iast hx hb hK hP (hDa _) hS 1 0 (pMd_1 cI b M35) rfl hi dX9_doJoin_210 (fun H locs hP _ hS => ?_)
                  obtain ⟨M37, eM37⟩ : ∃ z : Md, z = ((upd (M35.1) (197 + x1 : Int32).toNatClampNeg 0), M35.2) := ⟨_, rfl⟩
                  have hF := nm_use hF eM37
                  have hP : va_P D vwCl (wMd cI b M37) H := by rw [eM37]; exact hP
                  refine lv_aload_n hx hb dX9_doJoin_211 rfl (lv_at hl 0 rfl) ?_
                  refine lv_iload_n hx hb dX9_doJoin_212 rfl (lv_at hl 1 rfl) ?_
                  refine lv_iconst (v := 2) hx hb dX9_doJoin_213 (by decide) ?_
                  refine lv_iconst (v := 0) hx hb dX9_doJoin_214 (by decide) ?_
                  obtain ⟨M38, hM38, hF⟩ := bd_use hF
                  refine cl_VV ⟨hx, hb, hml, hown, htb⟩ (kX9_lays l D cS g cI b M37 x1 2 0 _ hM38) (cwV 3 htb (gX9_lays bw4_125) rfl rfl rfl hdX9_lays ⟨Nat.le_of_ble_eq_true rfl, Nat.le_of_ble_eq_true rfl⟩) hK (hDa _) hG hA hP hS (sg_Md_Md cI b M37 M38) hl.1 rfl 0 (pMd_0 _ _ _) rfl rfl (Nat.le_of_ble_eq_true rfl) dX9_doJoin_215 (fun H locs hP hS => ?_)
                  refine lv_aload_n hx hb dX9_doJoin_218 rfl (lv_at hl 0 rfl) ?_
                  refine lv_iload_n hx hb dX9_doJoin_219 rfl (lv_at hl 1 rfl) ?_
                  refine lv_iconst (v := 4) hx hb dX9_doJoin_220 (by decide) ?_
                  refine lv_iconst (v := 0) hx hb dX9_doJoin_221 (by decide) ?_
                  obtain ⟨M39, hM39, hF⟩ := bd_use hF
                  refine cl_VV ⟨hx, hb, hml, hown, htb⟩ (kX9_lays l D cS g cI b M38 x1 4 0 _ hM39) (cwV 3 htb (gX9_lays bw4_125) rfl rfl rfl hdX9_lays ⟨Nat.le_of_ble_eq_true rfl, Nat.le_of_ble_eq_true rfl⟩) hK (hDa _) hG hA hP hS (sg_Md_Md cI b M38 M39) hl.1 rfl 0 (pMd_0 _ _ _) rfl rfl (Nat.le_of_ble_eq_true rfl) dX9_doJoin_222 (fun H locs hP hS => ?_)
                  refine lv_aload_n hx hb dX9_doJoin_225 rfl (lv_at hl 0 rfl) ?_
                  refine lv_iload_n hx hb dX9_doJoin_226 rfl (lv_at hl 1 rfl) ?_
                  refine lv_iconst (v := 5) hx hb dX9_doJoin_227 (by decide) ?_
                  refine lv_iconst (v := 0) hx hb dX9_doJoin_228 (by decide) ?_
                  obtain ⟨M40, hM40, hF⟩ := bd_use hF
                  refine cl_VV ⟨hx, hb, hml, hown, htb⟩ (kX9_lays l D cS g cI b M39 x1 5 0 _ hM40) (cwV 3 htb (gX9_lays bw4_125) rfl rfl rfl hdX9_lays ⟨Nat.le_of_ble_eq_true rfl, Nat.le_of_ble_eq_true rfl⟩) hK (hDa _) hG hA hP hS (sg_Md_Md cI b M39 M40) hl.1 rfl 0 (pMd_0 _ _ _) rfl rfl (Nat.le_of_ble_eq_true rfl) dX9_doJoin_229 (fun H locs hP hS => ?_)
                  refine lv_aload_n hx hb dX9_doJoin_232 rfl (lv_at hl 0 rfl) ?_
                  refine lv_iload_n hx hb dX9_doJoin_233 rfl (lv_at hl 1 rfl) ?_
                  refine lv_iconst (v := 3) hx hb dX9_doJoin_234 (by decide) ?_
                  refine lv_iconst (v := 3) hx hb dX9_doJoin_235 (by decide) ?_
                  obtain ⟨M41, hM41, hF⟩ := bd_use hF
                  refine cl_VV ⟨hx, hb, hml, hown, htb⟩ (kX9_lays l D cS g cI b M40 x1 3 3 _ hM41) (cwV 3 htb (gX9_lays bw4_125) rfl rfl rfl hdX9_lays ⟨Nat.le_of_ble_eq_true rfl, Nat.le_of_ble_eq_true rfl⟩) hK (hDa _) hG hA hP hS (sg_Md_Md cI b M40 M41) hl.1 rfl 0 (pMd_0 _ _ _) rfl rfl (Nat.le_of_ble_eq_true rfl) dX9_doJoin_236 (fun H locs hP hS => ?_)
                  refine lv_aload_n hx hb dX9_doJoin_239 rfl (lv_at hl 0 rfl) ?_
                  refine lv_iload_n hx hb dX9_doJoin_240 rfl (lv_at hl 2 rfl) ?_
                  refine lv_iconst (v := 2) hx hb dX9_doJoin_241 (by decide) ?_
                  obtain ⟨r42, hr42, hF⟩ := bd_use hF
                  refine cl_VI ⟨hx, hb, hml, hown, htb⟩ (kX9_its l D cS g cI b M41 x2 2 _ hr42) (cwV 2 htb (gX9_its bw4_118) rfl rfl rfl hdX9_its ⟨Nat.le_of_ble_eq_true rfl, Nat.le_of_ble_eq_true rfl⟩) hK (hDa _) hG hA hP hS (sr_Md_Md cI b M41) hl.1 rfl 0 (pMd_0 _ _ _) rfl rfl (Nat.le_of_ble_eq_true rfl) dX9_doJoin_242 (fun H locs hP hS => ?_)
                  obtain ⟨er, eM⟩ := pr_use hF
                  exact rt_I hx hb hr hlocks hS (by rw [← eM]; exact hP) er dX9_doJoin_245
              · have hF := it_f hF c17
                refine lv_bipush (v := (-3)) hx hb dX9_doJoin_86 (by decide) ?_
                obtain ⟨er, eM⟩ := pr_use hF
                exact rt_I hx hb hr hlocks hS (by rw [← eM]; exact hP) er dX9_doJoin_88
            · have hF := it_f hF c12
              refine lv_bipush (v := (-2)) hx hb dX9_doJoin_56 (by decide) ?_
              obtain ⟨er, eM⟩ := pr_use hF
              exact rt_I hx hb hr hlocks hS (by rw [← eM]; exact hP) er dX9_doJoin_58
      · have hF := it_t hF c5
        refine lv_iconst (v := (-1)) hx hb dX9_doJoin_21 (by decide) ?_
        obtain ⟨er, eM⟩ := pr_use hF
        exact rt_I hx hb hr hlocks hS (by rw [← eM]; exact hP) er dX9_doJoin_22
noncomputable def fX9_merge  (M : Md) (x1 : Int32) (x2 : Int32) : Option (Int32 × Md) := (fX9_hold M).bind fun M1 => b2 (fX9_doJoin M1 x1 x2) fun r3 M2 => b2 (fX9_ends M2 r3) fun r5 M4 => some (r5, M4)
abbrev vX9_merge : List Cond := Cond.code yX9_merge cX9_merge 3 (some .int) :: BIG
theorem gX9_merge {own : String} {idx : Nat} (h : (Cond.methodLink own idx yX9_merge) ∈ BIG) : GoodIn BIG (wsV own idx RX9 yX9_merge vX9_merge) := gdV h bw4_169 bw4_170 bw1_11 bw4_171
def rmX9_merge : Room := { frames := 2, cells := 0, slots := 0, locals := 46 }
theorem hdX9_merge : yX9_merge.cls = RX9 ∧ yX9_merge.cls ≠ "java/lang/invoke/MethodHandle" ∧ yX9_merge.cls ≠ "java/lang/invoke/VarHandle" ∧ (parseMethodDescriptor yX9_merge.desc).map (fun d => d.parameters.length) = some 2 := by decide +kernel
set_option maxHeartbeats 4000000 in
set_option maxRecDepth 100000 in
theorem kX9_merge (l : Launch) (D : va_G) (cS : ClassId) (g : Nat → Nat) (cI : ClassId) (b : Nat → Nat) (M : Md) (x1 : Int32) (x2 : Int32) (r : Int32) (M' : Md) (hF : fX9_merge M x1 x2 = some (r, M')) : mI l yX9_merge vX9_merge rmX9_merge D cI cS g [.ref (b 0), .int x1, .int x2] (wMd cI b M) r (wMd cI b (M')) := by
  refine st_I rfl (by decide) (Nat.le_of_ble_eq_true rfl) ?_
  intro p e s m args below meth c A ls hx hb hr hml hlocks hown hts hA hK hD0 hG hP hS hl
  have hown : s.vm.findClass RX9 = some m.cls := hown
  have hDa : ∀ M, va_D A (wMd cI b M) := fun M => hD0.adr rfl
  have htb : ∀ w ∈ BIG, w.before args s = true := fun w h => hts w (List.mem_cons_of_mem _ h)
  have hl : lv_has ls 3 [(0, .ref (b 0)), (1, .int x1), (2, .int x2)] := hl
  refine lv_aload_n hx hb dX9_merge_0 rfl (lv_at hl 0 rfl) ?_
  obtain ⟨M1, hM1, hF⟩ := bd_use hF
  refine cl_VV ⟨hx, hb, hml, hown, htb⟩ (kX9_hold l D cS g cI b M  _ hM1) (cwV 0 htb (gX9_hold bw4_60) rfl rfl rfl hdX9_hold ⟨Nat.le_of_ble_eq_true rfl, Nat.le_of_ble_eq_true rfl⟩) hK (hDa _) hG hA hP hS (sg_Md_Md cI b M M1) hl.1 rfl 0 (pMd_0 _ _ _) rfl rfl (Nat.le_of_ble_eq_true rfl) dX9_merge_1 (fun H locs hP hS => ?_)
  refine lv_aload_n hx hb dX9_merge_4 rfl (lv_at hl 0 rfl) ?_
  refine lv_aload_n hx hb dX9_merge_5 rfl (lv_at hl 0 rfl) ?_
  refine lv_iload_n hx hb dX9_merge_6 rfl (lv_at hl 1 rfl) ?_
  refine lv_iload_n hx hb dX9_merge_7 rfl (lv_at hl 2 rfl) ?_
  obtain ⟨r3, M2, hM2, hF⟩ := b2_use hF
  refine cl_VI ⟨hx, hb, hml, hown, htb⟩ (kX9_doJoin l D cS g cI b M1 x1 x2 _ _ hM2) (cwV 2 htb (gX9_doJoin bw4_172) rfl rfl rfl hdX9_doJoin ⟨Nat.le_of_ble_eq_true rfl, Nat.le_of_ble_eq_true rfl⟩) hK (hDa _) hG hA hP hS (sg_Md_Md cI b M1 M2) hl.1 rfl 0 (pMd_0 _ _ _) rfl rfl (Nat.le_of_ble_eq_true rfl) dX9_merge_8 (fun H locs hP hS => ?_)
  obtain ⟨r5, M4, hM4, hF⟩ := b2_use hF
  refine cl_VI ⟨hx, hb, hml, hown, htb⟩ (kX9_ends l D cS g cI b M2 r3 _ _ hM4) (cwV 1 htb (gX9_ends bw4_71) rfl rfl rfl hdX9_ends ⟨Nat.le_of_ble_eq_true rfl, Nat.le_of_ble_eq_true rfl⟩) hK (hDa _) hG hA hP hS (sg_Md_Md cI b M2 M4) hl.1 rfl 0 (pMd_0 _ _ _) rfl rfl (Nat.le_of_ble_eq_true rfl) dX9_merge_11 (fun H locs hP hS => ?_)
  obtain ⟨er, eM⟩ := pr_use hF
  exact rt_I hx hb hr hlocks hS (by rw [← eM]; exact hP) er dX9_merge_14
noncomputable def fX9_counts  (M : Md) (x1 : Int32) (x2 : Int32) (x3 : Int32) : Option (Md) := nm ((9 + (11 * x1)) + x2) fun v1 => Rd (M.1) 1553 v1 fun v2 => Wr (M.1) 1553 v1 (v2 + x3) fun f3 => nm ((f3, M.2)) fun M4 => some M4
abbrev vX9_counts : List Cond := Cond.code yX9_counts cX9_counts 4 none :: BIG
theorem gX9_counts {own : String} {idx : Nat} (h : (Cond.methodLink own idx yX9_counts) ∈ BIG) : GoodIn BIG (wsV own idx RX9 yX9_counts vX9_counts) := gdV h bw4_186 bs41 bw1_11 bw4_187
def rmX9_counts : Room := { frames := 0, cells := 0, slots := 0, locals := 0 }
theorem hdX9_counts : yX9_counts.cls = RX9 ∧ yX9_counts.cls ≠ "java/lang/invoke/MethodHandle" ∧ yX9_counts.cls ≠ "java/lang/invoke/VarHandle" ∧ (parseMethodDescriptor yX9_counts.desc).map (fun d => d.parameters.length) = some 3 := by decide +kernel
set_option maxHeartbeats 4000000 in
set_option maxRecDepth 100000 in
theorem kX9_counts (l : Launch) (D : va_G) (cS : ClassId) (g : Nat → Nat) (cI : ClassId) (b : Nat → Nat) (M : Md) (x1 : Int32) (x2 : Int32) (x3 : Int32) (M' : Md) (hF : fX9_counts M x1 x2 x3 = some M') : mV l yX9_counts vX9_counts rmX9_counts D cI cS g [.ref (b 0), .int x1, .int x2, .int x3] (wMd cI b M) (wMd cI b (M')) := by
  refine st_V rfl (by decide) (Nat.le_of_ble_eq_true rfl) ?_
  intro p e s m args below meth c A ls hx hb hr hml hlocks hown hts hA hK hD0 hG hP hS hl
  have hown : s.vm.findClass RX9 = some m.cls := hown
  have hDa : ∀ M, va_D A (wMd cI b M) := fun M => hD0.adr rfl
  have htb : ∀ w ∈ BIG, w.before args s = true := fun w h => hts w (List.mem_cons_of_mem _ h)
  have hl : lv_has ls 4 [(0, .ref (b 0)), (1, .int x1), (2, .int x2), (3, .int x3)] := hl
  refine lv_aload_n hx hb dX9_counts_0 rfl (lv_at hl 0 rfl) ?_
  refine va_get (ci := 9) (v := .ref (b 1)) (C := RX9) (T := TX9) (N := 10) hx hb htb kin9 hown hK hP 0 (pMd_0 cI b M) rfl 0 (by decide) (htb _ bw4_25) (fun _ h9 => h9) rfl dX9_counts_1 ?_
  refine lv_bipush (v := 9) hx hb dX9_counts_4 (by decide) ?_
  refine lv_bipush (v := 11) hx hb dX9_counts_6 (by decide) ?_
  refine lv_iload_n hx hb dX9_counts_8 rfl (lv_at hl 1 rfl) ?_
  refine lv_imul hx hb dX9_counts_9 ?_
  refine lv_iadd hx hb dX9_counts_10 ?_
  refine lv_iload_n hx hb dX9_counts_11 rfl (lv_at hl 2 rfl) ?_
  refine lv_iadd hx hb dX9_counts_12 ?_
  refine lv_topi (fun v1 ev1 => ?_)
  have hF := nm_use hF ev1
  refine lv_dup2_11 hx hb dX9_counts_13 rfl rfl ?_
  obtain ⟨hi, hF⟩ := rd_use hF
  refine va_iald hx hb hK hP 1 0 (pMd_1 cI b M) rfl hi dX9_counts_14 ?_
  refine lv_topi (fun v2 ev2 => ?_)
  have hF := hF v2 ev2
  refine lv_iload_n hx hb dX9_counts_15 rfl (lv_at hl 3 rfl) ?_
  refine lv_iadd hx hb dX9_counts_16 ?_
  obtain ⟨hi, hF⟩ := wr_use hF
  refine va_iast hx hb hK hP (hDa _) hS 1 0 (pMd_1 cI b M) rfl hi dX9_counts_17 (fun H locs hP _ hS => ?_)
  obtain ⟨M4, eM4⟩ : ∃ z : Md, z = ((upd (M.1) (v1 : Int32).toNatClampNeg (v2 + x3)), M.2) := ⟨_, rfl⟩
  have hF := nm_use hF eM4
  have hP : va_P D vwCl (wMd cI b M4) H := by rw [eM4]; exact hP
  exact rt_V hx hb hr hlocks hS (by rw [← so_use hF]; exact hP) dX9_counts_18
noncomputable def fX9_doPlay_j271  (M : Md) (x1 : Int32) (x5 : Int32) (x9 : Int32) (x10 : Int32) (x11 : Int32) (s1 : Int32) (s2 : Int32) (s3 : Int32) : Option (Int32 × Md) := (fX9_counts M s1 s2 s3).bind fun M38 => (fX9_of M38 x5 9).bind fun r39 => (fX9_greater r39 x11).bind fun r40 => Wr (M38.1) 1553 ((9 + (11 * x5)) + 9) r40 fun f41 => nm ((f41, M38.2)) fun M42 => (fX9_lays M42 x1 3 1).bind fun M43 => (fX9_lays M43 x1 7 x10).bind fun M44 => (fX9_lays M44 x1 8 x9).bind fun M45 => (fX9_its M45 x1 4).bind fun r46 => (fX9_shareOf M45 r46 x11).bind fun r47 => (fX9_refunds M45 x1 r47).bind fun M48 => some (x9, M48)
noncomputable def fX9_doPlay_j270  (M : Md) (x1 : Int32) (x5 : Int32) (x9 : Int32) (x10 : Int32) (x11 : Int32) (s1 : Int32) (s2 : Int32) : Option (Int32 × Md) := fX9_doPlay_j271 M x1 x5 x9 x10 x11 s1 s2 0
noncomputable def fX9_doPlay_j228  (M : Md) (x1 : Int32) (x2 : Int32) (x3 : Int32) (x5 : Int32) (x6 : Int32) (x8 : Int32) (x9 : Int32) (x10 : Int32) (x11 : Int32) (s1 : Int32) (s2 : Int32) (s3 : Int32) : Option (Int32 × Md) := (fX9_counts M s1 s2 s3).bind fun M34 => (fX9_counts M34 x5 7 x3).bind fun M35 => (fX9_counts M35 x5 8 x9).bind fun M36 => if x2 ≤ 0 then (fX9_doPlay_j270 M36 x1 x5 x9 x10 x11 x5 10) else (if x8 ≤ x6 then (fX9_doPlay_j270 M36 x1 x5 x9 x10 x11 x5 10) else (fX9_doPlay_j271 M36 x1 x5 x9 x10 x11 x5 10 1))
noncomputable def fX9_doPlay_j227  (M : Md) (x1 : Int32) (x2 : Int32) (x3 : Int32) (x5 : Int32) (x6 : Int32) (x8 : Int32) (x9 : Int32) (x10 : Int32) (x11 : Int32) (s1 : Int32) (s2 : Int32) : Option (Int32 × Md) := fX9_doPlay_j228 M x1 x2 x3 x5 x6 x8 x9 x10 x11 s1 s2 0
noncomputable def fX9_doPlay_j129  (M : Md) (x1 : Int32) (x2 : Int32) (x3 : Int32) (x4 : Int32) (x5 : Int32) (x6 : Int32) (x7 : Int32) (x8 : Int32) (s0 : Int32) : Option (Int32 × Md) := (fX9_its M x1 1).bind fun r23 => (fX9_of M x5 4).bind fun r24 => (fX9_greater r23 r24).bind fun r25 => (fX9_its M x1 1).bind fun r26 => nm (r25 - r26) fun v27 => (fX9_of M x5 1).bind fun r28 => Rd (M.1) 1553 6 fun v29 => Wr (M.1) 1553 ((9 + (11 * x5)) + 4) (((r25 + s0) + r28) + (x4 * v29)) fun f30 => nm ((f30, M.2)) fun M31 => (fX9_counts M31 x5 5 1).bind fun M32 => if x2 ≤ 0 then (fX9_doPlay_j227 M32 x1 x2 x3 x5 x6 x8 s0 r25 v27 x5 6) else (if x7 < x8 then (fX9_doPlay_j227 M32 x1 x2 x3 x5 x6 x8 s0 r25 v27 x5 6) else (fX9_doPlay_j228 M32 x1 x2 x3 x5 x6 x8 s0 r25 v27 x5 6 1))
noncomputable def fX9_doPlay  (M : Md) (x1 : Int32) (x2 : Int32) (x3 : Int32) (x4 : Int32) : Option (Int32 × Md) := (fX9_isBooking M x1).bind fun r1 => if r1 = 0 then (some ((-1), M)) else ((fX9_its M x1 0).bind fun r3 => (fX9_of M r3 0).bind fun r4 => (fX9_in x2 0 r4).bind fun r5 => if r5 = 0 then (some ((-1), M)) else ((fX9_in x3 0 20).bind fun r7 => if r7 = 0 then (some ((-1), M)) else ((fX9_in x4 0 9).bind fun r9 => if r9 = 0 then (some ((-1), M)) else ((fX9_its M x1 0).bind fun r11 => (fX9_its M x1 3).bind fun r12 => if r12 = 0 then ((fX9_nextOf M r11 (-1)).bind fun r14 => if r14 = x1 then ((fX9_of M r11 0).bind fun r16 => Rd (M.1) 1553 5 fun v17 => nm (r16 + v17) fun v18 => Rd (M.1) 1553 4 fun v19 => nm (x2 + (x3 * v19)) fun v20 => if x2 = 0 then (fX9_doPlay_j129 M x1 x2 x3 x4 r11 r16 v18 v20 r16) else ((fX9_lesser v20 v18).bind fun r22 => fX9_doPlay_j129 M x1 x2 x3 x4 r11 r16 v18 v20 r22)) else (some ((-2), M))) else (some ((-2), M))))))
abbrev vX9_doPlay : List Cond := Cond.code yX9_doPlay cX9_doPlay 12 (some .int) :: BIG
theorem gX9_doPlay {own : String} {idx : Nat} (h : (Cond.methodLink own idx yX9_doPlay) ∈ BIG) : GoodIn BIG (wsV own idx RX9 yX9_doPlay vX9_doPlay) := gdV h bw4_182 bs40 bw1_11 bw4_183
def rmX9_doPlay : Room := { frames := 2, cells := 0, slots := 0, locals := 50 }
theorem hdX9_doPlay : yX9_doPlay.cls = RX9 ∧ yX9_doPlay.cls ≠ "java/lang/invoke/MethodHandle" ∧ yX9_doPlay.cls ≠ "java/lang/invoke/VarHandle" ∧ (parseMethodDescriptor yX9_doPlay.desc).map (fun d => d.parameters.length) = some 4 := by decide +kernel
set_option maxHeartbeats 4000000 in
set_option maxRecDepth 100000 in
theorem kX9_doPlay (l : Launch) (D : va_G) (cS : ClassId) (g : Nat → Nat) (cI : ClassId) (b : Nat → Nat) (M : Md) (x1 : Int32) (x2 : Int32) (x3 : Int32) (x4 : Int32) (r : Int32) (M' : Md) (hF : fX9_doPlay M x1 x2 x3 x4 = some (r, M')) : mI l yX9_doPlay vX9_doPlay rmX9_doPlay D cI cS g [.ref (b 0), .int x1, .int x2, .int x3, .int x4] (wMd cI b M) r (wMd cI b (M')) := by
  refine st_I rfl (by decide) (Nat.le_of_ble_eq_true rfl) ?_
  intro p e s m args below meth c A ls hx hb hr hml hlocks hown hts hA hK hD0 hG hP hS hl
  have hown : s.vm.findClass RX9 = some m.cls := hown
  have hDa : ∀ M, va_D A (wMd cI b M) := fun M => hD0.adr rfl
  have htb : ∀ w ∈ BIG, w.before args s = true := fun w h => hts w (List.mem_cons_of_mem _ h)
  have hl : lv_has ls 12 [(0, .ref (b 0)), (1, .int x1), (2, .int x2), (3, .int x3), (4, .int x4)] := hl
  have j271 : ∀ (M : Md) (x1 : Int32) (x5 : Int32) (x9 : Int32) (x10 : Int32) (x11 : Int32) (s1 : Int32) (s2 : Int32) (s3 : Int32) (H : Heap) (locs : List Loc) (ls : Array Slot), fX9_doPlay_j271 M x1 x5 x9 x10 x11 s1 s2 s3 = some (r, M') → va_P D vwCl (wMd cI b M) H → va_S A s.heap H locs → lv_has ls 12 [(0, .ref (b 0)), (1, .int x1), (5, .int x5), (9, .int x9), (10, .int x10), (11, .int x11)] → W p l e rmX9_doPlay s m args below meth c H locs 0 0 (MQ below (qI D r (wMd cI b (M')) A) args s 0 0 A) (F0 m 271 ls [.int s3, .int s2, .int s1, .ref (b 0)]) := by
    intro M x1 x5 x9 x10 x11 s1 s2 s3 H locs ls hF hP hS hl
    obtain ⟨M38, hM38, hF⟩ := bd_use hF
    refine cl_VV ⟨hx, hb, hml, hown, htb⟩ (kX9_counts l D cS g cI b M s1 s2 s3 _ hM38) (cwV 3 htb (gX9_counts bw4_184) rfl rfl rfl hdX9_counts ⟨Nat.le_of_ble_eq_true rfl, Nat.le_of_ble_eq_true rfl⟩) hK (hDa _) hG hA hP hS (sg_Md_Md cI b M M38) hl.1 rfl 0 (pMd_0 _ _ _) rfl rfl (Nat.le_of_ble_eq_true rfl) dX9_doPlay_271 (fun H locs hP hS => ?_)
    refine lv_aload_n hx hb dX9_doPlay_274 rfl (lv_at hl 0 rfl) ?_
    refine va_get (ci := 9) (v := .ref (b 1)) (C := RX9) (T := TX9) (N := 10) hx hb htb kin9 hown hK hP 0 (pMd_0 cI b M38) rfl 0 (by decide) (htb _ bw4_25) (fun _ h9 => h9) rfl dX9_doPlay_275 ?_
    refine lv_bipush (v := 9) hx hb dX9_doPlay_278 (by decide) ?_
    refine lv_bipush (v := 11) hx hb dX9_doPlay_280 (by decide) ?_
    refine lv_iload hx hb dX9_doPlay_282 (lv_at hl 2 rfl) ?_
    refine lv_imul hx hb dX9_doPlay_284 ?_
    refine lv_iadd hx hb dX9_doPlay_285 ?_
    refine lv_bipush (v := 9) hx hb dX9_doPlay_286 (by decide) ?_
    refine lv_iadd hx hb dX9_doPlay_288 ?_
    refine lv_aload_n hx hb dX9_doPlay_289 rfl (lv_at hl 0 rfl) ?_
    refine lv_iload hx hb dX9_doPlay_290 (lv_at hl 2 rfl) ?_
    refine lv_bipush (v := 9) hx hb dX9_doPlay_292 (by decide) ?_
    obtain ⟨r39, hr39, hF⟩ := bd_use hF
    refine cl_VI ⟨hx, hb, hml, hown, htb⟩ (kX9_of l D cS g cI b M38 x5 9 _ hr39) (cwV 2 htb (gX9_of bw4_83) rfl rfl rfl hdX9_of ⟨Nat.le_of_ble_eq_true rfl, Nat.le_of_ble_eq_true rfl⟩) hK (hDa _) hG hA hP hS (sr_Md_Md cI b M38) hl.1 rfl 0 (pMd_0 _ _ _) rfl rfl (Nat.le_of_ble_eq_true rfl) dX9_doPlay_294 (fun H locs hP hS => ?_)
    refine lv_iload hx hb dX9_doPlay_297 (lv_at hl 5 rfl) ?_
    obtain ⟨r40, hr40, hF⟩ := bd_use hF
    refine cl_SI ⟨hx, hb, hml, hown, htb⟩ (kX9_greater l D cS g cI r39 x11 _ hr40) (va_cwS 2 htb (gX9_greater bw4_157) rfl rfl rfl hdX9_greater ⟨Nat.le_of_ble_eq_true rfl, Nat.le_of_ble_eq_true rfl⟩) hK (hDa _) hG hA hP hS sg_nil hl.1 rfl rfl (Nat.le_of_ble_eq_true rfl) dX9_doPlay_299 (fun H locs hP hS => ?_)
    obtain ⟨hi, hF⟩ := wr_use hF
    refine va_iast hx hb hK hP (hDa _) hS 1 0 (pMd_1 cI b M38) rfl hi dX9_doPlay_302 (fun H locs hP _ hS => ?_)
    obtain ⟨M42, eM42⟩ : ∃ z : Md, z = ((upd (M38.1) ((9 + (11 * x5)) + 9 : Int32).toNatClampNeg r40), M38.2) := ⟨_, rfl⟩
    have hF := nm_use hF eM42
    have hP : va_P D vwCl (wMd cI b M42) H := by rw [eM42]; exact hP
    refine lv_aload_n hx hb dX9_doPlay_303 rfl (lv_at hl 0 rfl) ?_
    refine lv_iload_n hx hb dX9_doPlay_304 rfl (lv_at hl 1 rfl) ?_
    refine lv_iconst (v := 3) hx hb dX9_doPlay_305 (by decide) ?_
    refine lv_iconst (v := 1) hx hb dX9_doPlay_306 (by decide) ?_
    obtain ⟨M43, hM43, hF⟩ := bd_use hF
    refine cl_VV ⟨hx, hb, hml, hown, htb⟩ (kX9_lays l D cS g cI b M42 x1 3 1 _ hM43) (cwV 3 htb (gX9_lays bw4_125) rfl rfl rfl hdX9_lays ⟨Nat.le_of_ble_eq_true rfl, Nat.le_of_ble_eq_true rfl⟩) hK (hDa _) hG hA hP hS (sg_Md_Md cI b M42 M43) hl.1 rfl 0 (pMd_0 _ _ _) rfl rfl (Nat.le_of_ble_eq_true rfl) dX9_doPlay_307 (fun H locs hP hS => ?_)
    refine lv_aload_n hx hb dX9_doPlay_310 rfl (lv_at hl 0 rfl) ?_
    refine lv_iload_n hx hb dX9_doPlay_311 rfl (lv_at hl 1 rfl) ?_
    refine lv_bipush (v := 7) hx hb dX9_doPlay_312 (by decide) ?_
    refine lv_iload hx hb dX9_doPlay_314 (lv_at hl 4 rfl) ?_
    obtain ⟨M44, hM44, hF⟩ := bd_use hF
    refine cl_VV ⟨hx, hb, hml, hown, htb⟩ (kX9_lays l D cS g cI b M43 x1 7 x10 _ hM44) (cwV 3 htb (gX9_lays bw4_125) rfl rfl rfl hdX9_lays ⟨Nat.le_of_ble_eq_true rfl, Nat.le_of_ble_eq_true rfl⟩) hK (hDa _) hG hA hP hS (sg_Md_Md cI b M43 M44) hl.1 rfl 0 (pMd_0 _ _ _) rfl rfl (Nat.le_of_ble_eq_true rfl) dX9_doPlay_316 (fun H locs hP hS => ?_)
    refine lv_aload_n hx hb dX9_doPlay_319 rfl (lv_at hl 0 rfl) ?_
    refine lv_iload_n hx hb dX9_doPlay_320 rfl (lv_at hl 1 rfl) ?_
    refine lv_bipush (v := 8) hx hb dX9_doPlay_321 (by decide) ?_
    refine lv_iload hx hb dX9_doPlay_323 (lv_at hl 3 rfl) ?_
    obtain ⟨M45, hM45, hF⟩ := bd_use hF
    refine cl_VV ⟨hx, hb, hml, hown, htb⟩ (kX9_lays l D cS g cI b M44 x1 8 x9 _ hM45) (cwV 3 htb (gX9_lays bw4_125) rfl rfl rfl hdX9_lays ⟨Nat.le_of_ble_eq_true rfl, Nat.le_of_ble_eq_true rfl⟩) hK (hDa _) hG hA hP hS (sg_Md_Md cI b M44 M45) hl.1 rfl 0 (pMd_0 _ _ _) rfl rfl (Nat.le_of_ble_eq_true rfl) dX9_doPlay_325 (fun H locs hP hS => ?_)
    refine lv_aload_n hx hb dX9_doPlay_328 rfl (lv_at hl 0 rfl) ?_
    refine lv_iload_n hx hb dX9_doPlay_329 rfl (lv_at hl 1 rfl) ?_
    refine lv_aload_n hx hb dX9_doPlay_330 rfl (lv_at hl 0 rfl) ?_
    refine lv_aload_n hx hb dX9_doPlay_331 rfl (lv_at hl 0 rfl) ?_
    refine lv_iload_n hx hb dX9_doPlay_332 rfl (lv_at hl 1 rfl) ?_
    refine lv_iconst (v := 4) hx hb dX9_doPlay_333 (by decide) ?_
    obtain ⟨r46, hr46, hF⟩ := bd_use hF
    refine cl_VI ⟨hx, hb, hml, hown, htb⟩ (kX9_its l D cS g cI b M45 x1 4 _ hr46) (cwV 2 htb (gX9_its bw4_118) rfl rfl rfl hdX9_its ⟨Nat.le_of_ble_eq_true rfl, Nat.le_of_ble_eq_true rfl⟩) hK (hDa _) hG hA hP hS (sr_Md_Md cI b M45) hl.1 rfl 0 (pMd_0 _ _ _) rfl rfl (Nat.le_of_ble_eq_true rfl) dX9_doPlay_334 (fun H locs hP hS => ?_)
    refine lv_iload hx hb dX9_doPlay_337 (lv_at hl 5 rfl) ?_
    obtain ⟨r47, hr47, hF⟩ := bd_use hF
    refine cl_VI ⟨hx, hb, hml, hown, htb⟩ (kX9_shareOf l D cS g cI b M45 r46 x11 _ hr47) (cwV 2 htb (gX9_shareOf bw4_188) rfl rfl rfl hdX9_shareOf ⟨Nat.le_of_ble_eq_true rfl, Nat.le_of_ble_eq_true rfl⟩) hK (hDa _) hG hA hP hS (sr_Md_Md cI b M45) hl.1 rfl 0 (pMd_0 _ _ _) rfl rfl (Nat.le_of_ble_eq_true rfl) dX9_doPlay_339 (fun H locs hP hS => ?_)
    obtain ⟨M48, hM48, hF⟩ := bd_use hF
    refine cl_VV ⟨hx, hb, hml, hown, htb⟩ (kX9_refunds l D cS g cI b M45 x1 r47 _ hM48) (cwV 2 htb (gX9_refunds bw4_160) rfl rfl rfl hdX9_refunds ⟨Nat.le_of_ble_eq_true rfl, Nat.le_of_ble_eq_true rfl⟩) hK (hDa _) hG hA hP hS (sg_Md_Md cI b M45 M48) hl.1 rfl 0 (pMd_0 _ _ _) rfl rfl (Nat.le_of_ble_eq_true rfl) dX9_doPlay_342 (fun H locs hP hS => ?_)
    refine lv_iload hx hb dX9_doPlay_345 (lv_at hl 3 rfl) ?_
    obtain ⟨er, eM⟩ := pr_use hF
    exact rt_I hx hb hr hlocks hS (by rw [← eM]; exact hP) er dX9_doPlay_347
  have j270 : ∀ (M : Md) (x1 : Int32) (x5 : Int32) (x9 : Int32) (x10 : Int32) (x11 : Int32) (s1 : Int32) (s2 : Int32) (H : Heap) (locs : List Loc) (ls : Array Slot), fX9_doPlay_j270 M x1 x5 x9 x10 x11 s1 s2 = some (r, M') → va_P D vwCl (wMd cI b M) H → va_S A s.heap H locs → lv_has ls 12 [(0, .ref (b 0)), (1, .int x1), (5, .int x5), (9, .int x9), (10, .int x10), (11, .int x11)] → W p l e rmX9_doPlay s m args below meth c H locs 0 0 (MQ below (qI D r (wMd cI b (M')) A) args s 0 0 A) (F0 m 270 ls [.int s2, .int s1, .ref (b 0)]) := by
    intro M x1 x5 x9 x10 x11 s1 s2 H locs ls hF hP hS hl
    refine lv_iconst (v := 0) hx hb dX9_doPlay_270 (by decide) ?_
    exact j271 M x1 x5 x9 x10 x11 s1 s2 0 _ _ _ hF hP hS (lv_sub hl [0, 1, 2, 3, 4, 5] rfl)
  have j228 : ∀ (M : Md) (x1 : Int32) (x2 : Int32) (x3 : Int32) (x5 : Int32) (x6 : Int32) (x8 : Int32) (x9 : Int32) (x10 : Int32) (x11 : Int32) (s1 : Int32) (s2 : Int32) (s3 : Int32) (H : Heap) (locs : List Loc) (ls : Array Slot), fX9_doPlay_j228 M x1 x2 x3 x5 x6 x8 x9 x10 x11 s1 s2 s3 = some (r, M') → va_P D vwCl (wMd cI b M) H → va_S A s.heap H locs → lv_has ls 12 [(0, .ref (b 0)), (1, .int x1), (2, .int x2), (3, .int x3), (5, .int x5), (6, .int x6), (8, .int x8), (9, .int x9), (10, .int x10), (11, .int x11)] → W p l e rmX9_doPlay s m args below meth c H locs 0 0 (MQ below (qI D r (wMd cI b (M')) A) args s 0 0 A) (F0 m 228 ls [.int s3, .int s2, .int s1, .ref (b 0)]) := by
    intro M x1 x2 x3 x5 x6 x8 x9 x10 x11 s1 s2 s3 H locs ls hF hP hS hl
    obtain ⟨M34, hM34, hF⟩ := bd_use hF
    refine cl_VV ⟨hx, hb, hml, hown, htb⟩ (kX9_counts l D cS g cI b M s1 s2 s3 _ hM34) (cwV 3 htb (gX9_counts bw4_184) rfl rfl rfl hdX9_counts ⟨Nat.le_of_ble_eq_true rfl, Nat.le_of_ble_eq_true rfl⟩) hK (hDa _) hG hA hP hS (sg_Md_Md cI b M M34) hl.1 rfl 0 (pMd_0 _ _ _) rfl rfl (Nat.le_of_ble_eq_true rfl) dX9_doPlay_228 (fun H locs hP hS => ?_)
    refine lv_aload_n hx hb dX9_doPlay_231 rfl (lv_at hl 0 rfl) ?_
    refine lv_iload hx hb dX9_doPlay_232 (lv_at hl 4 rfl) ?_
    refine lv_bipush (v := 7) hx hb dX9_doPlay_234 (by decide) ?_
    refine lv_iload_n hx hb dX9_doPlay_236 rfl (lv_at hl 3 rfl) ?_
    obtain ⟨M35, hM35, hF⟩ := bd_use hF
    refine cl_VV ⟨hx, hb, hml, hown, htb⟩ (kX9_counts l D cS g cI b M34 x5 7 x3 _ hM35) (cwV 3 htb (gX9_counts bw4_184) rfl rfl rfl hdX9_counts ⟨Nat.le_of_ble_eq_true rfl, Nat.le_of_ble_eq_true rfl⟩) hK (hDa _) hG hA hP hS (sg_Md_Md cI b M34 M35) hl.1 rfl 0 (pMd_0 _ _ _) rfl rfl (Nat.le_of_ble_eq_true rfl) dX9_doPlay_237 (fun H locs hP hS => ?_)
    refine lv_aload_n hx hb dX9_doPlay_240 rfl (lv_at hl 0 rfl) ?_
    refine lv_iload hx hb dX9_doPlay_241 (lv_at hl 4 rfl) ?_
    refine lv_bipush (v := 8) hx hb dX9_doPlay_243 (by decide) ?_
    refine lv_iload hx hb dX9_doPlay_245 (lv_at hl 7 rfl) ?_
    obtain ⟨M36, hM36, hF⟩ := bd_use hF
    refine cl_VV ⟨hx, hb, hml, hown, htb⟩ (kX9_counts l D cS g cI b M35 x5 8 x9 _ hM36) (cwV 3 htb (gX9_counts bw4_184) rfl rfl rfl hdX9_counts ⟨Nat.le_of_ble_eq_true rfl, Nat.le_of_ble_eq_true rfl⟩) hK (hDa _) hG hA hP hS (sg_Md_Md cI b M35 M36) hl.1 rfl 0 (pMd_0 _ _ _) rfl rfl (Nat.le_of_ble_eq_true rfl) dX9_doPlay_247 (fun H locs hP hS => ?_)
    refine lv_aload_n hx hb dX9_doPlay_250 rfl (lv_at hl 0 rfl) ?_
    refine lv_iload hx hb dX9_doPlay_251 (lv_at hl 4 rfl) ?_
    refine lv_bipush (v := 10) hx hb dX9_doPlay_253 (by decide) ?_
    refine lv_iload_n hx hb dX9_doPlay_255 rfl (lv_at hl 2 rfl) ?_
    refine lv_if_le (tgt := 270) hx hb dX9_doPlay_256 (by decide) (fun c37 => ?_) (fun c37 => ?_)
    · have hF := it_t hF c37
      exact j270 M36 x1 x5 x9 x10 x11 x5 10 _ _ _ hF hP hS (lv_sub hl [0, 1, 4, 7, 8, 9] rfl)
    · have hF := it_f hF c37
      refine lv_iload hx hb dX9_doPlay_259 (lv_at hl 6 rfl) ?_
      refine lv_iload hx hb dX9_doPlay_261 (lv_at hl 5 rfl) ?_
      refine lv_icmp_le (tgt := 270) hx hb dX9_doPlay_263 (by decide) (fun c49 => ?_) (fun c49 => ?_)
      · have hF := it_t hF c49
        exact j270 M36 x1 x5 x9 x10 x11 x5 10 _ _ _ hF hP hS (lv_sub hl [0, 1, 4, 7, 8, 9] rfl)
      · have hF := it_f hF c49
        refine lv_iconst (v := 1) hx hb dX9_doPlay_266 (by decide) ?_
        refine lv_goto (tgt := 271) hx hb dX9_doPlay_267 (by decide) ?_
        exact j271 M36 x1 x5 x9 x10 x11 x5 10 1 _ _ _ hF hP hS (lv_sub hl [0, 1, 4, 7, 8, 9] rfl)
  have j227 : ∀ (M : Md) (x1 : Int32) (x2 : Int32) (x3 : Int32) (x5 : Int32) (x6 : Int32) (x8 : Int32) (x9 : Int32) (x10 : Int32) (x11 : Int32) (s1 : Int32) (s2 : Int32) (H : Heap) (locs : List Loc) (ls : Array Slot), fX9_doPlay_j227 M x1 x2 x3 x5 x6 x8 x9 x10 x11 s1 s2 = some (r, M') → va_P D vwCl (wMd cI b M) H → va_S A s.heap H locs → lv_has ls 12 [(0, .ref (b 0)), (1, .int x1), (2, .int x2), (3, .int x3), (5, .int x5), (6, .int x6), (8, .int x8), (9, .int x9), (10, .int x10), (11, .int x11)] → W p l e rmX9_doPlay s m args below meth c H locs 0 0 (MQ below (qI D r (wMd cI b (M')) A) args s 0 0 A) (F0 m 227 ls [.int s2, .int s1, .ref (b 0)]) := by
    intro M x1 x2 x3 x5 x6 x8 x9 x10 x11 s1 s2 H locs ls hF hP hS hl
    refine lv_iconst (v := 0) hx hb dX9_doPlay_227 (by decide) ?_
    exact j228 M x1 x2 x3 x5 x6 x8 x9 x10 x11 s1 s2 0 _ _ _ hF hP hS (lv_sub hl [0, 1, 2, 3, 4, 5, 6, 7, 8, 9] rfl)
  have j129 : ∀ (M : Md) (x1 : Int32) (x2 : Int32) (x3 : Int32) (x4 : Int32) (x5 : Int32) (x6 : Int32) (x7 : Int32) (x8 : Int32) (s0 : Int32) (H : Heap) (locs : List Loc) (ls : Array Slot), fX9_doPlay_j129 M x1 x2 x3 x4 x5 x6 x7 x8 s0 = some (r, M') → va_P D vwCl (wMd cI b M) H → va_S A s.heap H locs → lv_has ls 12 [(0, .ref (b 0)), (1, .int x1), (2, .int x2), (3, .int x3), (4, .int x4), (5, .int x5), (6, .int x6), (7, .int x7), (8, .int x8)] → W p l e rmX9_doPlay s m args below meth c H locs 0 0 (MQ below (qI D r (wMd cI b (M')) A) args s 0 0 A) (F0 m 129 ls [.int s0]) := by
    intro M x1 x2 x3 x4 x5 x6 x7 x8 s0 H locs ls hF hP hS hl
    refine lv_istore (lv' := [(9, .int s0), (0, .ref (b 0)), (1, .int x1), (2, .int x2), (3, .int x3), (4, .int x4), (5, .int x5), (6, .int x6), (7, .int x7), (8, .int x8)]) hx hb dX9_doPlay_129 hl (by decide) rfl (fun ls hl => ?_)
    refine lv_aload_n hx hb dX9_doPlay_131 rfl (lv_at hl 1 rfl) ?_
    refine lv_iload_n hx hb dX9_doPlay_132 rfl (lv_at hl 2 rfl) ?_
    refine lv_iconst (v := 1) hx hb dX9_doPlay_133 (by decide) ?_
    obtain ⟨r23, hr23, hF⟩ := bd_use hF
    refine cl_VI ⟨hx, hb, hml, hown, htb⟩ (kX9_its l D cS g cI b M x1 1 _ hr23) (cwV 2 htb (gX9_its bw4_118) rfl rfl rfl hdX9_its ⟨Nat.le_of_ble_eq_true rfl, Nat.le_of_ble_eq_true rfl⟩) hK (hDa _) hG hA hP hS (sr_Md_Md cI b M) hl.1 rfl 0 (pMd_0 _ _ _) rfl rfl (Nat.le_of_ble_eq_true rfl) dX9_doPlay_134 (fun H locs hP hS => ?_)
    refine lv_aload_n hx hb dX9_doPlay_137 rfl (lv_at hl 1 rfl) ?_
    refine lv_iload hx hb dX9_doPlay_138 (lv_at hl 6 rfl) ?_
    refine lv_iconst (v := 4) hx hb dX9_doPlay_140 (by decide) ?_
    obtain ⟨r24, hr24, hF⟩ := bd_use hF
    refine cl_VI ⟨hx, hb, hml, hown, htb⟩ (kX9_of l D cS g cI b M x5 4 _ hr24) (cwV 2 htb (gX9_of bw4_83) rfl rfl rfl hdX9_of ⟨Nat.le_of_ble_eq_true rfl, Nat.le_of_ble_eq_true rfl⟩) hK (hDa _) hG hA hP hS (sr_Md_Md cI b M) hl.1 rfl 0 (pMd_0 _ _ _) rfl rfl (Nat.le_of_ble_eq_true rfl) dX9_doPlay_141 (fun H locs hP hS => ?_)
    obtain ⟨r25, hr25, hF⟩ := bd_use hF
    refine cl_SI ⟨hx, hb, hml, hown, htb⟩ (kX9_greater l D cS g cI r23 r24 _ hr25) (va_cwS 2 htb (gX9_greater bw4_157) rfl rfl rfl hdX9_greater ⟨Nat.le_of_ble_eq_true rfl, Nat.le_of_ble_eq_true rfl⟩) hK (hDa _) hG hA hP hS sg_nil hl.1 rfl rfl (Nat.le_of_ble_eq_true rfl) dX9_doPlay_144 (fun H locs hP hS => ?_)
    refine lv_istore (lv' := [(10, .int r25), (9, .int s0), (0, .ref (b 0)), (1, .int x1), (2, .int x2), (3, .int x3), (4, .int x4), (5, .int x5), (6, .int x6), (7, .int x7), (8, .int x8)]) hx hb dX9_doPlay_147 hl (by decide) rfl (fun ls hl => ?_)
    refine lv_iload hx hb dX9_doPlay_149 (lv_at hl 0 rfl) ?_
    refine lv_aload_n hx hb dX9_doPlay_151 rfl (lv_at hl 2 rfl) ?_
    refine lv_iload_n hx hb dX9_doPlay_152 rfl (lv_at hl 3 rfl) ?_
    refine lv_iconst (v := 1) hx hb dX9_doPlay_153 (by decide) ?_
    obtain ⟨r26, hr26, hF⟩ := bd_use hF
    refine cl_VI ⟨hx, hb, hml, hown, htb⟩ (kX9_its l D cS g cI b M x1 1 _ hr26) (cwV 2 htb (gX9_its bw4_118) rfl rfl rfl hdX9_its ⟨Nat.le_of_ble_eq_true rfl, Nat.le_of_ble_eq_true rfl⟩) hK (hDa _) hG hA hP hS (sr_Md_Md cI b M) hl.1 rfl 0 (pMd_0 _ _ _) rfl rfl (Nat.le_of_ble_eq_true rfl) dX9_doPlay_154 (fun H locs hP hS => ?_)
    refine lv_isub hx hb dX9_doPlay_157 ?_
    refine lv_topi (fun v27 ev27 => ?_)
    have hF := nm_use hF ev27
    refine lv_istore (lv' := [(11, .int v27), (10, .int r25), (9, .int s0), (0, .ref (b 0)), (1, .int x1), (2, .int x2), (3, .int x3), (4, .int x4), (5, .int x5), (6, .int x6), (7, .int x7), (8, .int x8)]) hx hb dX9_doPlay_158 hl (by decide) rfl (fun ls hl => ?_)
    refine lv_aload_n hx hb dX9_doPlay_160 rfl (lv_at hl 3 rfl) ?_
    refine va_get (ci := 9) (v := .ref (b 1)) (C := RX9) (T := TX9) (N := 10) hx hb htb kin9 hown hK hP 0 (pMd_0 cI b M) rfl 0 (by decide) (htb _ bw4_25) (fun _ h9 => h9) rfl dX9_doPlay_161 ?_
    refine lv_bipush (v := 9) hx hb dX9_doPlay_164 (by decide) ?_
    refine lv_bipush (v := 11) hx hb dX9_doPlay_166 (by decide) ?_
    refine lv_iload hx hb dX9_doPlay_168 (lv_at hl 8 rfl) ?_
    refine lv_imul hx hb dX9_doPlay_170 ?_
    refine lv_iadd hx hb dX9_doPlay_171 ?_
    refine lv_iconst (v := 4) hx hb dX9_doPlay_172 (by decide) ?_
    refine lv_iadd hx hb dX9_doPlay_173 ?_
    refine lv_iload hx hb dX9_doPlay_174 (lv_at hl 1 rfl) ?_
    refine lv_iload hx hb dX9_doPlay_176 (lv_at hl 2 rfl) ?_
    refine lv_iadd hx hb dX9_doPlay_178 ?_
    refine lv_aload_n hx hb dX9_doPlay_179 rfl (lv_at hl 3 rfl) ?_
    refine lv_iload hx hb dX9_doPlay_180 (lv_at hl 8 rfl) ?_
    refine lv_iconst (v := 1) hx hb dX9_doPlay_182 (by decide) ?_
    obtain ⟨r28, hr28, hF⟩ := bd_use hF
    refine cl_VI ⟨hx, hb, hml, hown, htb⟩ (kX9_of l D cS g cI b M x5 1 _ hr28) (cwV 2 htb (gX9_of bw4_83) rfl rfl rfl hdX9_of ⟨Nat.le_of_ble_eq_true rfl, Nat.le_of_ble_eq_true rfl⟩) hK (hDa _) hG hA hP hS (sr_Md_Md cI b M) hl.1 rfl 0 (pMd_0 _ _ _) rfl rfl (Nat.le_of_ble_eq_true rfl) dX9_doPlay_183 (fun H locs hP hS => ?_)
    refine lv_iadd hx hb dX9_doPlay_186 ?_
    refine lv_iload hx hb dX9_doPlay_187 (lv_at hl 7 rfl) ?_
    refine lv_aload_n hx hb dX9_doPlay_189 rfl (lv_at hl 3 rfl) ?_
    refine va_get (ci := 9) (v := .ref (b 1)) (C := RX9) (T := TX9) (N := 10) hx hb htb kin9 hown hK hP 0 (pMd_0 cI b M) rfl 0 (by decide) (htb _ bw4_25) (fun _ h9 => h9) rfl dX9_doPlay_190 ?_
    refine lv_bipush (v := 6) hx hb dX9_doPlay_193 (by decide) ?_
    obtain ⟨hi, hF⟩ := rd_use hF
    refine va_iald hx hb hK hP 1 0 (pMd_1 cI b M) rfl hi dX9_doPlay_195 ?_
    refine lv_topi (fun v29 ev29 => ?_)
    have hF := hF v29 ev29
    refine lv_imul hx hb dX9_doPlay_196 ?_
    refine lv_iadd hx hb dX9_doPlay_197 ?_
    obtain ⟨hi, hF⟩ := wr_use hF
    refine va_iast hx hb hK hP (hDa _) hS 1 0 (pMd_1 cI b M) rfl hi dX9_doPlay_198 (fun H locs hP _ hS => ?_)
    obtain ⟨M31, eM31⟩ : ∃ z : Md, z = ((upd (M.1) ((9 + (11 * x5)) + 4 : Int32).toNatClampNeg (((r25 + s0) + r28) + (x4 * v29))), M.2) := ⟨_, rfl⟩
    have hF := nm_use hF eM31
    have hP : va_P D vwCl (wMd cI b M31) H := by rw [eM31]; exact hP
    refine lv_aload_n hx hb dX9_doPlay_199 rfl (lv_at hl 3 rfl) ?_
    refine lv_iload hx hb dX9_doPlay_200 (lv_at hl 8 rfl) ?_
    refine lv_iconst (v := 5) hx hb dX9_doPlay_202 (by decide) ?_
    refine lv_iconst (v := 1) hx hb dX9_doPlay_203 (by decide) ?_
    obtain ⟨M32, hM32, hF⟩ := bd_use hF
    refine cl_VV ⟨hx, hb, hml, hown, htb⟩ (kX9_counts l D cS g cI b M31 x5 5 1 _ hM32) (cwV 3 htb (gX9_counts bw4_184) rfl rfl rfl hdX9_counts ⟨Nat.le_of_ble_eq_true rfl, Nat.le_of_ble_eq_true rfl⟩) hK (hDa _) hG hA hP hS (sg_Md_Md cI b M31 M32) hl.1 rfl 0 (pMd_0 _ _ _) rfl rfl (Nat.le_of_ble_eq_true rfl) dX9_doPlay_204 (fun H locs hP hS => ?_)
    refine lv_aload_n hx hb dX9_doPlay_207 rfl (lv_at hl 3 rfl) ?_
    refine lv_iload hx hb dX9_doPlay_208 (lv_at hl 8 rfl) ?_
    refine lv_bipush (v := 6) hx hb dX9_doPlay_210 (by decide) ?_
    refine lv_iload_n hx hb dX9_doPlay_212 rfl (lv_at hl 5 rfl) ?_
    refine lv_if_le (tgt := 227) hx hb dX9_doPlay_213 (by decide) (fun c33 => ?_) (fun c33 => ?_)
    · have hF := it_t hF c33
      exact j227 M32 x1 x2 x3 x5 x6 x8 s0 r25 v27 x5 6 _ _ _ hF hP hS (lv_sub hl [3, 4, 5, 6, 8, 9, 11, 2, 1, 0] rfl)
    · have hF := it_f hF c33
      refine lv_iload hx hb dX9_doPlay_216 (lv_at hl 11 rfl) ?_
      refine lv_iload hx hb dX9_doPlay_218 (lv_at hl 10 rfl) ?_
      refine lv_icmp_gt (tgt := 227) hx hb dX9_doPlay_220 (by decide) (fun c50 => ?_) (fun c50 => ?_)
      · have hF := it_t hF c50
        exact j227 M32 x1 x2 x3 x5 x6 x8 s0 r25 v27 x5 6 _ _ _ hF hP hS (lv_sub hl [3, 4, 5, 6, 8, 9, 11, 2, 1, 0] rfl)
      · have hF := it_f hF c50
        refine lv_iconst (v := 1) hx hb dX9_doPlay_223 (by decide) ?_
        refine lv_goto (tgt := 228) hx hb dX9_doPlay_224 (by decide) ?_
        exact j228 M32 x1 x2 x3 x5 x6 x8 s0 r25 v27 x5 6 1 _ _ _ hF hP hS (lv_sub hl [3, 4, 5, 6, 8, 9, 11, 2, 1, 0] rfl)
  refine lv_aload_n hx hb dX9_doPlay_0 rfl (lv_at hl 0 rfl) ?_
  refine lv_iload_n hx hb dX9_doPlay_1 rfl (lv_at hl 1 rfl) ?_
  obtain ⟨r1, hr1, hF⟩ := bd_use hF
  refine cl_VI ⟨hx, hb, hml, hown, htb⟩ (kX9_isBooking l D cS g cI b M x1 _ hr1) (cwV 1 htb (gX9_isBooking bw4_133) rfl rfl rfl hdX9_isBooking ⟨Nat.le_of_ble_eq_true rfl, Nat.le_of_ble_eq_true rfl⟩) hK (hDa _) hG hA hP hS (sr_Md_Md cI b M) hl.1 rfl 0 (pMd_0 _ _ _) rfl rfl (Nat.le_of_ble_eq_true rfl) dX9_doPlay_2 (fun H locs hP hS => ?_)
  refine lv_if_eq (tgt := 48) hx hb dX9_doPlay_5 (by decide) (fun c2 => ?_) (fun c2 => ?_)
  · have hF := it_t hF c2
    refine lv_iconst (v := (-1)) hx hb dX9_doPlay_48 (by decide) ?_
    obtain ⟨er, eM⟩ := pr_use hF
    exact rt_I hx hb hr hlocks hS (by rw [← eM]; exact hP) er dX9_doPlay_49
  · have hF := it_f hF c2
    refine lv_iload_n hx hb dX9_doPlay_8 rfl (lv_at hl 2 rfl) ?_
    refine lv_iconst (v := 0) hx hb dX9_doPlay_9 (by decide) ?_
    refine lv_aload_n hx hb dX9_doPlay_10 rfl (lv_at hl 0 rfl) ?_
    refine lv_aload_n hx hb dX9_doPlay_11 rfl (lv_at hl 0 rfl) ?_
    refine lv_iload_n hx hb dX9_doPlay_12 rfl (lv_at hl 1 rfl) ?_
    refine lv_iconst (v := 0) hx hb dX9_doPlay_13 (by decide) ?_
    obtain ⟨r3, hr3, hF⟩ := bd_use hF
    refine cl_VI ⟨hx, hb, hml, hown, htb⟩ (kX9_its l D cS g cI b M x1 0 _ hr3) (cwV 2 htb (gX9_its bw4_118) rfl rfl rfl hdX9_its ⟨Nat.le_of_ble_eq_true rfl, Nat.le_of_ble_eq_true rfl⟩) hK (hDa _) hG hA hP hS (sr_Md_Md cI b M) hl.1 rfl 0 (pMd_0 _ _ _) rfl rfl (Nat.le_of_ble_eq_true rfl) dX9_doPlay_14 (fun H locs hP hS => ?_)
    refine lv_iconst (v := 0) hx hb dX9_doPlay_17 (by decide) ?_
    obtain ⟨r4, hr4, hF⟩ := bd_use hF
    refine cl_VI ⟨hx, hb, hml, hown, htb⟩ (kX9_of l D cS g cI b M r3 0 _ hr4) (cwV 2 htb (gX9_of bw4_83) rfl rfl rfl hdX9_of ⟨Nat.le_of_ble_eq_true rfl, Nat.le_of_ble_eq_true rfl⟩) hK (hDa _) hG hA hP hS (sr_Md_Md cI b M) hl.1 rfl 0 (pMd_0 _ _ _) rfl rfl (Nat.le_of_ble_eq_true rfl) dX9_doPlay_18 (fun H locs hP hS => ?_)
    obtain ⟨r5, hr5, hF⟩ := bd_use hF
    refine cl_SI ⟨hx, hb, hml, hown, htb⟩ (kX9_in l D cS g cI x2 0 r4 _ hr5) (va_cwS 3 htb (gX9_in bw4_68) rfl rfl rfl hdX9_in ⟨Nat.le_of_ble_eq_true rfl, Nat.le_of_ble_eq_true rfl⟩) hK (hDa _) hG hA hP hS sg_nil hl.1 rfl rfl (Nat.le_of_ble_eq_true rfl) dX9_doPlay_21 (fun H locs hP hS => ?_)
    refine lv_if_eq (tgt := 48) hx hb dX9_doPlay_24 (by decide) (fun c6 => ?_) (fun c6 => ?_)
    · have hF := it_t hF c6
      refine lv_iconst (v := (-1)) hx hb dX9_doPlay_48 (by decide) ?_
      obtain ⟨er, eM⟩ := pr_use hF
      exact rt_I hx hb hr hlocks hS (by rw [← eM]; exact hP) er dX9_doPlay_49
    · have hF := it_f hF c6
      refine lv_iload_n hx hb dX9_doPlay_27 rfl (lv_at hl 3 rfl) ?_
      refine lv_iconst (v := 0) hx hb dX9_doPlay_28 (by decide) ?_
      refine lv_bipush (v := 20) hx hb dX9_doPlay_29 (by decide) ?_
      obtain ⟨r7, hr7, hF⟩ := bd_use hF
      refine cl_SI ⟨hx, hb, hml, hown, htb⟩ (kX9_in l D cS g cI x3 0 20 _ hr7) (va_cwS 3 htb (gX9_in bw4_68) rfl rfl rfl hdX9_in ⟨Nat.le_of_ble_eq_true rfl, Nat.le_of_ble_eq_true rfl⟩) hK (hDa _) hG hA hP hS sg_nil hl.1 rfl rfl (Nat.le_of_ble_eq_true rfl) dX9_doPlay_31 (fun H locs hP hS => ?_)
      refine lv_if_eq (tgt := 48) hx hb dX9_doPlay_34 (by decide) (fun c8 => ?_) (fun c8 => ?_)
      · have hF := it_t hF c8
        refine lv_iconst (v := (-1)) hx hb dX9_doPlay_48 (by decide) ?_
        obtain ⟨er, eM⟩ := pr_use hF
        exact rt_I hx hb hr hlocks hS (by rw [← eM]; exact hP) er dX9_doPlay_49
      · have hF := it_f hF c8
        refine lv_iload hx hb dX9_doPlay_37 (lv_at hl 4 rfl) ?_
        refine lv_iconst (v := 0) hx hb dX9_doPlay_39 (by decide) ?_
        refine lv_bipush (v := 9) hx hb dX9_doPlay_40 (by decide) ?_
        obtain ⟨r9, hr9, hF⟩ := bd_use hF
        refine cl_SI ⟨hx, hb, hml, hown, htb⟩ (kX9_in l D cS g cI x4 0 9 _ hr9) (va_cwS 3 htb (gX9_in bw4_68) rfl rfl rfl hdX9_in ⟨Nat.le_of_ble_eq_true rfl, Nat.le_of_ble_eq_true rfl⟩) hK (hDa _) hG hA hP hS sg_nil hl.1 rfl rfl (Nat.le_of_ble_eq_true rfl) dX9_doPlay_42 (fun H locs hP hS => ?_)
        refine lv_if_ne (tgt := 50) hx hb dX9_doPlay_45 (by decide) (fun c10 => ?_) (fun c10 => ?_)
        · have hF := it_f hF c10
          refine lv_aload_n hx hb dX9_doPlay_50 rfl (lv_at hl 0 rfl) ?_
          refine lv_iload_n hx hb dX9_doPlay_51 rfl (lv_at hl 1 rfl) ?_
          refine lv_iconst (v := 0) hx hb dX9_doPlay_52 (by decide) ?_
          obtain ⟨r11, hr11, hF⟩ := bd_use hF
          refine cl_VI ⟨hx, hb, hml, hown, htb⟩ (kX9_its l D cS g cI b M x1 0 _ hr11) (cwV 2 htb (gX9_its bw4_118) rfl rfl rfl hdX9_its ⟨Nat.le_of_ble_eq_true rfl, Nat.le_of_ble_eq_true rfl⟩) hK (hDa _) hG hA hP hS (sr_Md_Md cI b M) hl.1 rfl 0 (pMd_0 _ _ _) rfl rfl (Nat.le_of_ble_eq_true rfl) dX9_doPlay_53 (fun H locs hP hS => ?_)
          refine lv_istore (lv' := [(5, .int r11), (0, .ref (b 0)), (1, .int x1), (2, .int x2), (3, .int x3), (4, .int x4)]) hx hb dX9_doPlay_56 hl (by decide) rfl (fun ls hl => ?_)
          refine lv_aload_n hx hb dX9_doPlay_58 rfl (lv_at hl 1 rfl) ?_
          refine lv_iload_n hx hb dX9_doPlay_59 rfl (lv_at hl 2 rfl) ?_
          refine lv_iconst (v := 3) hx hb dX9_doPlay_60 (by decide) ?_
          obtain ⟨r12, hr12, hF⟩ := bd_use hF
          refine cl_VI ⟨hx, hb, hml, hown, htb⟩ (kX9_its l D cS g cI b M x1 3 _ hr12) (cwV 2 htb (gX9_its bw4_118) rfl rfl rfl hdX9_its ⟨Nat.le_of_ble_eq_true rfl, Nat.le_of_ble_eq_true rfl⟩) hK (hDa _) hG hA hP hS (sr_Md_Md cI b M) hl.1 rfl 0 (pMd_0 _ _ _) rfl rfl (Nat.le_of_ble_eq_true rfl) dX9_doPlay_61 (fun H locs hP hS => ?_)
          refine lv_if_ne (tgt := 78) hx hb dX9_doPlay_64 (by decide) (fun c13 => ?_) (fun c13 => ?_)
          · have hF := it_f hF c13
            refine lv_bipush (v := (-2)) hx hb dX9_doPlay_78 (by decide) ?_
            obtain ⟨er, eM⟩ := pr_use hF
            exact rt_I hx hb hr hlocks hS (by rw [← eM]; exact hP) er dX9_doPlay_80
          · have hF := it_t hF c13
            refine lv_aload_n hx hb dX9_doPlay_67 rfl (lv_at hl 1 rfl) ?_
            refine lv_iload hx hb dX9_doPlay_68 (lv_at hl 0 rfl) ?_
            refine lv_iconst (v := (-1)) hx hb dX9_doPlay_70 (by decide) ?_
            obtain ⟨r14, hr14, hF⟩ := bd_use hF
            refine cl_VI ⟨hx, hb, hml, hown, htb⟩ (kX9_nextOf l D cS g cI b M r11 (-1) _ hr14) (cwV 2 htb (gX9_nextOf bw4_153) rfl rfl rfl hdX9_nextOf ⟨Nat.le_of_ble_eq_true rfl, Nat.le_of_ble_eq_true rfl⟩) hK (hDa _) hG hA hP hS (sr_Md_Md cI b M) hl.1 rfl 0 (pMd_0 _ _ _) rfl rfl (Nat.le_of_ble_eq_true rfl) dX9_doPlay_71 (fun H locs hP hS => ?_)
            refine lv_iload_n hx hb dX9_doPlay_74 rfl (lv_at hl 2 rfl) ?_
            refine lv_icmp_eq (tgt := 81) hx hb dX9_doPlay_75 (by decide) (fun c15 => ?_) (fun c15 => ?_)
            · have hF := it_t hF c15
              refine lv_aload_n hx hb dX9_doPlay_81 rfl (lv_at hl 1 rfl) ?_
              refine lv_iload hx hb dX9_doPlay_82 (lv_at hl 0 rfl) ?_
              refine lv_iconst (v := 0) hx hb dX9_doPlay_84 (by decide) ?_
              obtain ⟨r16, hr16, hF⟩ := bd_use hF
              refine cl_VI ⟨hx, hb, hml, hown, htb⟩ (kX9_of l D cS g cI b M r11 0 _ hr16) (cwV 2 htb (gX9_of bw4_83) rfl rfl rfl hdX9_of ⟨Nat.le_of_ble_eq_true rfl, Nat.le_of_ble_eq_true rfl⟩) hK (hDa _) hG hA hP hS (sr_Md_Md cI b M) hl.1 rfl 0 (pMd_0 _ _ _) rfl rfl (Nat.le_of_ble_eq_true rfl) dX9_doPlay_85 (fun H locs hP hS => ?_)
              refine lv_istore (lv' := [(6, .int r16), (5, .int r11), (0, .ref (b 0)), (1, .int x1), (2, .int x2), (3, .int x3), (4, .int x4)]) hx hb dX9_doPlay_88 hl (by decide) rfl (fun ls hl => ?_)
              refine lv_iload hx hb dX9_doPlay_90 (lv_at hl 0 rfl) ?_
              refine lv_aload_n hx hb dX9_doPlay_92 rfl (lv_at hl 2 rfl) ?_
              refine va_get (ci := 9) (v := .ref (b 1)) (C := RX9) (T := TX9) (N := 10) hx hb htb kin9 hown hK hP 0 (pMd_0 cI b M) rfl 0 (by decide) (htb _ bw4_25) (fun _ h9 => h9) rfl dX9_doPlay_93 ?_
              refine lv_iconst (v := 5) hx hb dX9_doPlay_96 (by decide) ?_
              obtain ⟨hi, hF⟩ := rd_use hF
              refine va_iald hx hb hK hP 1 0 (pMd_1 cI b M) rfl hi dX9_doPlay_97 ?_
              refine lv_topi (fun v17 ev17 => ?_)
              have hF := hF v17 ev17
              refine lv_iadd hx hb dX9_doPlay_98 ?_
              refine lv_topi (fun v18 ev18 => ?_)
              have hF := nm_use hF ev18
              refine lv_istore (lv' := [(7, .int v18), (6, .int r16), (5, .int r11), (0, .ref (b 0)), (1, .int x1), (2, .int x2), (3, .int x3), (4, .int x4)]) hx hb dX9_doPlay_99 hl (by decide) rfl (fun ls hl => ?_)
              refine lv_iload_n hx hb dX9_doPlay_101 rfl (lv_at hl 5 rfl) ?_
              refine lv_iload_n hx hb dX9_doPlay_102 rfl (lv_at hl 6 rfl) ?_
              refine lv_aload_n hx hb dX9_doPlay_103 rfl (lv_at hl 3 rfl) ?_
              refine va_get (ci := 9) (v := .ref (b 1)) (C := RX9) (T := TX9) (N := 10) hx hb htb kin9 hown hK hP 0 (pMd_0 cI b M) rfl 0 (by decide) (htb _ bw4_25) (fun _ h9 => h9) rfl dX9_doPlay_104 ?_
              refine lv_iconst (v := 4) hx hb dX9_doPlay_107 (by decide) ?_
              obtain ⟨hi, hF⟩ := rd_use hF
              refine va_iald hx hb hK hP 1 0 (pMd_1 cI b M) rfl hi dX9_doPlay_108 ?_
              refine lv_topi (fun v19 ev19 => ?_)
              have hF := hF v19 ev19
              refine lv_imul hx hb dX9_doPlay_109 ?_
              refine lv_iadd hx hb dX9_doPlay_110 ?_
              refine lv_topi (fun v20 ev20 => ?_)
              have hF := nm_use hF ev20
              refine lv_istore (lv' := [(8, .int v20), (7, .int v18), (6, .int r16), (5, .int r11), (0, .ref (b 0)), (1, .int x1), (2, .int x2), (3, .int x3), (4, .int x4)]) hx hb dX9_doPlay_111 hl (by decide) rfl (fun ls hl => ?_)
              refine lv_iload_n hx hb dX9_doPlay_113 rfl (lv_at hl 6 rfl) ?_
              refine lv_if_ne (tgt := 122) hx hb dX9_doPlay_114 (by decide) (fun c21 => ?_) (fun c21 => ?_)
              · have hF := it_f hF c21
                refine lv_iload hx hb dX9_doPlay_122 (lv_at hl 0 rfl) ?_
                refine lv_iload hx hb dX9_doPlay_124 (lv_at hl 1 rfl) ?_
                obtain ⟨r22, hr22, hF⟩ := bd_use hF
                refine cl_SI ⟨hx, hb, hml, hown, htb⟩ (kX9_lesser l D cS g cI v20 v18 _ hr22) (va_cwS 2 htb (gX9_lesser bw4_122) rfl rfl rfl hdX9_lesser ⟨Nat.le_of_ble_eq_true rfl, Nat.le_of_ble_eq_true rfl⟩) hK (hDa _) hG hA hP hS sg_nil hl.1 rfl rfl (Nat.le_of_ble_eq_true rfl) dX9_doPlay_126 (fun H locs hP hS => ?_)
                exact j129 M x1 x2 x3 x4 r11 r16 v18 v20 r22 _ _ _ hF hP hS (lv_sub hl [4, 5, 6, 7, 8, 3, 2, 1, 0] rfl)
              · have hF := it_t hF c21
                refine lv_iload hx hb dX9_doPlay_117 (lv_at hl 2 rfl) ?_
                refine lv_goto (tgt := 129) hx hb dX9_doPlay_119 (by decide) ?_
                exact j129 M x1 x2 x3 x4 r11 r16 v18 v20 r16 _ _ _ hF hP hS (lv_sub hl [4, 5, 6, 7, 8, 3, 2, 1, 0] rfl)
            · have hF := it_f hF c15
              refine lv_bipush (v := (-2)) hx hb dX9_doPlay_78 (by decide) ?_
              obtain ⟨er, eM⟩ := pr_use hF
              exact rt_I hx hb hr hlocks hS (by rw [← eM]; exact hP) er dX9_doPlay_80
        · have hF := it_t hF c10
          refine lv_iconst (v := (-1)) hx hb dX9_doPlay_48 (by decide) ?_
          obtain ⟨er, eM⟩ := pr_use hF
          exact rt_I hx hb hr hlocks hS (by rw [← eM]; exact hP) er dX9_doPlay_49
noncomputable def fX9_play  (M : Md) (x1 : Int32) (x2 : Int32) (x3 : Int32) (x4 : Int32) : Option (Int32 × Md) := (fX9_hold M).bind fun M1 => b2 (fX9_doPlay M1 x1 x2 x3 x4) fun r3 M2 => b2 (fX9_ends M2 r3) fun r5 M4 => some (r5, M4)
abbrev vX9_play : List Cond := Cond.code yX9_play cX9_play 5 (some .int) :: BIG
theorem gX9_play {own : String} {idx : Nat} (h : (Cond.methodLink own idx yX9_play) ∈ BIG) : GoodIn BIG (wsV own idx RX9 yX9_play vX9_play) := gdV h bw4_177 bw4_178 bw1_11 bw4_179
def rmX9_play : Room := { frames := 3, cells := 0, slots := 0, locals := 81 }
theorem hdX9_play : yX9_play.cls = RX9 ∧ yX9_play.cls ≠ "java/lang/invoke/MethodHandle" ∧ yX9_play.cls ≠ "java/lang/invoke/VarHandle" ∧ (parseMethodDescriptor yX9_play.desc).map (fun d => d.parameters.length) = some 4 := by decide +kernel
set_option maxHeartbeats 4000000 in
set_option maxRecDepth 100000 in
theorem kX9_play (l : Launch) (D : va_G) (cS : ClassId) (g : Nat → Nat) (cI : ClassId) (b : Nat → Nat) (M : Md) (x1 : Int32) (x2 : Int32) (x3 : Int32) (x4 : Int32) (r : Int32) (M' : Md) (hF : fX9_play M x1 x2 x3 x4 = some (r, M')) : mI l yX9_play vX9_play rmX9_play D cI cS g [.ref (b 0), .int x1, .int x2, .int x3, .int x4] (wMd cI b M) r (wMd cI b (M')) := by
  refine st_I rfl (by decide) (Nat.le_of_ble_eq_true rfl) ?_
  intro p e s m args below meth c A ls hx hb hr hml hlocks hown hts hA hK hD0 hG hP hS hl
  have hown : s.vm.findClass RX9 = some m.cls := hown
  have hDa : ∀ M, va_D A (wMd cI b M) := fun M => hD0.adr rfl
  have htb : ∀ w ∈ BIG, w.before args s = true := fun w h => hts w (List.mem_cons_of_mem _ h)
  have hl : lv_has ls 5 [(0, .ref (b 0)), (1, .int x1), (2, .int x2), (3, .int x3), (4, .int x4)] := hl
  refine lv_aload_n hx hb dX9_play_0 rfl (lv_at hl 0 rfl) ?_
  obtain ⟨M1, hM1, hF⟩ := bd_use hF
  refine cl_VV ⟨hx, hb, hml, hown, htb⟩ (kX9_hold l D cS g cI b M  _ hM1) (cwV 0 htb (gX9_hold bw4_60) rfl rfl rfl hdX9_hold ⟨Nat.le_of_ble_eq_true rfl, Nat.le_of_ble_eq_true rfl⟩) hK (hDa _) hG hA hP hS (sg_Md_Md cI b M M1) hl.1 rfl 0 (pMd_0 _ _ _) rfl rfl (Nat.le_of_ble_eq_true rfl) dX9_play_1 (fun H locs hP hS => ?_)
  refine lv_aload_n hx hb dX9_play_4 rfl (lv_at hl 0 rfl) ?_
  refine lv_aload_n hx hb dX9_play_5 rfl (lv_at hl 0 rfl) ?_
  refine lv_iload_n hx hb dX9_play_6 rfl (lv_at hl 1 rfl) ?_
  refine lv_iload_n hx hb dX9_play_7 rfl (lv_at hl 2 rfl) ?_
  refine lv_iload_n hx hb dX9_play_8 rfl (lv_at hl 3 rfl) ?_
  refine lv_iload hx hb dX9_play_9 (lv_at hl 4 rfl) ?_
  obtain ⟨r3, M2, hM2, hF⟩ := b2_use hF
  refine cl_VI ⟨hx, hb, hml, hown, htb⟩ (kX9_doPlay l D cS g cI b M1 x1 x2 x3 x4 _ _ hM2) (cwV 4 htb (gX9_doPlay bw4_180) rfl rfl rfl hdX9_doPlay ⟨Nat.le_of_ble_eq_true rfl, Nat.le_of_ble_eq_true rfl⟩) hK (hDa _) hG hA hP hS (sg_Md_Md cI b M1 M2) hl.1 rfl 0 (pMd_0 _ _ _) rfl rfl (Nat.le_of_ble_eq_true rfl) dX9_play_11 (fun H locs hP hS => ?_)
  obtain ⟨r5, M4, hM4, hF⟩ := b2_use hF
  refine cl_VI ⟨hx, hb, hml, hown, htb⟩ (kX9_ends l D cS g cI b M2 r3 _ _ hM4) (cwV 1 htb (gX9_ends bw4_71) rfl rfl rfl hdX9_ends ⟨Nat.le_of_ble_eq_true rfl, Nat.le_of_ble_eq_true rfl⟩) hK (hDa _) hG hA hP hS (sg_Md_Md cI b M2 M4) hl.1 rfl 0 (pMd_0 _ _ _) rfl rfl (Nat.le_of_ble_eq_true rfl) dX9_play_14 (fun H locs hP hS => ?_)
  obtain ⟨er, eM⟩ := pr_use hF
  exact rt_I hx hb hr hlocks hS (by rw [← eM]; exact hP) er dX9_play_17
noncomputable def fX9_take_l34  (x2 : Int32) : Nat → Md → Int32 → Option (Int32 × Md) := fun fu => Nat.rec (motive := fun _ => Md → Int32 → Option (Int32 × Md)) (fun _ _ => none) (fun _ ih => fun M x3 => if 517 ≤ x3 then (Rd (M.1) 1553 3 fun v8 => b2 (fX9_ends M v8) fun r10 M9 => some (r10, M9)) else (Rd (M.1) 1553 x3 fun v11 => Wr (M.1) 1553 ((x2 + 1) + x3) v11 fun f12 => nm ((f12, M.2)) fun M13 => nm (x3 + 1) fun v14 => ih M13 v14)) fu
theorem fX9_take_l34_s  (x2 : Int32) (fu : Nat) (M : Md) (x3 : Int32) : fX9_take_l34 x2 (fu + 1) M x3 = (if 517 ≤ x3 then (Rd (M.1) 1553 3 fun v8 => b2 (fX9_ends M v8) fun r10 M9 => some (r10, M9)) else (Rd (M.1) 1553 x3 fun v11 => Wr (M.1) 1553 ((x2 + 1) + x3) v11 fun f12 => nm ((f12, M.2)) fun M13 => nm (x3 + 1) fun v14 => (fX9_take_l34 x2 fu) M13 v14)) := rfl
theorem fX9_take_l34_z  (x2 : Int32) (M : Md) (x3 : Int32) : fX9_take_l34 x2 0 M x3 = none := rfl
noncomputable def fX9_take  (M : Md) (x1 : Int32) : Option (Int32 × Md) := (fX9_in x1 0 1).bind fun r1 => if r1 = 0 then (some ((-1), M)) else ((fX9_hold M).bind fun M3 => nm (517 + (518 * x1)) fun v4 => Wr (M3.1) 1553 v4 1 fun f5 => nm ((f5, M3.2)) fun M6 => fX9_take_l34 v4 FU M6 0)
abbrev vX9_take : List Cond := Cond.code yX9_take cX9_take 4 (some .int) :: BIG
theorem gX9_take {own : String} {idx : Nat} (h : (Cond.methodLink own idx yX9_take) ∈ BIG) : GoodIn BIG (wsV own idx RX9 yX9_take vX9_take) := gdV h bw4_193 bw4_194 bw1_11 bw4_195
def rmX9_take : Room := { frames := 1, cells := 0, slots := 0, locals := 22 }
theorem hdX9_take : yX9_take.cls = RX9 ∧ yX9_take.cls ≠ "java/lang/invoke/MethodHandle" ∧ yX9_take.cls ≠ "java/lang/invoke/VarHandle" ∧ (parseMethodDescriptor yX9_take.desc).map (fun d => d.parameters.length) = some 1 := by decide +kernel
set_option maxHeartbeats 4000000 in
set_option maxRecDepth 100000 in
theorem kX9_take (l : Launch) (D : va_G) (cS : ClassId) (g : Nat → Nat) (cI : ClassId) (b : Nat → Nat) (M : Md) (x1 : Int32) (r : Int32) (M' : Md) (hF : fX9_take M x1 = some (r, M')) : mI l yX9_take vX9_take rmX9_take D cI cS g [.ref (b 0), .int x1] (wMd cI b M) r (wMd cI b (M')) := by
  refine st_I rfl (by decide) (Nat.le_of_ble_eq_true rfl) ?_
  intro p e s m args below meth c A ls hx hb hr hml hlocks hown hts hA hK hD0 hG hP hS hl
  have hown : s.vm.findClass RX9 = some m.cls := hown
  have hDa : ∀ M, va_D A (wMd cI b M) := fun M => hD0.adr rfl
  have htb : ∀ w ∈ BIG, w.before args s = true := fun w h => hts w (List.mem_cons_of_mem _ h)
  have hl : lv_has ls 4 [(0, .ref (b 0)), (1, .int x1)] := hl
  have l34 : ∀ (x2 : Int32) (fu : Nat) (M : Md) (x3 : Int32) (H : Heap) (locs : List Loc) (ls : Array Slot), fX9_take_l34 x2 fu M x3 = some (r, M') → va_P D vwCl (wMd cI b M) H → va_S A s.heap H locs → lv_has ls 4 [(0, .ref (b 0)), (2, .int x2), (3, .int x3)] → W p l e rmX9_take s m args below meth c H locs 0 0 (MQ below (qI D r (wMd cI b (M')) A) args s 0 0 A) (F0 m 34 ls []) := by
    intro x2  fu
    induction fu with
    | zero => intro M x3 H locs ls hF; exact nn_use hF
    | succ fu ihn =>
      intro M x3 H locs ls hF hP hS hl 
      rw [fX9_take_l34_s] at hF
      refine lv_iload_n hx hb dX9_take_34 rfl (lv_at hl 2 rfl) ?_
      refine lv_sipush (v := 517) hx hb dX9_take_35 (by decide) ?_
      refine lv_icmp_ge (tgt := 63) hx hb dX9_take_38 (by decide) (fun c7 => ?_) (fun c7 => ?_)
      · have hF := it_t hF c7
        refine lv_aload_n hx hb dX9_take_63 rfl (lv_at hl 0 rfl) ?_
        refine lv_aload_n hx hb dX9_take_64 rfl (lv_at hl 0 rfl) ?_
        refine va_get (ci := 9) (v := .ref (b 1)) (C := RX9) (T := TX9) (N := 10) hx hb htb kin9 hown hK hP 0 (pMd_0 cI b M) rfl 0 (by decide) (htb _ bw4_25) (fun _ h9 => h9) rfl dX9_take_65 ?_
        refine lv_iconst (v := 3) hx hb dX9_take_68 (by decide) ?_
        obtain ⟨hi, hF⟩ := rd_use hF
        refine va_iald hx hb hK hP 1 0 (pMd_1 cI b M) rfl hi dX9_take_69 ?_
        refine lv_topi (fun v8 ev8 => ?_)
        have hF := hF v8 ev8
        obtain ⟨r10, M9, hM9, hF⟩ := b2_use hF
        refine cl_VI ⟨hx, hb, hml, hown, htb⟩ (kX9_ends l D cS g cI b M v8 _ _ hM9) (cwV 1 htb (gX9_ends bw4_71) rfl rfl rfl hdX9_ends ⟨Nat.le_of_ble_eq_true rfl, Nat.le_of_ble_eq_true rfl⟩) hK (hDa _) hG hA hP hS (sg_Md_Md cI b M M9) hl.1 rfl 0 (pMd_0 _ _ _) rfl rfl (Nat.le_of_ble_eq_true rfl) dX9_take_70 (fun H locs hP hS => ?_)
        obtain ⟨er, eM⟩ := pr_use hF
        exact rt_I hx hb hr hlocks hS (by rw [← eM]; exact hP) er dX9_take_73
      · have hF := it_f hF c7
        refine lv_aload_n hx hb dX9_take_41 rfl (lv_at hl 0 rfl) ?_
        refine va_get (ci := 9) (v := .ref (b 1)) (C := RX9) (T := TX9) (N := 10) hx hb htb kin9 hown hK hP 0 (pMd_0 cI b M) rfl 0 (by decide) (htb _ bw4_25) (fun _ h9 => h9) rfl dX9_take_42 ?_
        refine lv_iload_n hx hb dX9_take_45 rfl (lv_at hl 1 rfl) ?_
        refine lv_iconst (v := 1) hx hb dX9_take_46 (by decide) ?_
        refine lv_iadd hx hb dX9_take_47 ?_
        refine lv_iload_n hx hb dX9_take_48 rfl (lv_at hl 2 rfl) ?_
        refine lv_iadd hx hb dX9_take_49 ?_
        refine lv_aload_n hx hb dX9_take_50 rfl (lv_at hl 0 rfl) ?_
        refine va_get (ci := 9) (v := .ref (b 1)) (C := RX9) (T := TX9) (N := 10) hx hb htb kin9 hown hK hP 0 (pMd_0 cI b M) rfl 0 (by decide) (htb _ bw4_25) (fun _ h9 => h9) rfl dX9_take_51 ?_
        refine lv_iload_n hx hb dX9_take_54 rfl (lv_at hl 2 rfl) ?_
        obtain ⟨hi, hF⟩ := rd_use hF
        refine va_iald hx hb hK hP 1 0 (pMd_1 cI b M) rfl hi dX9_take_55 ?_
        refine lv_topi (fun v11 ev11 => ?_)
        have hF := hF v11 ev11
        obtain ⟨hi, hF⟩ := wr_use hF
        refine va_iast hx hb hK hP (hDa _) hS 1 0 (pMd_1 cI b M) rfl hi dX9_take_56 (fun H locs hP _ hS => ?_)
        obtain ⟨M13, eM13⟩ : ∃ z : Md, z = ((upd (M.1) ((x2 + 1) + x3 : Int32).toNatClampNeg v11), M.2) := ⟨_, rfl⟩
        have hF := nm_use hF eM13
        have hP : va_P D vwCl (wMd cI b M13) H := by rw [eM13]; exact hP
        obtain ⟨v14, ev14⟩ : ∃ z : Int32, z = x3 + 1 := ⟨_, rfl⟩
        refine lv_iinc (v := v14) (lv' := [(3, .int v14), (0, .ref (b 0)), (2, .int x2)]) hx hb dX9_take_57 hl (k := 2) rfl (by rw [ev14]; rfl) (by decide) rfl (fun ls hl => ?_)
        have hF := nm_use hF ev14
        refine lv_goto (tgt := 34) hx hb dX9_take_60 (by decide) ?_
        exact ihn M13 v14 _ _ _ hF hP hS (lv_sub hl [1, 2, 0] rfl)
  refine lv_iload_n hx hb dX9_take_0 rfl (lv_at hl 1 rfl) ?_
  refine lv_iconst (v := 0) hx hb dX9_take_1 (by decide) ?_
  refine lv_iconst (v := 1) hx hb dX9_take_2 (by decide) ?_
  obtain ⟨r1, hr1, hF⟩ := bd_use hF
  refine cl_SI ⟨hx, hb, hml, hown, htb⟩ (kX9_in l D cS g cI x1 0 1 _ hr1) (va_cwS 3 htb (gX9_in bw4_68) rfl rfl rfl hdX9_in ⟨Nat.le_of_ble_eq_true rfl, Nat.le_of_ble_eq_true rfl⟩) hK (hDa _) hG hA hP hS sg_nil hl.1 rfl rfl (Nat.le_of_ble_eq_true rfl) dX9_take_3 (fun H locs hP hS => ?_)
  refine lv_if_ne (tgt := 11) hx hb dX9_take_6 (by decide) (fun c2 => ?_) (fun c2 => ?_)
  · have hF := it_f hF c2
    refine lv_aload_n hx hb dX9_take_11 rfl (lv_at hl 0 rfl) ?_
    obtain ⟨M3, hM3, hF⟩ := bd_use hF
    refine cl_VV ⟨hx, hb, hml, hown, htb⟩ (kX9_hold l D cS g cI b M  _ hM3) (cwV 0 htb (gX9_hold bw4_60) rfl rfl rfl hdX9_hold ⟨Nat.le_of_ble_eq_true rfl, Nat.le_of_ble_eq_true rfl⟩) hK (hDa _) hG hA hP hS (sg_Md_Md cI b M M3) hl.1 rfl 0 (pMd_0 _ _ _) rfl rfl (Nat.le_of_ble_eq_true rfl) dX9_take_12 (fun H locs hP hS => ?_)
    refine lv_sipush (v := 517) hx hb dX9_take_15 (by decide) ?_
    refine lv_sipush (v := 518) hx hb dX9_take_18 (by decide) ?_
    refine lv_iload_n hx hb dX9_take_21 rfl (lv_at hl 1 rfl) ?_
    refine lv_imul hx hb dX9_take_22 ?_
    refine lv_iadd hx hb dX9_take_23 ?_
    refine lv_topi (fun v4 ev4 => ?_)
    have hF := nm_use hF ev4
    refine lv_istore_n (lv' := [(2, .int v4), (0, .ref (b 0)), (1, .int x1)]) hx hb dX9_take_24 rfl hl (by decide) rfl (fun ls hl => ?_)
    refine lv_aload_n hx hb dX9_take_25 rfl (lv_at hl 1 rfl) ?_
    refine va_get (ci := 9) (v := .ref (b 1)) (C := RX9) (T := TX9) (N := 10) hx hb htb kin9 hown hK hP 0 (pMd_0 cI b M3) rfl 0 (by decide) (htb _ bw4_25) (fun _ h9 => h9) rfl dX9_take_26 ?_
    refine lv_iload_n hx hb dX9_take_29 rfl (lv_at hl 0 rfl) ?_
    refine lv_iconst (v := 1) hx hb dX9_take_30 (by decide) ?_
    obtain ⟨hi, hF⟩ := wr_use hF
    refine va_iast hx hb hK hP (hDa _) hS 1 0 (pMd_1 cI b M3) rfl hi dX9_take_31 (fun H locs hP _ hS => ?_)
    obtain ⟨M6, eM6⟩ : ∃ z : Md, z = ((upd (M3.1) (v4 : Int32).toNatClampNeg 1), M3.2) := ⟨_, rfl⟩
    have hF := nm_use hF eM6
    have hP : va_P D vwCl (wMd cI b M6) H := by rw [eM6]; exact hP
    refine lv_iconst (v := 0) hx hb dX9_take_32 (by decide) ?_
    refine lv_istore_n (lv' := [(3, .int 0), (2, .int v4), (0, .ref (b 0)), (1, .int x1)]) hx hb dX9_take_33 rfl hl (by decide) rfl (fun ls hl => ?_)
    refine l34 v4  _ M6 0 _ _ _ hF hP hS (lv_sub hl [2, 1, 0] rfl)
  · have hF := it_t hF c2
    refine lv_iconst (v := (-1)) hx hb dX9_take_9 (by decide) ?_
    obtain ⟨er, eM⟩ := pr_use hF
    exact rt_I hx hb hr hlocks hS (by rw [← eM]; exact hP) er dX9_take_10
noncomputable def fX9_restore_l39  (x2 : Int32) : Nat → Md → Int32 → Option (Int32 × Md) := fun fu => Nat.rec (motive := fun _ => Md → Int32 → Option (Int32 × Md)) (fun _ _ => none) (fun _ ih => fun M x3 => if 517 ≤ x3 then (Rd (M.1) 1553 3 fun v8 => b2 (fX9_ends M v8) fun r10 M9 => some (r10, M9)) else (Rd (M.1) 1553 ((x2 + 1) + x3) fun v11 => Wr (M.1) 1553 x3 v11 fun f12 => nm ((f12, M.2)) fun M13 => nm (x3 + 1) fun v14 => ih M13 v14)) fu
theorem fX9_restore_l39_s  (x2 : Int32) (fu : Nat) (M : Md) (x3 : Int32) : fX9_restore_l39 x2 (fu + 1) M x3 = (if 517 ≤ x3 then (Rd (M.1) 1553 3 fun v8 => b2 (fX9_ends M v8) fun r10 M9 => some (r10, M9)) else (Rd (M.1) 1553 ((x2 + 1) + x3) fun v11 => Wr (M.1) 1553 x3 v11 fun f12 => nm ((f12, M.2)) fun M13 => nm (x3 + 1) fun v14 => (fX9_restore_l39 x2 fu) M13 v14)) := rfl
theorem fX9_restore_l39_z  (x2 : Int32) (M : Md) (x3 : Int32) : fX9_restore_l39 x2 0 M x3 = none := rfl
noncomputable def fX9_restore  (M : Md) (x1 : Int32) : Option (Int32 × Md) := (fX9_in x1 0 1).bind fun r1 => if r1 = 0 then (some ((-1), M)) else (nm (517 + (518 * x1)) fun v3 => Rd (M.1) 1553 v3 fun v4 => if v4 = 0 then (some ((-2), M)) else ((fX9_hold M).bind fun M6 => fX9_restore_l39 v3 FU M6 0))
abbrev vX9_restore : List Cond := Cond.code yX9_restore cX9_restore 4 (some .int) :: BIG
theorem gX9_restore {own : String} {idx : Nat} (h : (Cond.methodLink own idx yX9_restore) ∈ BIG) : GoodIn BIG (wsV own idx RX9 yX9_restore vX9_restore) := gdV h bw4_197 bw4_198 bw1_11 bw4_199
def rmX9_restore : Room := { frames := 1, cells := 0, slots := 0, locals := 22 }
theorem hdX9_restore : yX9_restore.cls = RX9 ∧ yX9_restore.cls ≠ "java/lang/invoke/MethodHandle" ∧ yX9_restore.cls ≠ "java/lang/invoke/VarHandle" ∧ (parseMethodDescriptor yX9_restore.desc).map (fun d => d.parameters.length) = some 1 := by decide +kernel
set_option maxHeartbeats 4000000 in
set_option maxRecDepth 100000 in
theorem kX9_restore (l : Launch) (D : va_G) (cS : ClassId) (g : Nat → Nat) (cI : ClassId) (b : Nat → Nat) (M : Md) (x1 : Int32) (r : Int32) (M' : Md) (hF : fX9_restore M x1 = some (r, M')) : mI l yX9_restore vX9_restore rmX9_restore D cI cS g [.ref (b 0), .int x1] (wMd cI b M) r (wMd cI b (M')) := by
  refine st_I rfl (by decide) (Nat.le_of_ble_eq_true rfl) ?_
  intro p e s m args below meth c A ls hx hb hr hml hlocks hown hts hA hK hD0 hG hP hS hl
  have hown : s.vm.findClass RX9 = some m.cls := hown
  have hDa : ∀ M, va_D A (wMd cI b M) := fun M => hD0.adr rfl
  have htb : ∀ w ∈ BIG, w.before args s = true := fun w h => hts w (List.mem_cons_of_mem _ h)
  have hl : lv_has ls 4 [(0, .ref (b 0)), (1, .int x1)] := hl
  have l39 : ∀ (x2 : Int32) (fu : Nat) (M : Md) (x3 : Int32) (H : Heap) (locs : List Loc) (ls : Array Slot), fX9_restore_l39 x2 fu M x3 = some (r, M') → va_P D vwCl (wMd cI b M) H → va_S A s.heap H locs → lv_has ls 4 [(0, .ref (b 0)), (2, .int x2), (3, .int x3)] → W p l e rmX9_restore s m args below meth c H locs 0 0 (MQ below (qI D r (wMd cI b (M')) A) args s 0 0 A) (F0 m 39 ls []) := by
    intro x2  fu
    induction fu with
    | zero => intro M x3 H locs ls hF; exact nn_use hF
    | succ fu ihn =>
      intro M x3 H locs ls hF hP hS hl 
      rw [fX9_restore_l39_s] at hF
      refine lv_iload_n hx hb dX9_restore_39 rfl (lv_at hl 2 rfl) ?_
      refine lv_sipush (v := 517) hx hb dX9_restore_40 (by decide) ?_
      refine lv_icmp_ge (tgt := 68) hx hb dX9_restore_43 (by decide) (fun c7 => ?_) (fun c7 => ?_)
      · have hF := it_t hF c7
        refine lv_aload_n hx hb dX9_restore_68 rfl (lv_at hl 0 rfl) ?_
        refine lv_aload_n hx hb dX9_restore_69 rfl (lv_at hl 0 rfl) ?_
        refine va_get (ci := 9) (v := .ref (b 1)) (C := RX9) (T := TX9) (N := 10) hx hb htb kin9 hown hK hP 0 (pMd_0 cI b M) rfl 0 (by decide) (htb _ bw4_25) (fun _ h9 => h9) rfl dX9_restore_70 ?_
        refine lv_iconst (v := 3) hx hb dX9_restore_73 (by decide) ?_
        obtain ⟨hi, hF⟩ := rd_use hF
        refine va_iald hx hb hK hP 1 0 (pMd_1 cI b M) rfl hi dX9_restore_74 ?_
        refine lv_topi (fun v8 ev8 => ?_)
        have hF := hF v8 ev8
        obtain ⟨r10, M9, hM9, hF⟩ := b2_use hF
        refine cl_VI ⟨hx, hb, hml, hown, htb⟩ (kX9_ends l D cS g cI b M v8 _ _ hM9) (cwV 1 htb (gX9_ends bw4_71) rfl rfl rfl hdX9_ends ⟨Nat.le_of_ble_eq_true rfl, Nat.le_of_ble_eq_true rfl⟩) hK (hDa _) hG hA hP hS (sg_Md_Md cI b M M9) hl.1 rfl 0 (pMd_0 _ _ _) rfl rfl (Nat.le_of_ble_eq_true rfl) dX9_restore_75 (fun H locs hP hS => ?_)
        obtain ⟨er, eM⟩ := pr_use hF
        exact rt_I hx hb hr hlocks hS (by rw [← eM]; exact hP) er dX9_restore_78
      · have hF := it_f hF c7
        refine lv_aload_n hx hb dX9_restore_46 rfl (lv_at hl 0 rfl) ?_
        refine va_get (ci := 9) (v := .ref (b 1)) (C := RX9) (T := TX9) (N := 10) hx hb htb kin9 hown hK hP 0 (pMd_0 cI b M) rfl 0 (by decide) (htb _ bw4_25) (fun _ h9 => h9) rfl dX9_restore_47 ?_
        refine lv_iload_n hx hb dX9_restore_50 rfl (lv_at hl 2 rfl) ?_
        refine lv_aload_n hx hb dX9_restore_51 rfl (lv_at hl 0 rfl) ?_
        refine va_get (ci := 9) (v := .ref (b 1)) (C := RX9) (T := TX9) (N := 10) hx hb htb kin9 hown hK hP 0 (pMd_0 cI b M) rfl 0 (by decide) (htb _ bw4_25) (fun _ h9 => h9) rfl dX9_restore_52 ?_
        refine lv_iload_n hx hb dX9_restore_55 rfl (lv_at hl 1 rfl) ?_
        refine lv_iconst (v := 1) hx hb dX9_restore_56 (by decide) ?_
        refine lv_iadd hx hb dX9_restore_57 ?_
        refine lv_iload_n hx hb dX9_restore_58 rfl (lv_at hl 2 rfl) ?_
        refine lv_iadd hx hb dX9_restore_59 ?_
        obtain ⟨hi, hF⟩ := rd_use hF
        refine va_iald hx hb hK hP 1 0 (pMd_1 cI b M) rfl hi dX9_restore_60 ?_
        refine lv_topi (fun v11 ev11 => ?_)
        have hF := hF v11 ev11
        obtain ⟨hi, hF⟩ := wr_use hF
        refine va_iast hx hb hK hP (hDa _) hS 1 0 (pMd_1 cI b M) rfl hi dX9_restore_61 (fun H locs hP _ hS => ?_)
        obtain ⟨M13, eM13⟩ : ∃ z : Md, z = ((upd (M.1) (x3 : Int32).toNatClampNeg v11), M.2) := ⟨_, rfl⟩
        have hF := nm_use hF eM13
        have hP : va_P D vwCl (wMd cI b M13) H := by rw [eM13]; exact hP
        obtain ⟨v14, ev14⟩ : ∃ z : Int32, z = x3 + 1 := ⟨_, rfl⟩
        refine lv_iinc (v := v14) (lv' := [(3, .int v14), (0, .ref (b 0)), (2, .int x2)]) hx hb dX9_restore_62 hl (k := 2) rfl (by rw [ev14]; rfl) (by decide) rfl (fun ls hl => ?_)
        have hF := nm_use hF ev14
        refine lv_goto (tgt := 39) hx hb dX9_restore_65 (by decide) ?_
        exact ihn M13 v14 _ _ _ hF hP hS (lv_sub hl [1, 2, 0] rfl)
  refine lv_iload_n hx hb dX9_restore_0 rfl (lv_at hl 1 rfl) ?_
  refine lv_iconst (v := 0) hx hb dX9_restore_1 (by decide) ?_
  refine lv_iconst (v := 1) hx hb dX9_restore_2 (by decide) ?_
  obtain ⟨r1, hr1, hF⟩ := bd_use hF
  refine cl_SI ⟨hx, hb, hml, hown, htb⟩ (kX9_in l D cS g cI x1 0 1 _ hr1) (va_cwS 3 htb (gX9_in bw4_68) rfl rfl rfl hdX9_in ⟨Nat.le_of_ble_eq_true rfl, Nat.le_of_ble_eq_true rfl⟩) hK (hDa _) hG hA hP hS sg_nil hl.1 rfl rfl (Nat.le_of_ble_eq_true rfl) dX9_restore_3 (fun H locs hP hS => ?_)
  refine lv_if_ne (tgt := 11) hx hb dX9_restore_6 (by decide) (fun c2 => ?_) (fun c2 => ?_)
  · have hF := it_f hF c2
    refine lv_sipush (v := 517) hx hb dX9_restore_11 (by decide) ?_
    refine lv_sipush (v := 518) hx hb dX9_restore_14 (by decide) ?_
    refine lv_iload_n hx hb dX9_restore_17 rfl (lv_at hl 1 rfl) ?_
    refine lv_imul hx hb dX9_restore_18 ?_
    refine lv_iadd hx hb dX9_restore_19 ?_
    refine lv_topi (fun v3 ev3 => ?_)
    have hF := nm_use hF ev3
    refine lv_istore_n (lv' := [(2, .int v3), (0, .ref (b 0)), (1, .int x1)]) hx hb dX9_restore_20 rfl hl (by decide) rfl (fun ls hl => ?_)
    refine lv_aload_n hx hb dX9_restore_21 rfl (lv_at hl 1 rfl) ?_
    refine va_get (ci := 9) (v := .ref (b 1)) (C := RX9) (T := TX9) (N := 10) hx hb htb kin9 hown hK hP 0 (pMd_0 cI b M) rfl 0 (by decide) (htb _ bw4_25) (fun _ h9 => h9) rfl dX9_restore_22 ?_
    refine lv_iload_n hx hb dX9_restore_25 rfl (lv_at hl 0 rfl) ?_
    obtain ⟨hi, hF⟩ := rd_use hF
    refine va_iald hx hb hK hP 1 0 (pMd_1 cI b M) rfl hi dX9_restore_26 ?_
    refine lv_topi (fun v4 ev4 => ?_)
    have hF := hF v4 ev4
    refine lv_if_ne (tgt := 33) hx hb dX9_restore_27 (by decide) (fun c5 => ?_) (fun c5 => ?_)
    · have hF := it_f hF c5
      refine lv_aload_n hx hb dX9_restore_33 rfl (lv_at hl 1 rfl) ?_
      obtain ⟨M6, hM6, hF⟩ := bd_use hF
      refine cl_VV ⟨hx, hb, hml, hown, htb⟩ (kX9_hold l D cS g cI b M  _ hM6) (cwV 0 htb (gX9_hold bw4_60) rfl rfl rfl hdX9_hold ⟨Nat.le_of_ble_eq_true rfl, Nat.le_of_ble_eq_true rfl⟩) hK (hDa _) hG hA hP hS (sg_Md_Md cI b M M6) hl.1 rfl 0 (pMd_0 _ _ _) rfl rfl (Nat.le_of_ble_eq_true rfl) dX9_restore_34 (fun H locs hP hS => ?_)
      refine lv_iconst (v := 0) hx hb dX9_restore_37 (by decide) ?_
      refine lv_istore_n (lv' := [(3, .int 0), (2, .int v3), (0, .ref (b 0)), (1, .int x1)]) hx hb dX9_restore_38 rfl hl (by decide) rfl (fun ls hl => ?_)
      refine l39 v3  _ M6 0 _ _ _ hF hP hS (lv_sub hl [2, 1, 0] rfl)
    · have hF := it_t hF c5
      refine lv_bipush (v := (-2)) hx hb dX9_restore_30 (by decide) ?_
      obtain ⟨er, eM⟩ := pr_use hF
      exact rt_I hx hb hr hlocks hS (by rw [← eM]; exact hP) er dX9_restore_32
  · have hF := it_t hF c2
    refine lv_iconst (v := (-1)) hx hb dX9_restore_9 (by decide) ?_
    obtain ⟨er, eM⟩ := pr_use hF
    exact rt_I hx hb hr hlocks hS (by rw [← eM]; exact hP) er dX9_restore_10
noncomputable def fX9_undo_l22  : Nat → Md → Int32 → Option (Int32 × Md) := fun fu => Nat.rec (motive := fun _ => Md → Int32 → Option (Int32 × Md)) (fun _ _ => none) (fun _ ih => fun M x1 => if 1553 ≤ x1 then (some (M.2.2.2.1, M)) else (Rd (M.2.1) 7765 ((1553 * (M.2.2.2.1)) + x1) fun v5 => Wr (M.1) 1553 x1 v5 fun f6 => nm ((f6, M.2)) fun M7 => nm (x1 + 1) fun v8 => ih M7 v8)) fu
theorem fX9_undo_l22_s  (fu : Nat) (M : Md) (x1 : Int32) : fX9_undo_l22  (fu + 1) M x1 = (if 1553 ≤ x1 then (some (M.2.2.2.1, M)) else (Rd (M.2.1) 7765 ((1553 * (M.2.2.2.1)) + x1) fun v5 => Wr (M.1) 1553 x1 v5 fun f6 => nm ((f6, M.2)) fun M7 => nm (x1 + 1) fun v8 => (fX9_undo_l22  fu) M7 v8)) := rfl
theorem fX9_undo_l22_z  (M : Md) (x1 : Int32) : fX9_undo_l22  0 M x1 = none := rfl
noncomputable def fX9_undo  (M : Md) : Option (Int32 × Md) := if (M.2.2.2.1) = 0 then (some ((-2), M)) else (nm ((M.2.2.2.1) - 1) fun v2 => nm ((M.1, M.2.1, M.2.2.1, v2, M.2.2.2.2)) fun M3 => fX9_undo_l22 FU M3 0)
abbrev vX9_undo : List Cond := Cond.code yX9_undo cX9_undo 2 (some .int) :: BIG
theorem gX9_undo {own : String} {idx : Nat} (h : (Cond.methodLink own idx yX9_undo) ∈ BIG) : GoodIn BIG (wsV own idx RX9 yX9_undo vX9_undo) := gdV h bw4_201 bw4_202 bw1_11 bw4_203
def rmX9_undo : Room := { frames := 0, cells := 0, slots := 0, locals := 0 }
theorem hdX9_undo : yX9_undo.cls = RX9 ∧ yX9_undo.cls ≠ "java/lang/invoke/MethodHandle" ∧ yX9_undo.cls ≠ "java/lang/invoke/VarHandle" ∧ (parseMethodDescriptor yX9_undo.desc).map (fun d => d.parameters.length) = some 0 := by decide +kernel
set_option maxHeartbeats 4000000 in
set_option maxRecDepth 100000 in
theorem kX9_undo (l : Launch) (D : va_G) (cS : ClassId) (g : Nat → Nat) (cI : ClassId) (b : Nat → Nat) (M : Md) (r : Int32) (M' : Md) (hF : fX9_undo M = some (r, M')) : mI l yX9_undo vX9_undo rmX9_undo D cI cS g [.ref (b 0)] (wMd cI b M) r (wMd cI b (M')) := by
  refine st_I rfl (by decide) (Nat.le_of_ble_eq_true rfl) ?_
  intro p e s m args below meth c A ls hx hb hr hml hlocks hown hts hA hK hD0 hG hP hS hl
  have hown : s.vm.findClass RX9 = some m.cls := hown
  have hDa : ∀ M, va_D A (wMd cI b M) := fun M => hD0.adr rfl
  have htb : ∀ w ∈ BIG, w.before args s = true := fun w h => hts w (List.mem_cons_of_mem _ h)
  have hl : lv_has ls 2 [(0, .ref (b 0))] := hl
  have l22 : ∀ (fu : Nat) (M : Md) (x1 : Int32) (H : Heap) (locs : List Loc) (ls : Array Slot), fX9_undo_l22  fu M x1 = some (r, M') → va_P D vwCl (wMd cI b M) H → va_S A s.heap H locs → lv_has ls 2 [(0, .ref (b 0)), (1, .int x1)] → W p l e rmX9_undo s m args below meth c H locs 0 0 (MQ below (qI D r (wMd cI b (M')) A) args s 0 0 A) (F0 m 22 ls []) := by
    intro  fu
    induction fu with
    | zero => intro M x1 H locs ls hF; exact nn_use hF
    | succ fu ihn =>
      intro M x1 H locs ls hF hP hS hl 
      rw [fX9_undo_l22_s] at hF
      refine lv_iload_n hx hb dX9_undo_22 rfl (lv_at hl 1 rfl) ?_
      refine lv_sipush (v := 1553) hx hb dX9_undo_23 (by decide) ?_
      refine lv_icmp_ge (tgt := 56) hx hb dX9_undo_26 (by decide) (fun c4 => ?_) (fun c4 => ?_)
      · have hF := it_t hF c4
        refine lv_aload_n hx hb dX9_undo_56 rfl (lv_at hl 0 rfl) ?_
        refine va_get (ci := 9) (v := .int (M.2.2.2.1)) (C := RX9) (T := TX9) (N := 10) hx hb htb kin9 hown hK hP 0 (pMd_0 cI b M) rfl 3 (by decide) (htb _ bw4_28) (fun _ h9 => h9) rfl dX9_undo_57 ?_
        obtain ⟨er, eM⟩ := pr_use hF
        exact rt_I hx hb hr hlocks hS (by rw [← eM]; exact hP) er dX9_undo_60
      · have hF := it_f hF c4
        refine lv_aload_n hx hb dX9_undo_29 rfl (lv_at hl 0 rfl) ?_
        refine va_get (ci := 9) (v := .ref (b 1)) (C := RX9) (T := TX9) (N := 10) hx hb htb kin9 hown hK hP 0 (pMd_0 cI b M) rfl 0 (by decide) (htb _ bw4_25) (fun _ h9 => h9) rfl dX9_undo_30 ?_
        refine lv_iload_n hx hb dX9_undo_33 rfl (lv_at hl 1 rfl) ?_
        refine lv_aload_n hx hb dX9_undo_34 rfl (lv_at hl 0 rfl) ?_
        refine va_get (ci := 9) (v := .ref (b 2)) (C := RX9) (T := TX9) (N := 10) hx hb htb kin9 hown hK hP 0 (pMd_0 cI b M) rfl 1 (by decide) (htb _ bw4_26) (fun _ h9 => h9) rfl dX9_undo_35 ?_
        refine lv_sipush (v := 1553) hx hb dX9_undo_38 (by decide) ?_
        refine lv_aload_n hx hb dX9_undo_41 rfl (lv_at hl 0 rfl) ?_
        refine va_get (ci := 9) (v := .int (M.2.2.2.1)) (C := RX9) (T := TX9) (N := 10) hx hb htb kin9 hown hK hP 0 (pMd_0 cI b M) rfl 3 (by decide) (htb _ bw4_28) (fun _ h9 => h9) rfl dX9_undo_42 ?_
        refine lv_imul hx hb dX9_undo_45 ?_
        refine lv_iload_n hx hb dX9_undo_46 rfl (lv_at hl 1 rfl) ?_
        refine lv_iadd hx hb dX9_undo_47 ?_
        obtain ⟨hi, hF⟩ := rd_use hF
        refine va_iald hx hb hK hP 2 0 (pMd_2 cI b M) rfl hi dX9_undo_48 ?_
        refine lv_topi (fun v5 ev5 => ?_)
        have hF := hF v5 ev5
        obtain ⟨hi, hF⟩ := wr_use hF
        refine va_iast hx hb hK hP (hDa _) hS 1 0 (pMd_1 cI b M) rfl hi dX9_undo_49 (fun H locs hP _ hS => ?_)
        obtain ⟨M7, eM7⟩ : ∃ z : Md, z = ((upd (M.1) (x1 : Int32).toNatClampNeg v5), M.2) := ⟨_, rfl⟩
        have hF := nm_use hF eM7
        have hP : va_P D vwCl (wMd cI b M7) H := by rw [eM7]; exact hP
        obtain ⟨v8, ev8⟩ : ∃ z : Int32, z = x1 + 1 := ⟨_, rfl⟩
        refine lv_iinc (v := v8) (lv' := [(1, .int v8), (0, .ref (b 0))]) hx hb dX9_undo_50 hl (k := 1) rfl (by rw [ev8]; rfl) (by decide) rfl (fun ls hl => ?_)
        have hF := nm_use hF ev8
        refine lv_goto (tgt := 22) hx hb dX9_undo_53 (by decide) ?_
        exact ihn M7 v8 _ _ _ hF hP hS (lv_sub hl [1, 0] rfl)
  refine lv_aload_n hx hb dX9_undo_0 rfl (lv_at hl 0 rfl) ?_
  refine va_get (ci := 9) (v := .int (M.2.2.2.1)) (C := RX9) (T := TX9) (N := 10) hx hb htb kin9 hown hK hP 0 (pMd_0 cI b M) rfl 3 (by decide) (htb _ bw4_28) (fun _ h9 => h9) rfl dX9_undo_1 ?_
  refine lv_if_ne (tgt := 10) hx hb dX9_undo_4 (by decide) (fun c1 => ?_) (fun c1 => ?_)
  · have hF := it_f hF c1
    refine lv_aload_n hx hb dX9_undo_10 rfl (lv_at hl 0 rfl) ?_
    refine lv_dup hx hb dX9_undo_11 rfl ?_
    refine va_get (ci := 9) (v := .int (M.2.2.2.1)) (C := RX9) (T := TX9) (N := 10) hx hb htb kin9 hown hK hP 0 (pMd_0 cI b M) rfl 3 (by decide) (htb _ bw4_28) (fun _ h9 => h9) rfl dX9_undo_12 ?_
    refine lv_iconst (v := 1) hx hb dX9_undo_15 (by decide) ?_
    refine lv_isub hx hb dX9_undo_16 ?_
    refine lv_topi (fun v2 ev2 => ?_)
    have hF := nm_use hF ev2
    refine va_put (ci := 9) (v := .int v2) (ty := .int) (C := RX9) (T := TX9) (N := 10) hx hb htb kin9 tyX9 tyX9_ok nmX9 hown hK hP (hDa _) hS 0 (pMd_0 cI b M) rfl 3 (by decide) (htb _ bw4_28) (fun _ h9 => h9) rfl (by decide +kernel) rfl rfl (Nat.le_of_ble_eq_true rfl) dX9_undo_17 (fun H locs hP _ hS => ?_)
    obtain ⟨M3, eM3⟩ : ∃ z : Md, z = (M.1, M.2.1, M.2.2.1, v2, M.2.2.2.2) := ⟨_, rfl⟩
    have hF := nm_use hF eM3
    have hP : va_P D vwCl (wMd cI b M3) H := by rw [eM3]; exact hP
    refine lv_iconst (v := 0) hx hb dX9_undo_20 (by decide) ?_
    refine lv_istore_n (lv' := [(1, .int 0), (0, .ref (b 0))]) hx hb dX9_undo_21 rfl hl (by decide) rfl (fun ls hl => ?_)
    refine l22   _ M3 0 _ _ _ hF hP hS (lv_sub hl [1, 0] rfl)
  · have hF := it_t hF c1
    refine lv_bipush (v := (-2)) hx hb dX9_undo_7 (by decide) ?_
    obtain ⟨er, eM⟩ := pr_use hF
    exact rt_I hx hb hr hlocks hS (by rw [← eM]; exact hP) er dX9_undo_9
noncomputable def fX9_append  (M : Md) (x1 : Int32) : Option (Int32 × Md) := (fX9_in x1 1 255).bind fun r1 => if r1 = 0 then (some ((-1), M)) else (if (M.2.2.2.2.2.1) = 140 then (some ((-3), M)) else (Wr (M.2.2.2.2.1) 140 (M.2.2.2.2.2.1) x1 fun f4 => nm ((M.1, M.2.1, M.2.2.1, M.2.2.2.1, f4, M.2.2.2.2.2)) fun M5 => nm ((M5.2.2.2.2.2.1) + 1) fun v6 => nm ((M5.1, M5.2.1, M5.2.2.1, M5.2.2.2.1, M5.2.2.2.2.1, v6, M5.2.2.2.2.2.2)) fun M7 => some (M7.2.2.2.2.2.1, M7)))
abbrev vX9_append : List Cond := Cond.code yX9_append cX9_append 2 (some .int) :: BIG
theorem gX9_append {own : String} {idx : Nat} (h : (Cond.methodLink own idx yX9_append) ∈ BIG) : GoodIn BIG (wsV own idx RX9 yX9_append vX9_append) := gdV h bw4_205 bw4_206 bw1_11 bw4_207
def rmX9_append : Room := { frames := 1, cells := 0, slots := 0, locals := 22 }
theorem hdX9_append : yX9_append.cls = RX9 ∧ yX9_append.cls ≠ "java/lang/invoke/MethodHandle" ∧ yX9_append.cls ≠ "java/lang/invoke/VarHandle" ∧ (parseMethodDescriptor yX9_append.desc).map (fun d => d.parameters.length) = some 1 := by decide +kernel
set_option maxHeartbeats 4000000 in
set_option maxRecDepth 100000 in
theorem kX9_append (l : Launch) (D : va_G) (cS : ClassId) (g : Nat → Nat) (cI : ClassId) (b : Nat → Nat) (M : Md) (x1 : Int32) (r : Int32) (M' : Md) (hF : fX9_append M x1 = some (r, M')) : mI l yX9_append vX9_append rmX9_append D cI cS g [.ref (b 0), .int x1] (wMd cI b M) r (wMd cI b (M')) := by
  refine st_I rfl (by decide) (Nat.le_of_ble_eq_true rfl) ?_
  intro p e s m args below meth c A ls hx hb hr hml hlocks hown hts hA hK hD0 hG hP hS hl
  have hown : s.vm.findClass RX9 = some m.cls := hown
  have hDa : ∀ M, va_D A (wMd cI b M) := fun M => hD0.adr rfl
  have htb : ∀ w ∈ BIG, w.before args s = true := fun w h => hts w (List.mem_cons_of_mem _ h)
  have hl : lv_has ls 2 [(0, .ref (b 0)), (1, .int x1)] := hl
  refine lv_iload_n hx hb dX9_append_0 rfl (lv_at hl 1 rfl) ?_
  refine lv_iconst (v := 1) hx hb dX9_append_1 (by decide) ?_
  refine lv_sipush (v := 255) hx hb dX9_append_2 (by decide) ?_
  obtain ⟨r1, hr1, hF⟩ := bd_use hF
  refine cl_SI ⟨hx, hb, hml, hown, htb⟩ (kX9_in l D cS g cI x1 1 255 _ hr1) (va_cwS 3 htb (gX9_in bw4_68) rfl rfl rfl hdX9_in ⟨Nat.le_of_ble_eq_true rfl, Nat.le_of_ble_eq_true rfl⟩) hK (hDa _) hG hA hP hS sg_nil hl.1 rfl rfl (Nat.le_of_ble_eq_true rfl) dX9_append_5 (fun H locs hP hS => ?_)
  refine lv_if_ne (tgt := 13) hx hb dX9_append_8 (by decide) (fun c2 => ?_) (fun c2 => ?_)
  · have hF := it_f hF c2
    refine lv_aload_n hx hb dX9_append_13 rfl (lv_at hl 0 rfl) ?_
    refine va_get (ci := 9) (v := .int (M.2.2.2.2.2.1)) (C := RX9) (T := TX9) (N := 10) hx hb htb kin9 hown hK hP 0 (pMd_0 cI b M) rfl 5 (by decide) (htb _ bw4_30) (fun _ h9 => h9) rfl dX9_append_14 ?_
    refine lv_sipush (v := 140) hx hb dX9_append_17 (by decide) ?_
    refine lv_icmp_ne (tgt := 26) hx hb dX9_append_20 (by decide) (fun c3 => ?_) (fun c3 => ?_)
    · have hF := it_f hF c3
      refine lv_aload_n hx hb dX9_append_26 rfl (lv_at hl 0 rfl) ?_
      refine va_get (ci := 9) (v := .ref (b 4)) (C := RX9) (T := TX9) (N := 10) hx hb htb kin9 hown hK hP 0 (pMd_0 cI b M) rfl 4 (by decide) (htb _ bw4_29) (fun _ h9 => h9) rfl dX9_append_27 ?_
      refine lv_aload_n hx hb dX9_append_30 rfl (lv_at hl 0 rfl) ?_
      refine va_get (ci := 9) (v := .int (M.2.2.2.2.2.1)) (C := RX9) (T := TX9) (N := 10) hx hb htb kin9 hown hK hP 0 (pMd_0 cI b M) rfl 5 (by decide) (htb _ bw4_30) (fun _ h9 => h9) rfl dX9_append_31 ?_
      refine lv_iload_n hx hb dX9_append_34 rfl (lv_at hl 1 rfl) ?_
      obtain ⟨hi, hF⟩ := wr_use hF
      refine va_iast hx hb hK hP (hDa _) hS 4 0 (pMd_4 cI b M) rfl hi dX9_append_35 (fun H locs hP _ hS => ?_)
      obtain ⟨M5, eM5⟩ : ∃ z : Md, z = (M.1, M.2.1, M.2.2.1, M.2.2.2.1, (upd (M.2.2.2.2.1) (M.2.2.2.2.2.1 : Int32).toNatClampNeg x1), M.2.2.2.2.2) := ⟨_, rfl⟩
      have hF := nm_use hF eM5
      have hP : va_P D vwCl (wMd cI b M5) H := by rw [eM5]; exact hP
      refine lv_aload_n hx hb dX9_append_36 rfl (lv_at hl 0 rfl) ?_
      refine lv_dup hx hb dX9_append_37 rfl ?_
      refine va_get (ci := 9) (v := .int (M5.2.2.2.2.2.1)) (C := RX9) (T := TX9) (N := 10) hx hb htb kin9 hown hK hP 0 (pMd_0 cI b M5) rfl 5 (by decide) (htb _ bw4_30) (fun _ h9 => h9) rfl dX9_append_38 ?_
      refine lv_iconst (v := 1) hx hb dX9_append_41 (by decide) ?_
      refine lv_iadd hx hb dX9_append_42 ?_
      refine lv_topi (fun v6 ev6 => ?_)
      have hF := nm_use hF ev6
      refine va_put (ci := 9) (v := .int v6) (ty := .int) (C := RX9) (T := TX9) (N := 10) hx hb htb kin9 tyX9 tyX9_ok nmX9 hown hK hP (hDa _) hS 0 (pMd_0 cI b M5) rfl 5 (by decide) (htb _ bw4_30) (fun _ h9 => h9) rfl (by decide +kernel) rfl rfl (Nat.le_of_ble_eq_true rfl) dX9_append_43 (fun H locs hP _ hS => ?_)
      obtain ⟨M7, eM7⟩ : ∃ z : Md, z = (M5.1, M5.2.1, M5.2.2.1, M5.2.2.2.1, M5.2.2.2.2.1, v6, M5.2.2.2.2.2.2) := ⟨_, rfl⟩
      have hF := nm_use hF eM7
      have hP : va_P D vwCl (wMd cI b M7) H := by rw [eM7]; exact hP
      refine lv_aload_n hx hb dX9_append_46 rfl (lv_at hl 0 rfl) ?_
      refine va_get (ci := 9) (v := .int (M7.2.2.2.2.2.1)) (C := RX9) (T := TX9) (N := 10) hx hb htb kin9 hown hK hP 0 (pMd_0 cI b M7) rfl 5 (by decide) (htb _ bw4_30) (fun _ h9 => h9) rfl dX9_append_47 ?_
      obtain ⟨er, eM⟩ := pr_use hF
      exact rt_I hx hb hr hlocks hS (by rw [← eM]; exact hP) er dX9_append_50
    · have hF := it_t hF c3
      refine lv_bipush (v := (-3)) hx hb dX9_append_23 (by decide) ?_
      obtain ⟨er, eM⟩ := pr_use hF
      exact rt_I hx hb hr hlocks hS (by rw [← eM]; exact hP) er dX9_append_25
  · have hF := it_t hF c2
    refine lv_iconst (v := (-1)) hx hb dX9_append_11 (by decide) ?_
    obtain ⟨er, eM⟩ := pr_use hF
    exact rt_I hx hb hr hlocks hS (by rw [← eM]; exact hP) er dX9_append_12
noncomputable def fX9_clearText  (M : Md) : Option (Int32 × Md) := nm (M.2.2.2.2.2.1) fun v1 => nm ((M.1, M.2.1, M.2.2.1, M.2.2.2.1, M.2.2.2.2.1, 0, M.2.2.2.2.2.2)) fun M2 => some (v1, M2)
abbrev vX9_clearText : List Cond := Cond.code yX9_clearText cX9_clearText 2 (some .int) :: BIG
theorem gX9_clearText {own : String} {idx : Nat} (h : (Cond.methodLink own idx yX9_clearText) ∈ BIG) : GoodIn BIG (wsV own idx RX9 yX9_clearText vX9_clearText) := gdV h bw4_209 bw4_210 bw1_11 bw4_211
def rmX9_clearText : Room := { frames := 0, cells := 0, slots := 0, locals := 0 }
theorem hdX9_clearText : yX9_clearText.cls = RX9 ∧ yX9_clearText.cls ≠ "java/lang/invoke/MethodHandle" ∧ yX9_clearText.cls ≠ "java/lang/invoke/VarHandle" ∧ (parseMethodDescriptor yX9_clearText.desc).map (fun d => d.parameters.length) = some 0 := by decide +kernel
set_option maxHeartbeats 4000000 in
set_option maxRecDepth 100000 in
theorem kX9_clearText (l : Launch) (D : va_G) (cS : ClassId) (g : Nat → Nat) (cI : ClassId) (b : Nat → Nat) (M : Md) (r : Int32) (M' : Md) (hF : fX9_clearText M = some (r, M')) : mI l yX9_clearText vX9_clearText rmX9_clearText D cI cS g [.ref (b 0)] (wMd cI b M) r (wMd cI b (M')) := by
  refine st_I rfl (by decide) (Nat.le_of_ble_eq_true rfl) ?_
  intro p e s m args below meth c A ls hx hb hr hml hlocks hown hts hA hK hD0 hG hP hS hl
  have hown : s.vm.findClass RX9 = some m.cls := hown
  have hDa : ∀ M, va_D A (wMd cI b M) := fun M => hD0.adr rfl
  have htb : ∀ w ∈ BIG, w.before args s = true := fun w h => hts w (List.mem_cons_of_mem _ h)
  have hl : lv_has ls 2 [(0, .ref (b 0))] := hl
  refine lv_aload_n hx hb dX9_clearText_0 rfl (lv_at hl 0 rfl) ?_
  refine va_get (ci := 9) (v := .int (M.2.2.2.2.2.1)) (C := RX9) (T := TX9) (N := 10) hx hb htb kin9 hown hK hP 0 (pMd_0 cI b M) rfl 5 (by decide) (htb _ bw4_30) (fun _ h9 => h9) rfl dX9_clearText_1 ?_
  refine lv_topi (fun v1 ev1 => ?_)
  have hF := nm_use hF ev1
  refine lv_istore_n (lv' := [(1, .int v1), (0, .ref (b 0))]) hx hb dX9_clearText_4 rfl hl (by decide) rfl (fun ls hl => ?_)
  refine lv_aload_n hx hb dX9_clearText_5 rfl (lv_at hl 1 rfl) ?_
  refine lv_iconst (v := 0) hx hb dX9_clearText_6 (by decide) ?_
  refine va_put (ci := 9) (v := .int 0) (ty := .int) (C := RX9) (T := TX9) (N := 10) hx hb htb kin9 tyX9 tyX9_ok nmX9 hown hK hP (hDa _) hS 0 (pMd_0 cI b M) rfl 5 (by decide) (htb _ bw4_30) (fun _ h9 => h9) rfl (by decide +kernel) rfl rfl (Nat.le_of_ble_eq_true rfl) dX9_clearText_7 (fun H locs hP _ hS => ?_)
  obtain ⟨M2, eM2⟩ : ∃ z : Md, z = (M.1, M.2.1, M.2.2.1, M.2.2.2.1, M.2.2.2.2.1, 0, M.2.2.2.2.2.2) := ⟨_, rfl⟩
  have hF := nm_use hF eM2
  have hP : va_P D vwCl (wMd cI b M2) H := by rw [eM2]; exact hP
  refine lv_iload_n hx hb dX9_clearText_10 rfl (lv_at hl 0 rfl) ?_
  obtain ⟨er, eM⟩ := pr_use hF
  exact rt_I hx hb hr hlocks hS (by rw [← eM]; exact hP) er dX9_clearText_11
noncomputable def fX9_isAt_j33  (M : Md) (s0 : Int32) : Option (Int32) := Zb s0 (some s0)
noncomputable def fX9_isAt_j32  (M : Md) : Option (Int32) := fX9_isAt_j33 M 0
noncomputable def fX9_isAt  (M : Md) (x1 : Int32) (x2 : Int32) : Option (Int32) := if (M.2.2.2.2.2.1) ≤ (M.2.2.2.2.2.2.1) then (fX9_isAt_j32 M) else (Rd (M.2.2.2.2.1) 140 (M.2.2.2.2.2.2.1) fun v2 => (fX9_in v2 x1 x2).bind fun r3 => if r3 = 0 then (fX9_isAt_j32 M) else (fX9_isAt_j33 M 1))
abbrev vX9_isAt : List Cond := Cond.code yX9_isAt cX9_isAt 3 (some .boolean) :: BIG
theorem gX9_isAt {own : String} {idx : Nat} (h : (Cond.methodLink own idx yX9_isAt) ∈ BIG) : GoodIn BIG (wsV own idx RX9 yX9_isAt vX9_isAt) := gdV h bw4_222 bs44 bw1_11 bw4_223
def rmX9_isAt : Room := { frames := 1, cells := 0, slots := 0, locals := 22 }
theorem hdX9_isAt : yX9_isAt.cls = RX9 ∧ yX9_isAt.cls ≠ "java/lang/invoke/MethodHandle" ∧ yX9_isAt.cls ≠ "java/lang/invoke/VarHandle" ∧ (parseMethodDescriptor yX9_isAt.desc).map (fun d => d.parameters.length) = some 2 := by decide +kernel
set_option maxHeartbeats 4000000 in
set_option maxRecDepth 100000 in
theorem kX9_isAt (l : Launch) (D : va_G) (cS : ClassId) (g : Nat → Nat) (cI : ClassId) (b : Nat → Nat) (M : Md) (x1 : Int32) (x2 : Int32) (r : Int32) (hF : fX9_isAt M x1 x2 = some r) : mI l yX9_isAt vX9_isAt rmX9_isAt D cI cS g [.ref (b 0), .int x1, .int x2] (wMd cI b M) r (wMd cI b M) := by
  refine st_I rfl (by decide) (Nat.le_of_ble_eq_true rfl) ?_
  intro p e s m args below meth c A ls hx hb hr hml hlocks hown hts hA hK hD0 hG hP hS hl
  have hown : s.vm.findClass RX9 = some m.cls := hown
  have hDa : ∀ M, va_D A (wMd cI b M) := fun M => hD0.adr rfl
  have htb : ∀ w ∈ BIG, w.before args s = true := fun w h => hts w (List.mem_cons_of_mem _ h)
  have hl : lv_has ls 3 [(0, .ref (b 0)), (1, .int x1), (2, .int x2)] := hl
  have j33 : ∀ (s0 : Int32) (H : Heap) (locs : List Loc) (ls : Array Slot), fX9_isAt_j33 M s0 = some r → va_P D vwCl (wMd cI b M) H → va_S A s.heap H locs → lv_has ls 3 [] → W p l e rmX9_isAt s m args below meth c H locs 0 0 (MQ below (qI D r (wMd cI b M) A) args s 0 0 A) (F0 m 33 ls [.int s0]) := by
    intro s0 H locs ls hF hP hS hl
    obtain ⟨hz, hF⟩ := zb_use hF
    exact rt_Z hx hb hr hlocks hS hP hz (so_use hF) dX9_isAt_33
  have j32 : ∀ (H : Heap) (locs : List Loc) (ls : Array Slot), fX9_isAt_j32 M = some r → va_P D vwCl (wMd cI b M) H → va_S A s.heap H locs → lv_has ls 3 [] → W p l e rmX9_isAt s m args below meth c H locs 0 0 (MQ below (qI D r (wMd cI b M) A) args s 0 0 A) (F0 m 32 ls []) := by
    intro H locs ls hF hP hS hl
    refine lv_iconst (v := 0) hx hb dX9_isAt_32 (by decide) ?_
    exact j33 0 _ _ _ hF hP hS (lv_sub hl [] rfl)
  refine lv_aload_n hx hb dX9_isAt_0 rfl (lv_at hl 0 rfl) ?_
  refine va_get (ci := 9) (v := .int (M.2.2.2.2.2.2.1)) (C := RX9) (T := TX9) (N := 10) hx hb htb kin9 hown hK hP 0 (pMd_0 cI b M) rfl 6 (by decide) (htb _ bw4_31) (fun _ h9 => h9) rfl dX9_isAt_1 ?_
  refine lv_aload_n hx hb dX9_isAt_4 rfl (lv_at hl 0 rfl) ?_
  refine va_get (ci := 9) (v := .int (M.2.2.2.2.2.1)) (C := RX9) (T := TX9) (N := 10) hx hb htb kin9 hown hK hP 0 (pMd_0 cI b M) rfl 5 (by decide) (htb _ bw4_30) (fun _ h9 => h9) rfl dX9_isAt_5 ?_
  refine lv_icmp_ge (tgt := 32) hx hb dX9_isAt_8 (by decide) (fun c1 => ?_) (fun c1 => ?_)
  · have hF := it_t hF c1
    exact j32  _ _ _ hF hP hS (lv_sub hl [] rfl)
  · have hF := it_f hF c1
    refine lv_aload_n hx hb dX9_isAt_11 rfl (lv_at hl 0 rfl) ?_
    refine va_get (ci := 9) (v := .ref (b 4)) (C := RX9) (T := TX9) (N := 10) hx hb htb kin9 hown hK hP 0 (pMd_0 cI b M) rfl 4 (by decide) (htb _ bw4_29) (fun _ h9 => h9) rfl dX9_isAt_12 ?_
    refine lv_aload_n hx hb dX9_isAt_15 rfl (lv_at hl 0 rfl) ?_
    refine va_get (ci := 9) (v := .int (M.2.2.2.2.2.2.1)) (C := RX9) (T := TX9) (N := 10) hx hb htb kin9 hown hK hP 0 (pMd_0 cI b M) rfl 6 (by decide) (htb _ bw4_31) (fun _ h9 => h9) rfl dX9_isAt_16 ?_
    obtain ⟨hi, hF⟩ := rd_use hF
    refine va_iald hx hb hK hP 4 0 (pMd_4 cI b M) rfl hi dX9_isAt_19 ?_
    refine lv_topi (fun v2 ev2 => ?_)
    have hF := hF v2 ev2
    refine lv_iload_n hx hb dX9_isAt_20 rfl (lv_at hl 1 rfl) ?_
    refine lv_iload_n hx hb dX9_isAt_21 rfl (lv_at hl 2 rfl) ?_
    obtain ⟨r3, hr3, hF⟩ := bd_use hF
    refine cl_SI ⟨hx, hb, hml, hown, htb⟩ (kX9_in l D cS g cI v2 x1 x2 _ hr3) (va_cwS 3 htb (gX9_in bw4_68) rfl rfl rfl hdX9_in ⟨Nat.le_of_ble_eq_true rfl, Nat.le_of_ble_eq_true rfl⟩) hK (hDa _) hG hA hP hS sg_nil hl.1 rfl rfl (Nat.le_of_ble_eq_true rfl) dX9_isAt_22 (fun H locs hP hS => ?_)
    refine lv_if_eq (tgt := 32) hx hb dX9_isAt_25 (by decide) (fun c4 => ?_) (fun c4 => ?_)
    · have hF := it_t hF c4
      exact j32  _ _ _ hF hP hS (lv_sub hl [] rfl)
    · have hF := it_f hF c4
      refine lv_iconst (v := 1) hx hb dX9_isAt_28 (by decide) ?_
      refine lv_goto (tgt := 33) hx hb dX9_isAt_29 (by decide) ?_
      exact j33 1 _ _ _ hF hP hS (lv_sub hl [] rfl)
noncomputable def fX9_skips_l0  : Nat → Md → Option (Md) := fun fu => Nat.rec (motive := fun _ => Md → Option (Md)) (fun _ => none) (fun _ ih => fun M => (fX9_isAt M 32 32).bind fun r7 => if r7 = 0 then (nm (M.2.2.2.2.2.2.1) fun v9 => nm ((M.1, M.2.1, M.2.2.1, M.2.2.2.1, M.2.2.2.2.1, M.2.2.2.2.2.1, M.2.2.2.2.2.2.1, v9, M.2.2.2.2.2.2.2.2)) fun M10 => some M10) else (nm ((M.2.2.2.2.2.2.1) + 1) fun v11 => nm ((M.1, M.2.1, M.2.2.1, M.2.2.2.1, M.2.2.2.2.1, M.2.2.2.2.2.1, v11, M.2.2.2.2.2.2.2)) fun M12 => ih M12)) fu
theorem fX9_skips_l0_s  (fu : Nat) (M : Md) : fX9_skips_l0  (fu + 1) M = ((fX9_isAt M 32 32).bind fun r7 => if r7 = 0 then (nm (M.2.2.2.2.2.2.1) fun v9 => nm ((M.1, M.2.1, M.2.2.1, M.2.2.2.1, M.2.2.2.2.1, M.2.2.2.2.2.1, M.2.2.2.2.2.2.1, v9, M.2.2.2.2.2.2.2.2)) fun M10 => some M10) else (nm ((M.2.2.2.2.2.2.1) + 1) fun v11 => nm ((M.1, M.2.1, M.2.2.1, M.2.2.2.1, M.2.2.2.2.1, M.2.2.2.2.2.1, v11, M.2.2.2.2.2.2.2)) fun M12 => (fX9_skips_l0  fu) M12)) := rfl
theorem fX9_skips_l0_z  (M : Md) : fX9_skips_l0  0 M = none := rfl
noncomputable def fX9_skips  (M : Md) : Option (Md) := (fX9_isAt M 32 32).bind fun r1 => if r1 = 0 then (nm (M.2.2.2.2.2.2.1) fun v3 => nm ((M.1, M.2.1, M.2.2.1, M.2.2.2.1, M.2.2.2.2.1, M.2.2.2.2.2.1, M.2.2.2.2.2.2.1, v3, M.2.2.2.2.2.2.2.2)) fun M4 => some M4) else (nm ((M.2.2.2.2.2.2.1) + 1) fun v5 => nm ((M.1, M.2.1, M.2.2.1, M.2.2.2.1, M.2.2.2.2.1, M.2.2.2.2.2.1, v5, M.2.2.2.2.2.2.2)) fun M6 => fX9_skips_l0 FU M6)
abbrev vX9_skips : List Cond := Cond.code yX9_skips cX9_skips 1 none :: BIG
theorem gX9_skips {own : String} {idx : Nat} (h : (Cond.methodLink own idx yX9_skips) ∈ BIG) : GoodIn BIG (wsV own idx RX9 yX9_skips vX9_skips) := gdV h bw4_218 bs43 bw1_11 bw4_219
def rmX9_skips : Room := { frames := 2, cells := 0, slots := 0, locals := 44 }
theorem hdX9_skips : yX9_skips.cls = RX9 ∧ yX9_skips.cls ≠ "java/lang/invoke/MethodHandle" ∧ yX9_skips.cls ≠ "java/lang/invoke/VarHandle" ∧ (parseMethodDescriptor yX9_skips.desc).map (fun d => d.parameters.length) = some 0 := by decide +kernel
set_option maxHeartbeats 4000000 in
set_option maxRecDepth 100000 in
theorem kX9_skips (l : Launch) (D : va_G) (cS : ClassId) (g : Nat → Nat) (cI : ClassId) (b : Nat → Nat) (M : Md) (M' : Md) (hF : fX9_skips M = some M') : mV l yX9_skips vX9_skips rmX9_skips D cI cS g [.ref (b 0)] (wMd cI b M) (wMd cI b (M')) := by
  refine st_V rfl (by decide) (Nat.le_of_ble_eq_true rfl) ?_
  intro p e s m args below meth c A ls hx hb hr hml hlocks hown hts hA hK hD0 hG hP hS hl
  have hown : s.vm.findClass RX9 = some m.cls := hown
  have hDa : ∀ M, va_D A (wMd cI b M) := fun M => hD0.adr rfl
  have htb : ∀ w ∈ BIG, w.before args s = true := fun w h => hts w (List.mem_cons_of_mem _ h)
  have hl : lv_has ls 1 [(0, .ref (b 0))] := hl
  have l0 : ∀ (fu : Nat) (M : Md) (H : Heap) (locs : List Loc) (ls : Array Slot), fX9_skips_l0  fu M = some M' → va_P D vwCl (wMd cI b M) H → va_S A s.heap H locs → lv_has ls 1 [(0, .ref (b 0))] → W p l e rmX9_skips s m args below meth c H locs 0 0 (MQ below (qV D (wMd cI b (M')) A) args s 0 0 A) (F0 m 0 ls []) := by
    intro  fu
    induction fu with
    | zero => intro M H locs ls hF; exact nn_use hF
    | succ fu ihn =>
      intro M H locs ls hF hP hS hl 
      rw [fX9_skips_l0_s] at hF
      refine lv_aload_n hx hb dX9_skips_0 rfl (lv_at hl 0 rfl) ?_
      refine lv_bipush (v := 32) hx hb dX9_skips_1 (by decide) ?_
      refine lv_bipush (v := 32) hx hb dX9_skips_3 (by decide) ?_
      obtain ⟨r7, hr7, hF⟩ := bd_use hF
      refine cl_VI ⟨hx, hb, hml, hown, htb⟩ (kX9_isAt l D cS g cI b M 32 32 _ hr7) (cwV 2 htb (gX9_isAt bw4_220) rfl rfl rfl hdX9_isAt ⟨Nat.le_of_ble_eq_true rfl, Nat.le_of_ble_eq_true rfl⟩) hK (hDa _) hG hA hP hS (sr_Md_Md cI b M) hl.1 rfl 0 (pMd_0 _ _ _) rfl rfl (Nat.le_of_ble_eq_true rfl) dX9_skips_5 (fun H locs hP hS => ?_)
      refine lv_if_eq (tgt := 24) hx hb dX9_skips_8 (by decide) (fun c8 => ?_) (fun c8 => ?_)
      · have hF := it_t hF c8
        refine lv_aload_n hx hb dX9_skips_24 rfl (lv_at hl 0 rfl) ?_
        refine lv_aload_n hx hb dX9_skips_25 rfl (lv_at hl 0 rfl) ?_
        refine va_get (ci := 9) (v := .int (M.2.2.2.2.2.2.1)) (C := RX9) (T := TX9) (N := 10) hx hb htb kin9 hown hK hP 0 (pMd_0 cI b M) rfl 6 (by decide) (htb _ bw4_31) (fun _ h9 => h9) rfl dX9_skips_26 ?_
        refine lv_topi (fun v9 ev9 => ?_)
        have hF := nm_use hF ev9
        refine va_put (ci := 9) (v := .int v9) (ty := .int) (C := RX9) (T := TX9) (N := 10) hx hb htb kin9 tyX9 tyX9_ok nmX9 hown hK hP (hDa _) hS 0 (pMd_0 cI b M) rfl 7 (by decide) (htb _ bw4_32) (fun _ h9 => h9) rfl (by decide +kernel) rfl rfl (Nat.le_of_ble_eq_true rfl) dX9_skips_29 (fun H locs hP _ hS => ?_)
        obtain ⟨M10, eM10⟩ : ∃ z : Md, z = (M.1, M.2.1, M.2.2.1, M.2.2.2.1, M.2.2.2.2.1, M.2.2.2.2.2.1, M.2.2.2.2.2.2.1, v9, M.2.2.2.2.2.2.2.2) := ⟨_, rfl⟩
        have hF := nm_use hF eM10
        have hP : va_P D vwCl (wMd cI b M10) H := by rw [eM10]; exact hP
        exact rt_V hx hb hr hlocks hS (by rw [← so_use hF]; exact hP) dX9_skips_32
      · have hF := it_f hF c8
        refine lv_aload_n hx hb dX9_skips_11 rfl (lv_at hl 0 rfl) ?_
        refine lv_dup hx hb dX9_skips_12 rfl ?_
        refine va_get (ci := 9) (v := .int (M.2.2.2.2.2.2.1)) (C := RX9) (T := TX9) (N := 10) hx hb htb kin9 hown hK hP 0 (pMd_0 cI b M) rfl 6 (by decide) (htb _ bw4_31) (fun _ h9 => h9) rfl dX9_skips_13 ?_
        refine lv_iconst (v := 1) hx hb dX9_skips_16 (by decide) ?_
        refine lv_iadd hx hb dX9_skips_17 ?_
        refine lv_topi (fun v11 ev11 => ?_)
        have hF := nm_use hF ev11
        refine va_put (ci := 9) (v := .int v11) (ty := .int) (C := RX9) (T := TX9) (N := 10) hx hb htb kin9 tyX9 tyX9_ok nmX9 hown hK hP (hDa _) hS 0 (pMd_0 cI b M) rfl 6 (by decide) (htb _ bw4_31) (fun _ h9 => h9) rfl (by decide +kernel) rfl rfl (Nat.le_of_ble_eq_true rfl) dX9_skips_18 (fun H locs hP _ hS => ?_)
        obtain ⟨M12, eM12⟩ : ∃ z : Md, z = (M.1, M.2.1, M.2.2.1, M.2.2.2.1, M.2.2.2.2.1, M.2.2.2.2.2.1, v11, M.2.2.2.2.2.2.2) := ⟨_, rfl⟩
        have hF := nm_use hF eM12
        have hP : va_P D vwCl (wMd cI b M12) H := by rw [eM12]; exact hP
        refine lv_goto (tgt := 0) hx hb dX9_skips_21 (by decide) ?_
        exact ihn M12 _ _ _ hF hP hS (lv_sub hl [0] rfl)
  refine lv_aload_n hx hb dX9_skips_0 rfl (lv_at hl 0 rfl) ?_
  refine lv_bipush (v := 32) hx hb dX9_skips_1 (by decide) ?_
  refine lv_bipush (v := 32) hx hb dX9_skips_3 (by decide) ?_
  obtain ⟨r1, hr1, hF⟩ := bd_use hF
  refine cl_VI ⟨hx, hb, hml, hown, htb⟩ (kX9_isAt l D cS g cI b M 32 32 _ hr1) (cwV 2 htb (gX9_isAt bw4_220) rfl rfl rfl hdX9_isAt ⟨Nat.le_of_ble_eq_true rfl, Nat.le_of_ble_eq_true rfl⟩) hK (hDa _) hG hA hP hS (sr_Md_Md cI b M) hl.1 rfl 0 (pMd_0 _ _ _) rfl rfl (Nat.le_of_ble_eq_true rfl) dX9_skips_5 (fun H locs hP hS => ?_)
  refine lv_if_eq (tgt := 24) hx hb dX9_skips_8 (by decide) (fun c2 => ?_) (fun c2 => ?_)
  · have hF := it_t hF c2
    refine lv_aload_n hx hb dX9_skips_24 rfl (lv_at hl 0 rfl) ?_
    refine lv_aload_n hx hb dX9_skips_25 rfl (lv_at hl 0 rfl) ?_
    refine va_get (ci := 9) (v := .int (M.2.2.2.2.2.2.1)) (C := RX9) (T := TX9) (N := 10) hx hb htb kin9 hown hK hP 0 (pMd_0 cI b M) rfl 6 (by decide) (htb _ bw4_31) (fun _ h9 => h9) rfl dX9_skips_26 ?_
    refine lv_topi (fun v3 ev3 => ?_)
    have hF := nm_use hF ev3
    refine va_put (ci := 9) (v := .int v3) (ty := .int) (C := RX9) (T := TX9) (N := 10) hx hb htb kin9 tyX9 tyX9_ok nmX9 hown hK hP (hDa _) hS 0 (pMd_0 cI b M) rfl 7 (by decide) (htb _ bw4_32) (fun _ h9 => h9) rfl (by decide +kernel) rfl rfl (Nat.le_of_ble_eq_true rfl) dX9_skips_29 (fun H locs hP _ hS => ?_)
    obtain ⟨M4, eM4⟩ : ∃ z : Md, z = (M.1, M.2.1, M.2.2.1, M.2.2.2.1, M.2.2.2.2.1, M.2.2.2.2.2.1, M.2.2.2.2.2.2.1, v3, M.2.2.2.2.2.2.2.2) := ⟨_, rfl⟩
    have hF := nm_use hF eM4
    have hP : va_P D vwCl (wMd cI b M4) H := by rw [eM4]; exact hP
    exact rt_V hx hb hr hlocks hS (by rw [← so_use hF]; exact hP) dX9_skips_32
  · have hF := it_f hF c2
    refine lv_aload_n hx hb dX9_skips_11 rfl (lv_at hl 0 rfl) ?_
    refine lv_dup hx hb dX9_skips_12 rfl ?_
    refine va_get (ci := 9) (v := .int (M.2.2.2.2.2.2.1)) (C := RX9) (T := TX9) (N := 10) hx hb htb kin9 hown hK hP 0 (pMd_0 cI b M) rfl 6 (by decide) (htb _ bw4_31) (fun _ h9 => h9) rfl dX9_skips_13 ?_
    refine lv_iconst (v := 1) hx hb dX9_skips_16 (by decide) ?_
    refine lv_iadd hx hb dX9_skips_17 ?_
    refine lv_topi (fun v5 ev5 => ?_)
    have hF := nm_use hF ev5
    refine va_put (ci := 9) (v := .int v5) (ty := .int) (C := RX9) (T := TX9) (N := 10) hx hb htb kin9 tyX9 tyX9_ok nmX9 hown hK hP (hDa _) hS 0 (pMd_0 cI b M) rfl 6 (by decide) (htb _ bw4_31) (fun _ h9 => h9) rfl (by decide +kernel) rfl rfl (Nat.le_of_ble_eq_true rfl) dX9_skips_18 (fun H locs hP _ hS => ?_)
    obtain ⟨M6, eM6⟩ : ∃ z : Md, z = (M.1, M.2.1, M.2.2.1, M.2.2.2.1, M.2.2.2.2.1, M.2.2.2.2.2.1, v5, M.2.2.2.2.2.2.2) := ⟨_, rfl⟩
    have hF := nm_use hF eM6
    have hP : va_P D vwCl (wMd cI b M6) H := by rw [eM6]; exact hP
    refine lv_goto (tgt := 0) hx hb dX9_skips_21 (by decide) ?_
    refine l0   _ M6 _ _ _ hF hP hS (lv_sub hl [0] rfl)
noncomputable def fX9_isWord_j56  (kk : Md → Option (Int32 × Md)) (ih : Md → Option (Int32 × Md)) (M : Md) (s1 : Int64) : Option (Int32 × Md) := nm ((M.1, M.2.1, M.2.2.1, M.2.2.2.1, M.2.2.2.2.1, M.2.2.2.2.2.1, M.2.2.2.2.2.2.1, M.2.2.2.2.2.2.2.1, s1, M.2.2.2.2.2.2.2.2.2)) fun M6 => nm ((M6.2.2.2.2.2.2.1) + 1) fun v7 => nm ((M6.1, M6.2.1, M6.2.2.1, M6.2.2.2.1, M6.2.2.2.2.1, M6.2.2.2.2.2.1, v7, M6.2.2.2.2.2.2.2)) fun M8 => ih M8
noncomputable def fX9_isWord_l9  (kk : Md → Option (Int32 × Md)) : Nat → Md → Option (Int32 × Md) := fun fu => Nat.rec (motive := fun _ => Md → Option (Int32 × Md)) (fun _ => none) (fun _ ih => fun M => (fX9_isAt M 97 122).bind fun r3 => if r3 = 0 then (kk M) else (if 4 ≤ ((M.2.2.2.2.2.2.1) - (M.2.2.2.2.2.2.2.1)) then (fX9_isWord_j56 kk ih M 0) else (Rd (M.2.2.2.2.1) 140 (M.2.2.2.2.2.2.1) fun v9 => fX9_isWord_j56 kk ih M (((M.2.2.2.2.2.2.2.2.1) <<< ((8 : Int32).toInt64 &&& 63)) ||| (v9.toInt64))))) fu
theorem fX9_isWord_l9_s  (kk : Md → Option (Int32 × Md)) (fu : Nat) (M : Md) : fX9_isWord_l9 kk (fu + 1) M = ((fX9_isAt M 97 122).bind fun r3 => if r3 = 0 then (kk M) else (if 4 ≤ ((M.2.2.2.2.2.2.1) - (M.2.2.2.2.2.2.2.1)) then (fX9_isWord_j56 kk (fX9_isWord_l9 kk fu) M 0) else (Rd (M.2.2.2.2.1) 140 (M.2.2.2.2.2.2.1) fun v9 => fX9_isWord_j56 kk (fX9_isWord_l9 kk fu) M (((M.2.2.2.2.2.2.2.2.1) <<< ((8 : Int32).toInt64 &&& 63)) ||| (v9.toInt64))))) := rfl
theorem fX9_isWord_l9_z  (kk : Md → Option (Int32 × Md)) (M : Md) : fX9_isWord_l9 kk 0 M = none := rfl
noncomputable def fX9_isWord_j100  (M : Md) (s0 : Int32) : Option (Int32 × Md) := Zb s0 (some (s0, M))
noncomputable def fX9_isWord_j99  (M : Md) : Option (Int32 × Md) := fX9_isWord_j100 M 0
noncomputable def fX9_isWord  (M : Md) : Option (Int32 × Md) := (fX9_skips M).bind fun M1 => nm ((M1.1, M1.2.1, M1.2.2.1, M1.2.2.2.1, M1.2.2.2.2.1, M1.2.2.2.2.2.1, M1.2.2.2.2.2.2.1, M1.2.2.2.2.2.2.2.1, 0, M1.2.2.2.2.2.2.2.2.2)) fun M2 => fX9_isWord_l9 (fun M10 => if 4 < ((M10.2.2.2.2.2.2.1) - (M10.2.2.2.2.2.2.2.1)) then (fX9_isWord_j99 M10) else ((fX9_manyOf (M10.2.2.2.2.2.2.2.2.1)).bind fun r12 => if r12 ≤ 0 then (fX9_isWord_j99 M10) else (fX9_isWord_j100 M10 1))) FU M2
abbrev vX9_isWord : List Cond := Cond.code yX9_isWord cX9_isWord 1 (some .boolean) :: BIG
theorem gX9_isWord {own : String} {idx : Nat} (h : (Cond.methodLink own idx yX9_isWord) ∈ BIG) : GoodIn BIG (wsV own idx RX9 yX9_isWord vX9_isWord) := gdV h bw4_230 bs46 bw1_11 bw4_231
def rmX9_isWord : Room := { frames := 3, cells := 0, slots := 0, locals := 64 }
theorem hdX9_isWord : yX9_isWord.cls = RX9 ∧ yX9_isWord.cls ≠ "java/lang/invoke/MethodHandle" ∧ yX9_isWord.cls ≠ "java/lang/invoke/VarHandle" ∧ (parseMethodDescriptor yX9_isWord.desc).map (fun d => d.parameters.length) = some 0 := by decide +kernel
set_option maxHeartbeats 4000000 in
set_option maxRecDepth 100000 in
theorem kX9_isWord (l : Launch) (D : va_G) (cS : ClassId) (g : Nat → Nat) (cI : ClassId) (b : Nat → Nat) (M : Md) (r : Int32) (M' : Md) (hF : fX9_isWord M = some (r, M')) : mI l yX9_isWord vX9_isWord rmX9_isWord D cI cS g [.ref (b 0)] (wMd cI b M) r (wMd cI b (M')) := by
  refine st_I rfl (by decide) (Nat.le_of_ble_eq_true rfl) ?_
  intro p e s m args below meth c A ls hx hb hr hml hlocks hown hts hA hK hD0 hG hP hS hl
  have hown : s.vm.findClass RX9 = some m.cls := hown
  have hDa : ∀ M, va_D A (wMd cI b M) := fun M => hD0.adr rfl
  have htb : ∀ w ∈ BIG, w.before args s = true := fun w h => hts w (List.mem_cons_of_mem _ h)
  have hl : lv_has ls 1 [(0, .ref (b 0))] := hl
  have l9 : ∀ (kk : Md → Option (Int32 × Md)) (fu : Nat) (M : Md) (H : Heap) (locs : List Loc) (ls : Array Slot), fX9_isWord_l9 kk fu M = some (r, M') → va_P D vwCl (wMd cI b M) H → va_S A s.heap H locs → lv_has ls 1 [(0, .ref (b 0))] → (∀ (M : Md) (H : Heap) (locs : List Loc) (ls : Array Slot), kk M = some (r, M') → va_P D vwCl (wMd cI b M) H → va_S A s.heap H locs → lv_has ls 1 [(0, .ref (b 0))] → W p l e rmX9_isWord s m args below meth c H locs 0 0 (MQ below (qI D r (wMd cI b (M')) A) args s 0 0 A) (F0 m 72 ls [])) → W p l e rmX9_isWord s m args below meth c H locs 0 0 (MQ below (qI D r (wMd cI b (M')) A) args s 0 0 A) (F0 m 9 ls []) := by
    intro kk fu
    induction fu with
    | zero => intro M H locs ls hF; exact nn_use hF
    | succ fu ihn =>
      intro M H locs ls hF hP hS hl after
      rw [fX9_isWord_l9_s] at hF
      have j56 : ∀ (M : Md) (s1 : Int64) (H : Heap) (locs : List Loc) (ls : Array Slot), fX9_isWord_j56 kk (fX9_isWord_l9 kk fu) M s1 = some (r, M') → va_P D vwCl (wMd cI b M) H → va_S A s.heap H locs → lv_has ls 1 [(0, .ref (b 0))] → W p l e rmX9_isWord s m args below meth c H locs 0 0 (MQ below (qI D r (wMd cI b (M')) A) args s 0 0 A) (F0 m 56 ls [.long s1, .ref (b 0)]) := by
        intro M s1 H locs ls hF hP hS hl
        refine va_put (ci := 9) (v := .long s1) (ty := .long) (C := RX9) (T := TX9) (N := 10) hx hb htb kin9 tyX9 tyX9_ok nmX9 hown hK hP (hDa _) hS 0 (pMd_0 cI b M) rfl 8 (by decide) (htb _ bw4_33) (fun _ h9 => h9) rfl (by decide +kernel) rfl rfl (Nat.le_of_ble_eq_true rfl) dX9_isWord_56 (fun H locs hP _ hS => ?_)
        obtain ⟨M6, eM6⟩ : ∃ z : Md, z = (M.1, M.2.1, M.2.2.1, M.2.2.2.1, M.2.2.2.2.1, M.2.2.2.2.2.1, M.2.2.2.2.2.2.1, M.2.2.2.2.2.2.2.1, s1, M.2.2.2.2.2.2.2.2.2) := ⟨_, rfl⟩
        have hF := nm_use hF eM6
        have hP : va_P D vwCl (wMd cI b M6) H := by rw [eM6]; exact hP
        refine lv_aload_n hx hb dX9_isWord_59 rfl (lv_at hl 0 rfl) ?_
        refine lv_dup hx hb dX9_isWord_60 rfl ?_
        refine va_get (ci := 9) (v := .int (M6.2.2.2.2.2.2.1)) (C := RX9) (T := TX9) (N := 10) hx hb htb kin9 hown hK hP 0 (pMd_0 cI b M6) rfl 6 (by decide) (htb _ bw4_31) (fun _ h9 => h9) rfl dX9_isWord_61 ?_
        refine lv_iconst (v := 1) hx hb dX9_isWord_64 (by decide) ?_
        refine lv_iadd hx hb dX9_isWord_65 ?_
        refine lv_topi (fun v7 ev7 => ?_)
        have hF := nm_use hF ev7
        refine va_put (ci := 9) (v := .int v7) (ty := .int) (C := RX9) (T := TX9) (N := 10) hx hb htb kin9 tyX9 tyX9_ok nmX9 hown hK hP (hDa _) hS 0 (pMd_0 cI b M6) rfl 6 (by decide) (htb _ bw4_31) (fun _ h9 => h9) rfl (by decide +kernel) rfl rfl (Nat.le_of_ble_eq_true rfl) dX9_isWord_66 (fun H locs hP _ hS => ?_)
        obtain ⟨M8, eM8⟩ : ∃ z : Md, z = (M6.1, M6.2.1, M6.2.2.1, M6.2.2.2.1, M6.2.2.2.2.1, M6.2.2.2.2.2.1, v7, M6.2.2.2.2.2.2.2) := ⟨_, rfl⟩
        have hF := nm_use hF eM8
        have hP : va_P D vwCl (wMd cI b M8) H := by rw [eM8]; exact hP
        refine lv_goto (tgt := 9) hx hb dX9_isWord_69 (by decide) ?_
        exact ihn M8 _ _ _ hF hP hS (lv_sub hl [0] rfl) after
      refine lv_aload_n hx hb dX9_isWord_9 rfl (lv_at hl 0 rfl) ?_
      refine lv_bipush (v := 97) hx hb dX9_isWord_10 (by decide) ?_
      refine lv_bipush (v := 122) hx hb dX9_isWord_12 (by decide) ?_
      obtain ⟨r3, hr3, hF⟩ := bd_use hF
      refine cl_VI ⟨hx, hb, hml, hown, htb⟩ (kX9_isAt l D cS g cI b M 97 122 _ hr3) (cwV 2 htb (gX9_isAt bw4_220) rfl rfl rfl hdX9_isAt ⟨Nat.le_of_ble_eq_true rfl, Nat.le_of_ble_eq_true rfl⟩) hK (hDa _) hG hA hP hS (sr_Md_Md cI b M) hl.1 rfl 0 (pMd_0 _ _ _) rfl rfl (Nat.le_of_ble_eq_true rfl) dX9_isWord_14 (fun H locs hP hS => ?_)
      refine lv_if_eq (tgt := 72) hx hb dX9_isWord_17 (by decide) (fun c4 => ?_) (fun c4 => ?_)
      · have hF := it_t hF c4
        exact after M _ _ _ hF hP hS (lv_sub hl [0] rfl)
      · have hF := it_f hF c4
        refine lv_aload_n hx hb dX9_isWord_20 rfl (lv_at hl 0 rfl) ?_
        refine lv_aload_n hx hb dX9_isWord_21 rfl (lv_at hl 0 rfl) ?_
        refine va_get (ci := 9) (v := .int (M.2.2.2.2.2.2.1)) (C := RX9) (T := TX9) (N := 10) hx hb htb kin9 hown hK hP 0 (pMd_0 cI b M) rfl 6 (by decide) (htb _ bw4_31) (fun _ h9 => h9) rfl dX9_isWord_22 ?_
        refine lv_aload_n hx hb dX9_isWord_25 rfl (lv_at hl 0 rfl) ?_
        refine va_get (ci := 9) (v := .int (M.2.2.2.2.2.2.2.1)) (C := RX9) (T := TX9) (N := 10) hx hb htb kin9 hown hK hP 0 (pMd_0 cI b M) rfl 7 (by decide) (htb _ bw4_32) (fun _ h9 => h9) rfl dX9_isWord_26 ?_
        refine lv_isub hx hb dX9_isWord_29 ?_
        refine lv_iconst (v := 4) hx hb dX9_isWord_30 (by decide) ?_
        refine lv_icmp_ge (tgt := 55) hx hb dX9_isWord_31 (by decide) (fun c5 => ?_) (fun c5 => ?_)
        · have hF := it_t hF c5
          refine lv_lconst (v := 0) hx hb dX9_isWord_55 (by decide) ?_
          exact j56 M 0 _ _ _ hF hP hS (lv_sub hl [0] rfl)
        · have hF := it_f hF c5
          refine lv_aload_n hx hb dX9_isWord_34 rfl (lv_at hl 0 rfl) ?_
          refine va_get (ci := 9) (v := .long (M.2.2.2.2.2.2.2.2.1)) (C := RX9) (T := TX9) (N := 10) hx hb htb kin9 hown hK hP 0 (pMd_0 cI b M) rfl 8 (by decide) (htb _ bw4_33) (fun _ h9 => h9) rfl dX9_isWord_35 ?_
          refine lv_bipush (v := 8) hx hb dX9_isWord_38 (by decide) ?_
          refine lv_lshl hx hb dX9_isWord_40 rfl ?_
          refine lv_aload_n hx hb dX9_isWord_41 rfl (lv_at hl 0 rfl) ?_
          refine va_get (ci := 9) (v := .ref (b 4)) (C := RX9) (T := TX9) (N := 10) hx hb htb kin9 hown hK hP 0 (pMd_0 cI b M) rfl 4 (by decide) (htb _ bw4_29) (fun _ h9 => h9) rfl dX9_isWord_42 ?_
          refine lv_aload_n hx hb dX9_isWord_45 rfl (lv_at hl 0 rfl) ?_
          refine va_get (ci := 9) (v := .int (M.2.2.2.2.2.2.1)) (C := RX9) (T := TX9) (N := 10) hx hb htb kin9 hown hK hP 0 (pMd_0 cI b M) rfl 6 (by decide) (htb _ bw4_31) (fun _ h9 => h9) rfl dX9_isWord_46 ?_
          obtain ⟨hi, hF⟩ := rd_use hF
          refine va_iald hx hb hK hP 4 0 (pMd_4 cI b M) rfl hi dX9_isWord_49 ?_
          refine lv_topi (fun v9 ev9 => ?_)
          have hF := hF v9 ev9
          refine lv_i2l hx hb dX9_isWord_50 rfl ?_
          refine lv_lor hx hb dX9_isWord_51 ?_
          refine lv_goto (tgt := 56) hx hb dX9_isWord_52 (by decide) ?_
          exact j56 M (((M.2.2.2.2.2.2.2.2.1) <<< ((8 : Int32).toInt64 &&& 63)) ||| (v9.toInt64)) _ _ _ hF hP hS (lv_sub hl [0] rfl)
  have j100 : ∀ (M : Md) (s0 : Int32) (H : Heap) (locs : List Loc) (ls : Array Slot), fX9_isWord_j100 M s0 = some (r, M') → va_P D vwCl (wMd cI b M) H → va_S A s.heap H locs → lv_has ls 1 [] → W p l e rmX9_isWord s m args below meth c H locs 0 0 (MQ below (qI D r (wMd cI b (M')) A) args s 0 0 A) (F0 m 100 ls [.int s0]) := by
    intro M s0 H locs ls hF hP hS hl
    obtain ⟨hz, hF⟩ := zb_use hF
    obtain ⟨er, eM⟩ := pr_use hF
    exact rt_Z hx hb hr hlocks hS (by rw [← eM]; exact hP) hz er dX9_isWord_100
  have j99 : ∀ (M : Md) (H : Heap) (locs : List Loc) (ls : Array Slot), fX9_isWord_j99 M = some (r, M') → va_P D vwCl (wMd cI b M) H → va_S A s.heap H locs → lv_has ls 1 [] → W p l e rmX9_isWord s m args below meth c H locs 0 0 (MQ below (qI D r (wMd cI b (M')) A) args s 0 0 A) (F0 m 99 ls []) := by
    intro M H locs ls hF hP hS hl
    refine lv_iconst (v := 0) hx hb dX9_isWord_99 (by decide) ?_
    exact j100 M 0 _ _ _ hF hP hS (lv_sub hl [] rfl)
  refine lv_aload_n hx hb dX9_isWord_0 rfl (lv_at hl 0 rfl) ?_
  obtain ⟨M1, hM1, hF⟩ := bd_use hF
  refine cl_VV ⟨hx, hb, hml, hown, htb⟩ (kX9_skips l D cS g cI b M  _ hM1) (cwV 0 htb (gX9_skips bw4_216) rfl rfl rfl hdX9_skips ⟨Nat.le_of_ble_eq_true rfl, Nat.le_of_ble_eq_true rfl⟩) hK (hDa _) hG hA hP hS (sg_Md_Md cI b M M1) hl.1 rfl 0 (pMd_0 _ _ _) rfl rfl (Nat.le_of_ble_eq_true rfl) dX9_isWord_1 (fun H locs hP hS => ?_)
  refine lv_aload_n hx hb dX9_isWord_4 rfl (lv_at hl 0 rfl) ?_
  refine lv_lconst (v := 0) hx hb dX9_isWord_5 (by decide) ?_
  refine va_put (ci := 9) (v := .long 0) (ty := .long) (C := RX9) (T := TX9) (N := 10) hx hb htb kin9 tyX9 tyX9_ok nmX9 hown hK hP (hDa _) hS 0 (pMd_0 cI b M1) rfl 8 (by decide) (htb _ bw4_33) (fun _ h9 => h9) rfl (by decide +kernel) rfl rfl (Nat.le_of_ble_eq_true rfl) dX9_isWord_6 (fun H locs hP _ hS => ?_)
  obtain ⟨M2, eM2⟩ : ∃ z : Md, z = (M1.1, M1.2.1, M1.2.2.1, M1.2.2.2.1, M1.2.2.2.2.1, M1.2.2.2.2.2.1, M1.2.2.2.2.2.2.1, M1.2.2.2.2.2.2.2.1, 0, M1.2.2.2.2.2.2.2.2.2) := ⟨_, rfl⟩
  have hF := nm_use hF eM2
  have hP : va_P D vwCl (wMd cI b M2) H := by rw [eM2]; exact hP
  refine l9  _ _ M2 _ _ _ hF hP hS (lv_sub hl [0] rfl) ?_
  · intro M10 H locs ls hF hP hS hl
    refine lv_aload_n hx hb dX9_isWord_72 rfl (lv_at hl 0 rfl) ?_
    refine va_get (ci := 9) (v := .int (M10.2.2.2.2.2.2.1)) (C := RX9) (T := TX9) (N := 10) hx hb htb kin9 hown hK hP 0 (pMd_0 cI b M10) rfl 6 (by decide) (htb _ bw4_31) (fun _ h9 => h9) rfl dX9_isWord_73 ?_
    refine lv_aload_n hx hb dX9_isWord_76 rfl (lv_at hl 0 rfl) ?_
    refine va_get (ci := 9) (v := .int (M10.2.2.2.2.2.2.2.1)) (C := RX9) (T := TX9) (N := 10) hx hb htb kin9 hown hK hP 0 (pMd_0 cI b M10) rfl 7 (by decide) (htb _ bw4_32) (fun _ h9 => h9) rfl dX9_isWord_77 ?_
    refine lv_isub hx hb dX9_isWord_80 ?_
    refine lv_iconst (v := 4) hx hb dX9_isWord_81 (by decide) ?_
    refine lv_icmp_gt (tgt := 99) hx hb dX9_isWord_82 (by decide) (fun c11 => ?_) (fun c11 => ?_)
    · have hF := it_t hF c11
      exact j99 M10 _ _ _ hF hP hS (lv_sub hl [] rfl)
    · have hF := it_f hF c11
      refine lv_aload_n hx hb dX9_isWord_85 rfl (lv_at hl 0 rfl) ?_
      refine va_get (ci := 9) (v := .long (M10.2.2.2.2.2.2.2.2.1)) (C := RX9) (T := TX9) (N := 10) hx hb htb kin9 hown hK hP 0 (pMd_0 cI b M10) rfl 8 (by decide) (htb _ bw4_33) (fun _ h9 => h9) rfl dX9_isWord_86 ?_
      obtain ⟨r12, hr12, hF⟩ := bd_use hF
      refine cl_SI ⟨hx, hb, hml, hown, htb⟩ (kX9_manyOf l D cS g cI (M10.2.2.2.2.2.2.2.2.1) _ hr12) (va_cwS 1 htb (gX9_manyOf bw4_232) rfl rfl rfl hdX9_manyOf ⟨Nat.le_of_ble_eq_true rfl, Nat.le_of_ble_eq_true rfl⟩) hK (hDa _) hG hA hP hS sg_nil hl.1 rfl rfl (Nat.le_of_ble_eq_true rfl) dX9_isWord_89 (fun H locs hP hS => ?_)
      refine lv_if_le (tgt := 99) hx hb dX9_isWord_92 (by decide) (fun c13 => ?_) (fun c13 => ?_)
      · have hF := it_t hF c13
        exact j99 M10 _ _ _ hF hP hS (lv_sub hl [] rfl)
      · have hF := it_f hF c13
        refine lv_iconst (v := 1) hx hb dX9_isWord_95 (by decide) ?_
        refine lv_goto (tgt := 100) hx hb dX9_isWord_96 (by decide) ?_
        exact j100 M10 1 _ _ _ hF hP hS (lv_sub hl [] rfl)
noncomputable def fX9_isNumber_j51  (x1 : Int32) (kk : Md → Int32 → Option (Int32 × Md)) (ih : Md → Int32 → Option (Int32 × Md)) (M : Md) (s0 : Int32) : Option (Int32 × Md) := nm ((M.2.2.2.2.2.2.1) + 1) fun v5 => nm ((M.1, M.2.1, M.2.2.1, M.2.2.2.1, M.2.2.2.2.1, M.2.2.2.2.2.1, v5, M.2.2.2.2.2.2.2)) fun M6 => ih M6 s0
noncomputable def fX9_isNumber_l6  (x1 : Int32) (kk : Md → Int32 → Option (Int32 × Md)) : Nat → Md → Int32 → Option (Int32 × Md) := fun fu => Nat.rec (motive := fun _ => Md → Int32 → Option (Int32 × Md)) (fun _ _ => none) (fun _ ih => fun M x2 => (fX9_isAt M 48 57).bind fun r2 => if r2 = 0 then (kk M x2) else (if 4 ≤ ((M.2.2.2.2.2.2.1) - (M.2.2.2.2.2.2.2.1)) then (fX9_isNumber_j51 x1 kk ih M x2) else (Rd (M.2.2.2.2.1) 140 (M.2.2.2.2.2.2.1) fun v7 => fX9_isNumber_j51 x1 kk ih M (((10 * x2) + v7) - 48)))) fu
theorem fX9_isNumber_l6_s  (x1 : Int32) (kk : Md → Int32 → Option (Int32 × Md)) (fu : Nat) (M : Md) (x2 : Int32) : fX9_isNumber_l6 x1 kk (fu + 1) M x2 = ((fX9_isAt M 48 57).bind fun r2 => if r2 = 0 then (kk M x2) else (if 4 ≤ ((M.2.2.2.2.2.2.1) - (M.2.2.2.2.2.2.2.1)) then (fX9_isNumber_j51 x1 kk (fX9_isNumber_l6 x1 kk fu) M x2) else (Rd (M.2.2.2.2.1) 140 (M.2.2.2.2.2.2.1) fun v7 => fX9_isNumber_j51 x1 kk (fX9_isNumber_l6 x1 kk fu) M (((10 * x2) + v7) - 48)))) := rfl
theorem fX9_isNumber_l6_z  (x1 : Int32) (kk : Md → Int32 → Option (Int32 × Md)) (M : Md) (x2 : Int32) : fX9_isNumber_l6 x1 kk 0 M x2 = none := rfl
noncomputable def fX9_isNumber_j121  (M : Md) (s0 : Int32) : Option (Int32 × Md) := Zb s0 (some (s0, M))
noncomputable def fX9_isNumber_j120  (M : Md) : Option (Int32 × Md) := fX9_isNumber_j121 M 0
noncomputable def fX9_isNumber_j116  (M : Md) : Option (Int32 × Md) := fX9_isNumber_j121 M 1
noncomputable def fX9_isNumber  (M : Md) (x1 : Int32) : Option (Int32 × Md) := (fX9_skips M).bind fun M1 => fX9_isNumber_l6 x1 (fun M9 y8 => Wr (M9.2.2.2.2.2.2.2.2.2) 4 x1 y8 fun f10 => nm ((M9.1, M9.2.1, M9.2.2.1, M9.2.2.2.1, M9.2.2.2.2.1, M9.2.2.2.2.2.1, M9.2.2.2.2.2.2.1, M9.2.2.2.2.2.2.2.1, M9.2.2.2.2.2.2.2.2.1, f10)) fun M11 => (fX9_in ((M11.2.2.2.2.2.2.1) - (M11.2.2.2.2.2.2.2.1)) 1 4).bind fun r12 => if r12 = 0 then (fX9_isNumber_j120 M11) else (if ((M11.2.2.2.2.2.2.1) - (M11.2.2.2.2.2.2.2.1)) = 1 then (fX9_isNumber_j116 M11) else (Rd (M11.2.2.2.2.1) 140 (M11.2.2.2.2.2.2.2.1) fun v15 => if v15 = 48 then (fX9_isNumber_j120 M11) else (fX9_isNumber_j116 M11)))) FU M1 0
abbrev vX9_isNumber : List Cond := Cond.code yX9_isNumber cX9_isNumber 3 (some .boolean) :: BIG
theorem gX9_isNumber {own : String} {idx : Nat} (h : (Cond.methodLink own idx yX9_isNumber) ∈ BIG) : GoodIn BIG (wsV own idx RX9 yX9_isNumber vX9_isNumber) := gdV h bw5_4 bs47 bw1_11 bw5_5
def rmX9_isNumber : Room := { frames := 3, cells := 0, slots := 0, locals := 64 }
theorem hdX9_isNumber : yX9_isNumber.cls = RX9 ∧ yX9_isNumber.cls ≠ "java/lang/invoke/MethodHandle" ∧ yX9_isNumber.cls ≠ "java/lang/invoke/VarHandle" ∧ (parseMethodDescriptor yX9_isNumber.desc).map (fun d => d.parameters.length) = some 1 := by decide +kernel
set_option maxHeartbeats 4000000 in
set_option maxRecDepth 100000 in
theorem kX9_isNumber (l : Launch) (D : va_G) (cS : ClassId) (g : Nat → Nat) (cI : ClassId) (b : Nat → Nat) (M : Md) (x1 : Int32) (r : Int32) (M' : Md) (hF : fX9_isNumber M x1 = some (r, M')) : mI l yX9_isNumber vX9_isNumber rmX9_isNumber D cI cS g [.ref (b 0), .int x1] (wMd cI b M) r (wMd cI b (M')) := by
  refine st_I rfl (by decide) (Nat.le_of_ble_eq_true rfl) ?_
  intro p e s m args below meth c A ls hx hb hr hml hlocks hown hts hA hK hD0 hG hP hS hl
  have hown : s.vm.findClass RX9 = some m.cls := hown
  have hDa : ∀ M, va_D A (wMd cI b M) := fun M => hD0.adr rfl
  have htb : ∀ w ∈ BIG, w.before args s = true := fun w h => hts w (List.mem_cons_of_mem _ h)
  have hl : lv_has ls 3 [(0, .ref (b 0)), (1, .int x1)] := hl
  have l6 : ∀ (x1 : Int32) (kk : Md → Int32 → Option (Int32 × Md)) (fu : Nat) (M : Md) (x2 : Int32) (H : Heap) (locs : List Loc) (ls : Array Slot), fX9_isNumber_l6 x1 kk fu M x2 = some (r, M') → va_P D vwCl (wMd cI b M) H → va_S A s.heap H locs → lv_has ls 3 [(0, .ref (b 0)), (1, .int x1), (2, .int x2)] → (∀ (M : Md) (x2 : Int32) (H : Heap) (locs : List Loc) (ls : Array Slot), kk M x2 = some (r, M') → va_P D vwCl (wMd cI b M) H → va_S A s.heap H locs → lv_has ls 3 [(0, .ref (b 0)), (1, .int x1), (2, .int x2)] → W p l e rmX9_isNumber s m args below meth c H locs 0 0 (MQ below (qI D r (wMd cI b (M')) A) args s 0 0 A) (F0 m 65 ls [])) → W p l e rmX9_isNumber s m args below meth c H locs 0 0 (MQ below (qI D r (wMd cI b (M')) A) args s 0 0 A) (F0 m 6 ls []) := by
    intro x1 kk fu
    induction fu with
    | zero => intro M x2 H locs ls hF; exact nn_use hF
    | succ fu ihn =>
      intro M x2 H locs ls hF hP hS hl after
      rw [fX9_isNumber_l6_s] at hF
      have j51 : ∀ (M : Md) (s0 : Int32) (H : Heap) (locs : List Loc) (ls : Array Slot), fX9_isNumber_j51 x1 kk (fX9_isNumber_l6 x1 kk fu) M s0 = some (r, M') → va_P D vwCl (wMd cI b M) H → va_S A s.heap H locs → lv_has ls 3 [(0, .ref (b 0)), (1, .int x1)] → W p l e rmX9_isNumber s m args below meth c H locs 0 0 (MQ below (qI D r (wMd cI b (M')) A) args s 0 0 A) (F0 m 51 ls [.int s0]) := by
        intro M s0 H locs ls hF hP hS hl
        refine lv_istore_n (lv' := [(2, .int s0), (0, .ref (b 0)), (1, .int x1)]) hx hb dX9_isNumber_51 rfl hl (by decide) rfl (fun ls hl => ?_)
        refine lv_aload_n hx hb dX9_isNumber_52 rfl (lv_at hl 1 rfl) ?_
        refine lv_dup hx hb dX9_isNumber_53 rfl ?_
        refine va_get (ci := 9) (v := .int (M.2.2.2.2.2.2.1)) (C := RX9) (T := TX9) (N := 10) hx hb htb kin9 hown hK hP 0 (pMd_0 cI b M) rfl 6 (by decide) (htb _ bw4_31) (fun _ h9 => h9) rfl dX9_isNumber_54 ?_
        refine lv_iconst (v := 1) hx hb dX9_isNumber_57 (by decide) ?_
        refine lv_iadd hx hb dX9_isNumber_58 ?_
        refine lv_topi (fun v5 ev5 => ?_)
        have hF := nm_use hF ev5
        refine va_put (ci := 9) (v := .int v5) (ty := .int) (C := RX9) (T := TX9) (N := 10) hx hb htb kin9 tyX9 tyX9_ok nmX9 hown hK hP (hDa _) hS 0 (pMd_0 cI b M) rfl 6 (by decide) (htb _ bw4_31) (fun _ h9 => h9) rfl (by decide +kernel) rfl rfl (Nat.le_of_ble_eq_true rfl) dX9_isNumber_59 (fun H locs hP _ hS => ?_)
        obtain ⟨M6, eM6⟩ : ∃ z : Md, z = (M.1, M.2.1, M.2.2.1, M.2.2.2.1, M.2.2.2.2.1, M.2.2.2.2.2.1, v5, M.2.2.2.2.2.2.2) := ⟨_, rfl⟩
        have hF := nm_use hF eM6
        have hP : va_P D vwCl (wMd cI b M6) H := by rw [eM6]; exact hP
        refine lv_goto (tgt := 6) hx hb dX9_isNumber_62 (by decide) ?_
        exact ihn M6 s0 _ _ _ hF hP hS (lv_sub hl [1, 2, 0] rfl) after
      refine lv_aload_n hx hb dX9_isNumber_6 rfl (lv_at hl 0 rfl) ?_
      refine lv_bipush (v := 48) hx hb dX9_isNumber_7 (by decide) ?_
      refine lv_bipush (v := 57) hx hb dX9_isNumber_9 (by decide) ?_
      obtain ⟨r2, hr2, hF⟩ := bd_use hF
      refine cl_VI ⟨hx, hb, hml, hown, htb⟩ (kX9_isAt l D cS g cI b M 48 57 _ hr2) (cwV 2 htb (gX9_isAt bw4_220) rfl rfl rfl hdX9_isAt ⟨Nat.le_of_ble_eq_true rfl, Nat.le_of_ble_eq_true rfl⟩) hK (hDa _) hG hA hP hS (sr_Md_Md cI b M) hl.1 rfl 0 (pMd_0 _ _ _) rfl rfl (Nat.le_of_ble_eq_true rfl) dX9_isNumber_11 (fun H locs hP hS => ?_)
      refine lv_if_eq (tgt := 65) hx hb dX9_isNumber_14 (by decide) (fun c3 => ?_) (fun c3 => ?_)
      · have hF := it_t hF c3
        exact after M x2 _ _ _ hF hP hS (lv_sub hl [0, 1, 2] rfl)
      · have hF := it_f hF c3
        refine lv_aload_n hx hb dX9_isNumber_17 rfl (lv_at hl 0 rfl) ?_
        refine va_get (ci := 9) (v := .int (M.2.2.2.2.2.2.1)) (C := RX9) (T := TX9) (N := 10) hx hb htb kin9 hown hK hP 0 (pMd_0 cI b M) rfl 6 (by decide) (htb _ bw4_31) (fun _ h9 => h9) rfl dX9_isNumber_18 ?_
        refine lv_aload_n hx hb dX9_isNumber_21 rfl (lv_at hl 0 rfl) ?_
        refine va_get (ci := 9) (v := .int (M.2.2.2.2.2.2.2.1)) (C := RX9) (T := TX9) (N := 10) hx hb htb kin9 hown hK hP 0 (pMd_0 cI b M) rfl 7 (by decide) (htb _ bw4_32) (fun _ h9 => h9) rfl dX9_isNumber_22 ?_
        refine lv_isub hx hb dX9_isNumber_25 ?_
        refine lv_iconst (v := 4) hx hb dX9_isNumber_26 (by decide) ?_
        refine lv_icmp_ge (tgt := 50) hx hb dX9_isNumber_27 (by decide) (fun c4 => ?_) (fun c4 => ?_)
        · have hF := it_t hF c4
          refine lv_iload_n hx hb dX9_isNumber_50 rfl (lv_at hl 2 rfl) ?_
          exact j51 M x2 _ _ _ hF hP hS (lv_sub hl [0, 1] rfl)
        · have hF := it_f hF c4
          refine lv_bipush (v := 10) hx hb dX9_isNumber_30 (by decide) ?_
          refine lv_iload_n hx hb dX9_isNumber_32 rfl (lv_at hl 2 rfl) ?_
          refine lv_imul hx hb dX9_isNumber_33 ?_
          refine lv_aload_n hx hb dX9_isNumber_34 rfl (lv_at hl 0 rfl) ?_
          refine va_get (ci := 9) (v := .ref (b 4)) (C := RX9) (T := TX9) (N := 10) hx hb htb kin9 hown hK hP 0 (pMd_0 cI b M) rfl 4 (by decide) (htb _ bw4_29) (fun _ h9 => h9) rfl dX9_isNumber_35 ?_
          refine lv_aload_n hx hb dX9_isNumber_38 rfl (lv_at hl 0 rfl) ?_
          refine va_get (ci := 9) (v := .int (M.2.2.2.2.2.2.1)) (C := RX9) (T := TX9) (N := 10) hx hb htb kin9 hown hK hP 0 (pMd_0 cI b M) rfl 6 (by decide) (htb _ bw4_31) (fun _ h9 => h9) rfl dX9_isNumber_39 ?_
          obtain ⟨hi, hF⟩ := rd_use hF
          refine va_iald hx hb hK hP 4 0 (pMd_4 cI b M) rfl hi dX9_isNumber_42 ?_
          refine lv_topi (fun v7 ev7 => ?_)
          have hF := hF v7 ev7
          refine lv_iadd hx hb dX9_isNumber_43 ?_
          refine lv_bipush (v := 48) hx hb dX9_isNumber_44 (by decide) ?_
          refine lv_isub hx hb dX9_isNumber_46 ?_
          refine lv_goto (tgt := 51) hx hb dX9_isNumber_47 (by decide) ?_
          exact j51 M (((10 * x2) + v7) - 48) _ _ _ hF hP hS (lv_sub hl [0, 1] rfl)
  have j121 : ∀ (M : Md) (s0 : Int32) (H : Heap) (locs : List Loc) (ls : Array Slot), fX9_isNumber_j121 M s0 = some (r, M') → va_P D vwCl (wMd cI b M) H → va_S A s.heap H locs → lv_has ls 3 [] → W p l e rmX9_isNumber s m args below meth c H locs 0 0 (MQ below (qI D r (wMd cI b (M')) A) args s 0 0 A) (F0 m 121 ls [.int s0]) := by
    intro M s0 H locs ls hF hP hS hl
    obtain ⟨hz, hF⟩ := zb_use hF
    obtain ⟨er, eM⟩ := pr_use hF
    exact rt_Z hx hb hr hlocks hS (by rw [← eM]; exact hP) hz er dX9_isNumber_121
  have j120 : ∀ (M : Md) (H : Heap) (locs : List Loc) (ls : Array Slot), fX9_isNumber_j120 M = some (r, M') → va_P D vwCl (wMd cI b M) H → va_S A s.heap H locs → lv_has ls 3 [] → W p l e rmX9_isNumber s m args below meth c H locs 0 0 (MQ below (qI D r (wMd cI b (M')) A) args s 0 0 A) (F0 m 120 ls []) := by
    intro M H locs ls hF hP hS hl
    refine lv_iconst (v := 0) hx hb dX9_isNumber_120 (by decide) ?_
    exact j121 M 0 _ _ _ hF hP hS (lv_sub hl [] rfl)
  have j116 : ∀ (M : Md) (H : Heap) (locs : List Loc) (ls : Array Slot), fX9_isNumber_j116 M = some (r, M') → va_P D vwCl (wMd cI b M) H → va_S A s.heap H locs → lv_has ls 3 [] → W p l e rmX9_isNumber s m args below meth c H locs 0 0 (MQ below (qI D r (wMd cI b (M')) A) args s 0 0 A) (F0 m 116 ls []) := by
    intro M H locs ls hF hP hS hl
    refine lv_iconst (v := 1) hx hb dX9_isNumber_116 (by decide) ?_
    refine lv_goto (tgt := 121) hx hb dX9_isNumber_117 (by decide) ?_
    exact j121 M 1 _ _ _ hF hP hS (lv_sub hl [] rfl)
  refine lv_aload_n hx hb dX9_isNumber_0 rfl (lv_at hl 0 rfl) ?_
  obtain ⟨M1, hM1, hF⟩ := bd_use hF
  refine cl_VV ⟨hx, hb, hml, hown, htb⟩ (kX9_skips l D cS g cI b M  _ hM1) (cwV 0 htb (gX9_skips bw4_216) rfl rfl rfl hdX9_skips ⟨Nat.le_of_ble_eq_true rfl, Nat.le_of_ble_eq_true rfl⟩) hK (hDa _) hG hA hP hS (sg_Md_Md cI b M M1) hl.1 rfl 0 (pMd_0 _ _ _) rfl rfl (Nat.le_of_ble_eq_true rfl) dX9_isNumber_1 (fun H locs hP hS => ?_)
  refine lv_iconst (v := 0) hx hb dX9_isNumber_4 (by decide) ?_
  refine lv_istore_n (lv' := [(2, .int 0), (0, .ref (b 0)), (1, .int x1)]) hx hb dX9_isNumber_5 rfl hl (by decide) rfl (fun ls hl => ?_)
  refine l6 x1 _ _ M1 0 _ _ _ hF hP hS (lv_sub hl [1, 2, 0] rfl) ?_
  · intro M9 y8 H locs ls hF hP hS hl
    refine lv_aload_n hx hb dX9_isNumber_65 rfl (lv_at hl 0 rfl) ?_
    refine va_get (ci := 9) (v := .ref (b 5)) (C := RX9) (T := TX9) (N := 10) hx hb htb kin9 hown hK hP 0 (pMd_0 cI b M9) rfl 9 (by decide) (htb _ bw4_34) (fun _ h9 => h9) rfl dX9_isNumber_66 ?_
    refine lv_iload_n hx hb dX9_isNumber_69 rfl (lv_at hl 1 rfl) ?_
    refine lv_iload_n hx hb dX9_isNumber_70 rfl (lv_at hl 2 rfl) ?_
    obtain ⟨hi, hF⟩ := wr_use hF
    refine va_iast hx hb hK hP (hDa _) hS 5 0 (pMd_5 cI b M9) rfl hi dX9_isNumber_71 (fun H locs hP _ hS => ?_)
    obtain ⟨M11, eM11⟩ : ∃ z : Md, z = (M9.1, M9.2.1, M9.2.2.1, M9.2.2.2.1, M9.2.2.2.2.1, M9.2.2.2.2.2.1, M9.2.2.2.2.2.2.1, M9.2.2.2.2.2.2.2.1, M9.2.2.2.2.2.2.2.2.1, (upd (M9.2.2.2.2.2.2.2.2.2) (x1 : Int32).toNatClampNeg y8)) := ⟨_, rfl⟩
    have hF := nm_use hF eM11
    have hP : va_P D vwCl (wMd cI b M11) H := by rw [eM11]; exact hP
    refine lv_aload_n hx hb dX9_isNumber_72 rfl (lv_at hl 0 rfl) ?_
    refine va_get (ci := 9) (v := .int (M11.2.2.2.2.2.2.1)) (C := RX9) (T := TX9) (N := 10) hx hb htb kin9 hown hK hP 0 (pMd_0 cI b M11) rfl 6 (by decide) (htb _ bw4_31) (fun _ h9 => h9) rfl dX9_isNumber_73 ?_
    refine lv_aload_n hx hb dX9_isNumber_76 rfl (lv_at hl 0 rfl) ?_
    refine va_get (ci := 9) (v := .int (M11.2.2.2.2.2.2.2.1)) (C := RX9) (T := TX9) (N := 10) hx hb htb kin9 hown hK hP 0 (pMd_0 cI b M11) rfl 7 (by decide) (htb _ bw4_32) (fun _ h9 => h9) rfl dX9_isNumber_77 ?_
    refine lv_isub hx hb dX9_isNumber_80 ?_
    refine lv_iconst (v := 1) hx hb dX9_isNumber_81 (by decide) ?_
    refine lv_iconst (v := 4) hx hb dX9_isNumber_82 (by decide) ?_
    obtain ⟨r12, hr12, hF⟩ := bd_use hF
    refine cl_SI ⟨hx, hb, hml, hown, htb⟩ (kX9_in l D cS g cI ((M11.2.2.2.2.2.2.1) - (M11.2.2.2.2.2.2.2.1)) 1 4 _ hr12) (va_cwS 3 htb (gX9_in bw4_68) rfl rfl rfl hdX9_in ⟨Nat.le_of_ble_eq_true rfl, Nat.le_of_ble_eq_true rfl⟩) hK (hDa _) hG hA hP hS sg_nil hl.1 rfl rfl (Nat.le_of_ble_eq_true rfl) dX9_isNumber_83 (fun H locs hP hS => ?_)
    refine lv_if_eq (tgt := 120) hx hb dX9_isNumber_86 (by decide) (fun c13 => ?_) (fun c13 => ?_)
    · have hF := it_t hF c13
      exact j120 M11 _ _ _ hF hP hS (lv_sub hl [] rfl)
    · have hF := it_f hF c13
      refine lv_aload_n hx hb dX9_isNumber_89 rfl (lv_at hl 0 rfl) ?_
      refine va_get (ci := 9) (v := .int (M11.2.2.2.2.2.2.1)) (C := RX9) (T := TX9) (N := 10) hx hb htb kin9 hown hK hP 0 (pMd_0 cI b M11) rfl 6 (by decide) (htb _ bw4_31) (fun _ h9 => h9) rfl dX9_isNumber_90 ?_
      refine lv_aload_n hx hb dX9_isNumber_93 rfl (lv_at hl 0 rfl) ?_
      refine va_get (ci := 9) (v := .int (M11.2.2.2.2.2.2.2.1)) (C := RX9) (T := TX9) (N := 10) hx hb htb kin9 hown hK hP 0 (pMd_0 cI b M11) rfl 7 (by decide) (htb _ bw4_32) (fun _ h9 => h9) rfl dX9_isNumber_94 ?_
      refine lv_isub hx hb dX9_isNumber_97 ?_
      refine lv_iconst (v := 1) hx hb dX9_isNumber_98 (by decide) ?_
      refine lv_icmp_eq (tgt := 116) hx hb dX9_isNumber_99 (by decide) (fun c14 => ?_) (fun c14 => ?_)
      · have hF := it_t hF c14
        exact j116 M11 _ _ _ hF hP hS (lv_sub hl [] rfl)
      · have hF := it_f hF c14
        refine lv_aload_n hx hb dX9_isNumber_102 rfl (lv_at hl 0 rfl) ?_
        refine va_get (ci := 9) (v := .ref (b 4)) (C := RX9) (T := TX9) (N := 10) hx hb htb kin9 hown hK hP 0 (pMd_0 cI b M11) rfl 4 (by decide) (htb _ bw4_29) (fun _ h9 => h9) rfl dX9_isNumber_103 ?_
        refine lv_aload_n hx hb dX9_isNumber_106 rfl (lv_at hl 0 rfl) ?_
        refine va_get (ci := 9) (v := .int (M11.2.2.2.2.2.2.2.1)) (C := RX9) (T := TX9) (N := 10) hx hb htb kin9 hown hK hP 0 (pMd_0 cI b M11) rfl 7 (by decide) (htb _ bw4_32) (fun _ h9 => h9) rfl dX9_isNumber_107 ?_
        obtain ⟨hi, hF⟩ := rd_use hF
        refine va_iald hx hb hK hP 4 0 (pMd_4 cI b M11) rfl hi dX9_isNumber_110 ?_
        refine lv_topi (fun v15 ev15 => ?_)
        have hF := hF v15 ev15
        refine lv_bipush (v := 48) hx hb dX9_isNumber_111 (by decide) ?_
        refine lv_icmp_eq (tgt := 120) hx hb dX9_isNumber_113 (by decide) (fun c16 => ?_) (fun c16 => ?_)
        · have hF := it_t hF c16
          exact j120 M11 _ _ _ hF hP hS (lv_sub hl [] rfl)
        · have hF := it_f hF c16
          exact j116 M11 _ _ _ hF hP hS (lv_sub hl [] rfl)
noncomputable def fX9_isStop_j27  (M : Md) (x1 : Int32) (s1 : Int32) (s2 : Int32) : Option (Int32 × Md) := nm (s1 + s2) fun v4 => nm ((M.1, M.2.1, M.2.2.1, M.2.2.2.1, M.2.2.2.2.1, M.2.2.2.2.2.1, v4, M.2.2.2.2.2.2.2)) fun M5 => Zb x1 (some (x1, M5))
noncomputable def fX9_isStop  (M : Md) : Option (Int32 × Md) := (fX9_skips M).bind fun M1 => (fX9_isAt M1 59 59).bind fun r2 => if r2 = 0 then (fX9_isStop_j27 M1 r2 (M1.2.2.2.2.2.2.1) 0) else (fX9_isStop_j27 M1 r2 (M1.2.2.2.2.2.2.1) 1)
abbrev vX9_isStop : List Cond := Cond.code yX9_isStop cX9_isStop 2 (some .boolean) :: BIG
theorem gX9_isStop {own : String} {idx : Nat} (h : (Cond.methodLink own idx yX9_isStop) ∈ BIG) : GoodIn BIG (wsV own idx RX9 yX9_isStop vX9_isStop) := gdV h bw5_8 bs48 bw1_11 bw5_9
def rmX9_isStop : Room := { frames := 3, cells := 0, slots := 0, locals := 64 }
theorem hdX9_isStop : yX9_isStop.cls = RX9 ∧ yX9_isStop.cls ≠ "java/lang/invoke/MethodHandle" ∧ yX9_isStop.cls ≠ "java/lang/invoke/VarHandle" ∧ (parseMethodDescriptor yX9_isStop.desc).map (fun d => d.parameters.length) = some 0 := by decide +kernel
set_option maxHeartbeats 4000000 in
set_option maxRecDepth 100000 in
theorem kX9_isStop (l : Launch) (D : va_G) (cS : ClassId) (g : Nat → Nat) (cI : ClassId) (b : Nat → Nat) (M : Md) (r : Int32) (M' : Md) (hF : fX9_isStop M = some (r, M')) : mI l yX9_isStop vX9_isStop rmX9_isStop D cI cS g [.ref (b 0)] (wMd cI b M) r (wMd cI b (M')) := by
  refine st_I rfl (by decide) (Nat.le_of_ble_eq_true rfl) ?_
  intro p e s m args below meth c A ls hx hb hr hml hlocks hown hts hA hK hD0 hG hP hS hl
  have hown : s.vm.findClass RX9 = some m.cls := hown
  have hDa : ∀ M, va_D A (wMd cI b M) := fun M => hD0.adr rfl
  have htb : ∀ w ∈ BIG, w.before args s = true := fun w h => hts w (List.mem_cons_of_mem _ h)
  have hl : lv_has ls 2 [(0, .ref (b 0))] := hl
  have j27 : ∀ (M : Md) (x1 : Int32) (s1 : Int32) (s2 : Int32) (H : Heap) (locs : List Loc) (ls : Array Slot), fX9_isStop_j27 M x1 s1 s2 = some (r, M') → va_P D vwCl (wMd cI b M) H → va_S A s.heap H locs → lv_has ls 2 [(1, .int x1)] → W p l e rmX9_isStop s m args below meth c H locs 0 0 (MQ below (qI D r (wMd cI b (M')) A) args s 0 0 A) (F0 m 27 ls [.int s2, .int s1, .ref (b 0)]) := by
    intro M x1 s1 s2 H locs ls hF hP hS hl
    refine lv_iadd hx hb dX9_isStop_27 ?_
    refine lv_topi (fun v4 ev4 => ?_)
    have hF := nm_use hF ev4
    refine va_put (ci := 9) (v := .int v4) (ty := .int) (C := RX9) (T := TX9) (N := 10) hx hb htb kin9 tyX9 tyX9_ok nmX9 hown hK hP (hDa _) hS 0 (pMd_0 cI b M) rfl 6 (by decide) (htb _ bw4_31) (fun _ h9 => h9) rfl (by decide +kernel) rfl rfl (Nat.le_of_ble_eq_true rfl) dX9_isStop_28 (fun H locs hP _ hS => ?_)
    obtain ⟨M5, eM5⟩ : ∃ z : Md, z = (M.1, M.2.1, M.2.2.1, M.2.2.2.1, M.2.2.2.2.1, M.2.2.2.2.2.1, v4, M.2.2.2.2.2.2.2) := ⟨_, rfl⟩
    have hF := nm_use hF eM5
    have hP : va_P D vwCl (wMd cI b M5) H := by rw [eM5]; exact hP
    refine lv_iload_n hx hb dX9_isStop_31 rfl (lv_at hl 0 rfl) ?_
    obtain ⟨hz, hF⟩ := zb_use hF
    obtain ⟨er, eM⟩ := pr_use hF
    exact rt_Z hx hb hr hlocks hS (by rw [← eM]; exact hP) hz er dX9_isStop_32
  refine lv_aload_n hx hb dX9_isStop_0 rfl (lv_at hl 0 rfl) ?_
  obtain ⟨M1, hM1, hF⟩ := bd_use hF
  refine cl_VV ⟨hx, hb, hml, hown, htb⟩ (kX9_skips l D cS g cI b M  _ hM1) (cwV 0 htb (gX9_skips bw4_216) rfl rfl rfl hdX9_skips ⟨Nat.le_of_ble_eq_true rfl, Nat.le_of_ble_eq_true rfl⟩) hK (hDa _) hG hA hP hS (sg_Md_Md cI b M M1) hl.1 rfl 0 (pMd_0 _ _ _) rfl rfl (Nat.le_of_ble_eq_true rfl) dX9_isStop_1 (fun H locs hP hS => ?_)
  refine lv_aload_n hx hb dX9_isStop_4 rfl (lv_at hl 0 rfl) ?_
  refine lv_bipush (v := 59) hx hb dX9_isStop_5 (by decide) ?_
  refine lv_bipush (v := 59) hx hb dX9_isStop_7 (by decide) ?_
  obtain ⟨r2, hr2, hF⟩ := bd_use hF
  refine cl_VI ⟨hx, hb, hml, hown, htb⟩ (kX9_isAt l D cS g cI b M1 59 59 _ hr2) (cwV 2 htb (gX9_isAt bw4_220) rfl rfl rfl hdX9_isAt ⟨Nat.le_of_ble_eq_true rfl, Nat.le_of_ble_eq_true rfl⟩) hK (hDa _) hG hA hP hS (sr_Md_Md cI b M1) hl.1 rfl 0 (pMd_0 _ _ _) rfl rfl (Nat.le_of_ble_eq_true rfl) dX9_isStop_9 (fun H locs hP hS => ?_)
  refine lv_istore_n (lv' := [(1, .int r2), (0, .ref (b 0))]) hx hb dX9_isStop_12 rfl hl (by decide) rfl (fun ls hl => ?_)
  refine lv_aload_n hx hb dX9_isStop_13 rfl (lv_at hl 1 rfl) ?_
  refine lv_dup hx hb dX9_isStop_14 rfl ?_
  refine va_get (ci := 9) (v := .int (M1.2.2.2.2.2.2.1)) (C := RX9) (T := TX9) (N := 10) hx hb htb kin9 hown hK hP 0 (pMd_0 cI b M1) rfl 6 (by decide) (htb _ bw4_31) (fun _ h9 => h9) rfl dX9_isStop_15 ?_
  refine lv_iload_n hx hb dX9_isStop_18 rfl (lv_at hl 0 rfl) ?_
  refine lv_if_eq (tgt := 26) hx hb dX9_isStop_19 (by decide) (fun c3 => ?_) (fun c3 => ?_)
  · have hF := it_t hF c3
    refine lv_iconst (v := 0) hx hb dX9_isStop_26 (by decide) ?_
    exact j27 M1 r2 (M1.2.2.2.2.2.2.1) 0 _ _ _ hF hP hS (lv_sub hl [0] rfl)
  · have hF := it_f hF c3
    refine lv_iconst (v := 1) hx hb dX9_isStop_22 (by decide) ?_
    refine lv_goto (tgt := 27) hx hb dX9_isStop_23 (by decide) ?_
    exact j27 M1 r2 (M1.2.2.2.2.2.2.1) 1 _ _ _ hF hP hS (lv_sub hl [0] rfl)

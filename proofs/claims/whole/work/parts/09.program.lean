noncomputable def fX3_size  (P : Pg) : Option (Int32) := some (P.2.2.1)
abbrev vX3_size : List Cond := Cond.code yX3_size cX3_size 1 (some .int) :: BIG
theorem gX3_size {own : String} {idx : Nat} (h : (Cond.methodLink own idx yX3_size) ∈ BIG) : GoodIn BIG (wsV own idx RX3 yX3_size vX3_size) := gdV h bw3_153 bw3_154 bw1_10 bw3_155
def rmX3_size : Room := { frames := 0, cells := 0, slots := 0, locals := 0 }
theorem hdX3_size : yX3_size.cls = RX3 ∧ yX3_size.cls ≠ "java/lang/invoke/MethodHandle" ∧ yX3_size.cls ≠ "java/lang/invoke/VarHandle" ∧ (parseMethodDescriptor yX3_size.desc).map (fun d => d.parameters.length) = some 0 := by decide +kernel
set_option maxHeartbeats 4000000 in
set_option maxRecDepth 100000 in
theorem kX3_size (l : Launch) (D : va_G) (cS : ClassId) (g : Nat → Nat) (cI : ClassId) (q : Nat → Nat) (P : Pg) (r : Int32) (hF : fX3_size P = some r) : mI l yX3_size vX3_size rmX3_size D cI cS g [.ref (q 0)] (wPg cI q P) r (wPg cI q P) := by
  refine st_I rfl (by decide) (Nat.le_of_ble_eq_true rfl) ?_
  intro p e s m args below meth c A ls hx hb hr hml hlocks hown hts hA hK hD0 hG hP hS hl
  have hown : s.vm.findClass RX3 = some m.cls := hown
  have hDa : ∀ P, va_D A (wPg cI q P) := fun P => hD0.adr rfl
  have htb : ∀ w ∈ BIG, w.before args s = true := fun w h => hts w (List.mem_cons_of_mem _ h)
  have hl : lv_has ls 1 [(0, .ref (q 0))] := hl
  refine lv_aload_n hx hb dX3_size_0 rfl (lv_at hl 0 rfl) ?_
  refine va_get (ci := 3) (v := .int (P.2.2.1)) (C := RX3) (T := TX3) (N := 6) hx hb htb kin3 hown hK hP 0 (pPg_0 cI q P) rfl 2 (by decide) (htb _ bw1_198) (fun _ h9 => h9) rfl dX3_size_1 ?_
  exact rt_I hx hb hr hlocks hS hP (so_use hF) dX3_size_4
noncomputable def fX3_add  (P : Pg) (x1 : Int32) : Option (Int32 × Pg) := (fX8_inRange x1 1 255).bind fun r1 => if r1 = 0 then (some ((-1), P)) else (if (P.2.2.1) < 0 then (some ((-3), P)) else (if (P.2.2.1) < 140 then (Wr (P.1) 140 (P.2.2.1) x1 fun f5 => nm ((f5, P.2)) fun M6 => nm ((M6.2.2.1) + 1) fun v7 => nm ((M6.1, M6.2.1, v7, M6.2.2.2)) fun M8 => some (M8.2.2.1, M8)) else (some ((-3), P))))
abbrev vX3_add : List Cond := Cond.code yX3_add cX3_add 2 (some .int) :: BIG
theorem gX3_add {own : String} {idx : Nat} (h : (Cond.methodLink own idx yX3_add) ∈ BIG) : GoodIn BIG (wsV own idx RX3 yX3_add vX3_add) := gdV h bw3_9 bw3_10 bw1_10 bw3_11
def rmX3_add : Room := { frames := 1, cells := 0, slots := 0, locals := 22 }
theorem hdX3_add : yX3_add.cls = RX3 ∧ yX3_add.cls ≠ "java/lang/invoke/MethodHandle" ∧ yX3_add.cls ≠ "java/lang/invoke/VarHandle" ∧ (parseMethodDescriptor yX3_add.desc).map (fun d => d.parameters.length) = some 1 := by decide +kernel
set_option maxHeartbeats 4000000 in
set_option maxRecDepth 100000 in
theorem kX3_add (l : Launch) (D : va_G) (cS : ClassId) (g : Nat → Nat) (cI : ClassId) (q : Nat → Nat) (P : Pg) (x1 : Int32) (r : Int32) (M' : Pg) (hF : fX3_add P x1 = some (r, M')) : mI l yX3_add vX3_add rmX3_add D cI cS g [.ref (q 0), .int x1] (wPg cI q P) r (wPg cI q (M')) := by
  refine st_I rfl (by decide) (Nat.le_of_ble_eq_true rfl) ?_
  intro p e s m args below meth c A ls hx hb hr hml hlocks hown hts hA hK hD0 hG hP hS hl
  have hown : s.vm.findClass RX3 = some m.cls := hown
  have hDa : ∀ P, va_D A (wPg cI q P) := fun P => hD0.adr rfl
  have htb : ∀ w ∈ BIG, w.before args s = true := fun w h => hts w (List.mem_cons_of_mem _ h)
  have hl : lv_has ls 2 [(0, .ref (q 0)), (1, .int x1)] := hl
  refine lv_iload_n hx hb dX3_add_0 rfl (lv_at hl 1 rfl) ?_
  refine lv_iconst (v := 1) hx hb dX3_add_1 (by decide) ?_
  refine lv_sipush (v := 255) hx hb dX3_add_2 (by decide) ?_
  obtain ⟨r1, hr1, hF⟩ := bd_use hF
  refine cl_SNI ⟨hx, hb, hml, hown, htb⟩ (kX8_inRange l D cS g cI x1 1 255 _ hr1) ⟨va_cnB 3 htb gX8_inRange_n rfl rfl rfl hG.2.2.2.2.2.2.1.2.2 (htb _ bw1_1) hdX8_inRange ⟨Nat.le_of_ble_eq_true rfl, Nat.le_of_ble_eq_true rfl⟩, (htb _ bw2_34), trivial⟩ hK (hDa _) hG hA hP hS sg_nil hl.1 rfl rfl (Nat.le_of_ble_eq_true rfl) dX3_add_5 (fun H locs hP hS => ?_)
  refine lv_if_ne (tgt := 13) hx hb dX3_add_8 (by decide) (fun c2 => ?_) (fun c2 => ?_)
  · have hF := it_f hF c2
    refine lv_aload_n hx hb dX3_add_13 rfl (lv_at hl 0 rfl) ?_
    refine va_get (ci := 3) (v := .int (P.2.2.1)) (C := RX3) (T := TX3) (N := 6) hx hb htb kin3 hown hK hP 0 (pPg_0 cI q P) rfl 2 (by decide) (htb _ bw1_198) (fun _ h9 => h9) rfl dX3_add_14 ?_
    refine lv_if_lt (tgt := 32) hx hb dX3_add_17 (by decide) (fun c3 => ?_) (fun c3 => ?_)
    · have hF := it_t hF c3
      refine lv_bipush (v := (-3)) hx hb dX3_add_32 (by decide) ?_
      obtain ⟨er, eM⟩ := pr_use hF
      exact rt_I hx hb hr hlocks hS (by rw [← eM]; exact hP) er dX3_add_34
    · have hF := it_f hF c3
      refine lv_aload_n hx hb dX3_add_20 rfl (lv_at hl 0 rfl) ?_
      refine va_get (ci := 3) (v := .int (P.2.2.1)) (C := RX3) (T := TX3) (N := 6) hx hb htb kin3 hown hK hP 0 (pPg_0 cI q P) rfl 2 (by decide) (htb _ bw1_198) (fun _ h9 => h9) rfl dX3_add_21 ?_
      refine lv_aload_n hx hb dX3_add_24 rfl (lv_at hl 0 rfl) ?_
      refine va_get (ci := 3) (v := .ref (q 1)) (C := RX3) (T := TX3) (N := 6) hx hb htb kin3 hown hK hP 0 (pPg_0 cI q P) rfl 0 (by decide) (htb _ bw1_196) (fun _ h9 => h9) rfl dX3_add_25 ?_
      refine va_alen (v := 140) hx hb hK hP 1 0 (pPg_1 cI q P) rfl rfl dX3_add_28 ?_
      refine lv_icmp_lt (tgt := 35) hx hb dX3_add_29 (by decide) (fun c4 => ?_) (fun c4 => ?_)
      · have hF := it_t hF c4
        refine lv_aload_n hx hb dX3_add_35 rfl (lv_at hl 0 rfl) ?_
        refine va_get (ci := 3) (v := .ref (q 1)) (C := RX3) (T := TX3) (N := 6) hx hb htb kin3 hown hK hP 0 (pPg_0 cI q P) rfl 0 (by decide) (htb _ bw1_196) (fun _ h9 => h9) rfl dX3_add_36 ?_
        refine lv_aload_n hx hb dX3_add_39 rfl (lv_at hl 0 rfl) ?_
        refine va_get (ci := 3) (v := .int (P.2.2.1)) (C := RX3) (T := TX3) (N := 6) hx hb htb kin3 hown hK hP 0 (pPg_0 cI q P) rfl 2 (by decide) (htb _ bw1_198) (fun _ h9 => h9) rfl dX3_add_40 ?_
        refine lv_iload_n hx hb dX3_add_43 rfl (lv_at hl 1 rfl) ?_
        obtain ⟨hi, hF⟩ := wr_use hF
        refine va_iast hx hb hK hP (hDa _) hS 1 0 (pPg_1 cI q P) rfl hi dX3_add_44 (fun H locs hP _ hS => ?_)
        obtain ⟨M6, eM6⟩ : ∃ z : Pg, z = ((upd (P.1) (P.2.2.1 : Int32).toNatClampNeg x1), P.2) := ⟨_, rfl⟩
        have hF := nm_use hF eM6
        have hP : va_P D vwCl (wPg cI q M6) H := by rw [eM6]; exact hP
        refine lv_aload_n hx hb dX3_add_45 rfl (lv_at hl 0 rfl) ?_
        refine lv_dup hx hb dX3_add_46 rfl ?_
        refine va_get (ci := 3) (v := .int (M6.2.2.1)) (C := RX3) (T := TX3) (N := 6) hx hb htb kin3 hown hK hP 0 (pPg_0 cI q M6) rfl 2 (by decide) (htb _ bw1_198) (fun _ h9 => h9) rfl dX3_add_47 ?_
        refine lv_iconst (v := 1) hx hb dX3_add_50 (by decide) ?_
        refine lv_iadd hx hb dX3_add_51 ?_
        refine lv_topi (fun v7 ev7 => ?_)
        have hF := nm_use hF ev7
        refine va_put (ci := 3) (v := .int v7) (ty := .int) (C := RX3) (T := TX3) (N := 6) hx hb htb kin3 tyX3 tyX3_ok nmX3 hown hK hP (hDa _) hS 0 (pPg_0 cI q M6) rfl 2 (by decide) (htb _ bw1_198) (fun _ h9 => h9) rfl (by decide +kernel) rfl rfl (Nat.le_of_ble_eq_true rfl) dX3_add_52 (fun H locs hP _ hS => ?_)
        obtain ⟨M8, eM8⟩ : ∃ z : Pg, z = (M6.1, M6.2.1, v7, M6.2.2.2) := ⟨_, rfl⟩
        have hF := nm_use hF eM8
        have hP : va_P D vwCl (wPg cI q M8) H := by rw [eM8]; exact hP
        refine lv_aload_n hx hb dX3_add_55 rfl (lv_at hl 0 rfl) ?_
        refine va_get (ci := 3) (v := .int (M8.2.2.1)) (C := RX3) (T := TX3) (N := 6) hx hb htb kin3 hown hK hP 0 (pPg_0 cI q M8) rfl 2 (by decide) (htb _ bw1_198) (fun _ h9 => h9) rfl dX3_add_56 ?_
        obtain ⟨er, eM⟩ := pr_use hF
        exact rt_I hx hb hr hlocks hS (by rw [← eM]; exact hP) er dX3_add_59
      · have hF := it_f hF c4
        refine lv_bipush (v := (-3)) hx hb dX3_add_32 (by decide) ?_
        obtain ⟨er, eM⟩ := pr_use hF
        exact rt_I hx hb hr hlocks hS (by rw [← eM]; exact hP) er dX3_add_34
  · have hF := it_t hF c2
    refine lv_iconst (v := (-1)) hx hb dX3_add_11 (by decide) ?_
    obtain ⟨er, eM⟩ := pr_use hF
    exact rt_I hx hb hr hlocks hS (by rw [← eM]; exact hP) er dX3_add_12
noncomputable def fX3_empty  (P : Pg) : Option (Int32 × Pg) := nm (P.2.2.1) fun v1 => nm ((P.1, P.2.1, 0, P.2.2.2)) fun M2 => some (v1, M2)
abbrev vX3_empty : List Cond := Cond.code yX3_empty cX3_empty 2 (some .int) :: BIG
theorem gX3_empty {own : String} {idx : Nat} (h : (Cond.methodLink own idx yX3_empty) ∈ BIG) : GoodIn BIG (wsV own idx RX3 yX3_empty vX3_empty) := gdV h bw3_18 bw3_19 bw1_10 bw3_20
def rmX3_empty : Room := { frames := 0, cells := 0, slots := 0, locals := 0 }
theorem hdX3_empty : yX3_empty.cls = RX3 ∧ yX3_empty.cls ≠ "java/lang/invoke/MethodHandle" ∧ yX3_empty.cls ≠ "java/lang/invoke/VarHandle" ∧ (parseMethodDescriptor yX3_empty.desc).map (fun d => d.parameters.length) = some 0 := by decide +kernel
set_option maxHeartbeats 4000000 in
set_option maxRecDepth 100000 in
theorem kX3_empty (l : Launch) (D : va_G) (cS : ClassId) (g : Nat → Nat) (cI : ClassId) (q : Nat → Nat) (P : Pg) (r : Int32) (M' : Pg) (hF : fX3_empty P = some (r, M')) : mI l yX3_empty vX3_empty rmX3_empty D cI cS g [.ref (q 0)] (wPg cI q P) r (wPg cI q (M')) := by
  refine st_I rfl (by decide) (Nat.le_of_ble_eq_true rfl) ?_
  intro p e s m args below meth c A ls hx hb hr hml hlocks hown hts hA hK hD0 hG hP hS hl
  have hown : s.vm.findClass RX3 = some m.cls := hown
  have hDa : ∀ P, va_D A (wPg cI q P) := fun P => hD0.adr rfl
  have htb : ∀ w ∈ BIG, w.before args s = true := fun w h => hts w (List.mem_cons_of_mem _ h)
  have hl : lv_has ls 2 [(0, .ref (q 0))] := hl
  refine lv_aload_n hx hb dX3_empty_0 rfl (lv_at hl 0 rfl) ?_
  refine va_get (ci := 3) (v := .int (P.2.2.1)) (C := RX3) (T := TX3) (N := 6) hx hb htb kin3 hown hK hP 0 (pPg_0 cI q P) rfl 2 (by decide) (htb _ bw1_198) (fun _ h9 => h9) rfl dX3_empty_1 ?_
  refine lv_topi (fun v1 ev1 => ?_)
  have hF := nm_use hF ev1
  refine lv_istore_n (lv' := [(1, .int v1), (0, .ref (q 0))]) hx hb dX3_empty_4 rfl hl (by decide) rfl (fun ls hl => ?_)
  refine lv_aload_n hx hb dX3_empty_5 rfl (lv_at hl 1 rfl) ?_
  refine lv_iconst (v := 0) hx hb dX3_empty_6 (by decide) ?_
  refine va_put (ci := 3) (v := .int 0) (ty := .int) (C := RX3) (T := TX3) (N := 6) hx hb htb kin3 tyX3 tyX3_ok nmX3 hown hK hP (hDa _) hS 0 (pPg_0 cI q P) rfl 2 (by decide) (htb _ bw1_198) (fun _ h9 => h9) rfl (by decide +kernel) rfl rfl (Nat.le_of_ble_eq_true rfl) dX3_empty_7 (fun H locs hP _ hS => ?_)
  obtain ⟨M2, eM2⟩ : ∃ z : Pg, z = (P.1, P.2.1, 0, P.2.2.2) := ⟨_, rfl⟩
  have hF := nm_use hF eM2
  have hP : va_P D vwCl (wPg cI q M2) H := by rw [eM2]; exact hP
  refine lv_iload_n hx hb dX3_empty_10 rfl (lv_at hl 0 rfl) ?_
  obtain ⟨er, eM⟩ := pr_use hF
  exact rt_I hx hb hr hlocks hS (by rw [← eM]; exact hP) er dX3_empty_11
noncomputable def fX3_signAt_j23  (P : Pg) (s0 : Int32) : Option (Int32) := some s0
noncomputable def fX3_signAt_j22  (P : Pg) : Option (Int32) := fX3_signAt_j23 P 0
noncomputable def fX3_signAt  (P : Pg) (x1 : Int32) : Option (Int32) := if x1 < 0 then (fX3_signAt_j22 P) else (if 140 ≤ x1 then (fX3_signAt_j22 P) else (Rd (P.1) 140 x1 fun v3 => fX3_signAt_j23 P v3))
abbrev vX3_signAt : List Cond := Cond.code yX3_signAt cX3_signAt 2 (some .int) :: BIG
theorem gX3_signAt {own : String} {idx : Nat} (h : (Cond.methodLink own idx yX3_signAt) ∈ BIG) : GoodIn BIG (wsV own idx RX3 yX3_signAt vX3_signAt) := gdV h bw3_35 bs9 bw1_10 bw3_36
def rmX3_signAt : Room := { frames := 0, cells := 0, slots := 0, locals := 0 }
theorem hdX3_signAt : yX3_signAt.cls = RX3 ∧ yX3_signAt.cls ≠ "java/lang/invoke/MethodHandle" ∧ yX3_signAt.cls ≠ "java/lang/invoke/VarHandle" ∧ (parseMethodDescriptor yX3_signAt.desc).map (fun d => d.parameters.length) = some 1 := by decide +kernel
set_option maxHeartbeats 4000000 in
set_option maxRecDepth 100000 in
theorem kX3_signAt (l : Launch) (D : va_G) (cS : ClassId) (g : Nat → Nat) (cI : ClassId) (q : Nat → Nat) (P : Pg) (x1 : Int32) (r : Int32) (hF : fX3_signAt P x1 = some r) : mI l yX3_signAt vX3_signAt rmX3_signAt D cI cS g [.ref (q 0), .int x1] (wPg cI q P) r (wPg cI q P) := by
  refine st_I rfl (by decide) (Nat.le_of_ble_eq_true rfl) ?_
  intro p e s m args below meth c A ls hx hb hr hml hlocks hown hts hA hK hD0 hG hP hS hl
  have hown : s.vm.findClass RX3 = some m.cls := hown
  have hDa : ∀ P, va_D A (wPg cI q P) := fun P => hD0.adr rfl
  have htb : ∀ w ∈ BIG, w.before args s = true := fun w h => hts w (List.mem_cons_of_mem _ h)
  have hl : lv_has ls 2 [(0, .ref (q 0)), (1, .int x1)] := hl
  have j23 : ∀ (s0 : Int32) (H : Heap) (locs : List Loc) (ls : Array Slot), fX3_signAt_j23 P s0 = some r → va_P D vwCl (wPg cI q P) H → va_S A s.heap H locs → lv_has ls 2 [] → W p l e rmX3_signAt s m args below meth c H locs 0 0 (MQ below (qI D r (wPg cI q P) A) args s 0 0 A) (F0 m 23 ls [.int s0]) := by
    intro s0 H locs ls hF hP hS hl
    exact rt_I hx hb hr hlocks hS hP (so_use hF) dX3_signAt_23
  have j22 : ∀ (H : Heap) (locs : List Loc) (ls : Array Slot), fX3_signAt_j22 P = some r → va_P D vwCl (wPg cI q P) H → va_S A s.heap H locs → lv_has ls 2 [] → W p l e rmX3_signAt s m args below meth c H locs 0 0 (MQ below (qI D r (wPg cI q P) A) args s 0 0 A) (F0 m 22 ls []) := by
    intro H locs ls hF hP hS hl
    refine lv_iconst (v := 0) hx hb dX3_signAt_22 (by decide) ?_
    exact j23 0 _ _ _ hF hP hS (lv_sub hl [] rfl)
  refine lv_iload_n hx hb dX3_signAt_0 rfl (lv_at hl 1 rfl) ?_
  refine lv_if_lt (tgt := 22) hx hb dX3_signAt_1 (by decide) (fun c1 => ?_) (fun c1 => ?_)
  · have hF := it_t hF c1
    exact j22  _ _ _ hF hP hS (lv_sub hl [] rfl)
  · have hF := it_f hF c1
    refine lv_iload_n hx hb dX3_signAt_4 rfl (lv_at hl 1 rfl) ?_
    refine lv_aload_n hx hb dX3_signAt_5 rfl (lv_at hl 0 rfl) ?_
    refine va_get (ci := 3) (v := .ref (q 1)) (C := RX3) (T := TX3) (N := 6) hx hb htb kin3 hown hK hP 0 (pPg_0 cI q P) rfl 0 (by decide) (htb _ bw1_196) (fun _ h9 => h9) rfl dX3_signAt_6 ?_
    refine va_alen (v := 140) hx hb hK hP 1 0 (pPg_1 cI q P) rfl rfl dX3_signAt_9 ?_
    refine lv_icmp_ge (tgt := 22) hx hb dX3_signAt_10 (by decide) (fun c2 => ?_) (fun c2 => ?_)
    · have hF := it_t hF c2
      exact j22  _ _ _ hF hP hS (lv_sub hl [] rfl)
    · have hF := it_f hF c2
      refine lv_aload_n hx hb dX3_signAt_13 rfl (lv_at hl 0 rfl) ?_
      refine va_get (ci := 3) (v := .ref (q 1)) (C := RX3) (T := TX3) (N := 6) hx hb htb kin3 hown hK hP 0 (pPg_0 cI q P) rfl 0 (by decide) (htb _ bw1_196) (fun _ h9 => h9) rfl dX3_signAt_14 ?_
      refine lv_iload_n hx hb dX3_signAt_17 rfl (lv_at hl 1 rfl) ?_
      obtain ⟨hi, hF⟩ := rd_use hF
      refine va_iald hx hb hK hP 1 0 (pPg_1 cI q P) rfl hi dX3_signAt_18 ?_
      refine lv_topi (fun v3 ev3 => ?_)
      have hF := hF v3 ev3
      refine lv_goto (tgt := 23) hx hb dX3_signAt_19 (by decide) ?_
      exact j23 v3 _ _ _ hF hP hS (lv_sub hl [] rfl)
noncomputable def fX3_kindOf_j29  (P : Pg) (s0 : Int32) : Option (Int32) := some s0
noncomputable def fX3_kindOf  (P : Pg) (x1 : Int32) : Option (Int32) := (fX8_inRange x1 97 122).bind fun r1 => if r1 = 0 then ((fX8_inRange x1 48 57).bind fun r3 => if r3 = 0 then (fX3_kindOf_j29 P 3) else (fX3_kindOf_j29 P 2)) else (some 1)
abbrev vX3_kindOf : List Cond := Cond.code yX3_kindOf cX3_kindOf 2 (some .int) :: BIG
theorem gX3_kindOf {own : String} {idx : Nat} (h : (Cond.methodLink own idx yX3_kindOf) ∈ BIG) : GoodIn BIG (wsV own idx RX3 yX3_kindOf vX3_kindOf) := gdV h bw3_39 bs10 bw1_10 bw3_40
def rmX3_kindOf : Room := { frames := 1, cells := 0, slots := 0, locals := 22 }
theorem hdX3_kindOf : yX3_kindOf.cls = RX3 ∧ yX3_kindOf.cls ≠ "java/lang/invoke/MethodHandle" ∧ yX3_kindOf.cls ≠ "java/lang/invoke/VarHandle" ∧ (parseMethodDescriptor yX3_kindOf.desc).map (fun d => d.parameters.length) = some 1 := by decide +kernel
set_option maxHeartbeats 4000000 in
set_option maxRecDepth 100000 in
theorem kX3_kindOf (l : Launch) (D : va_G) (cS : ClassId) (g : Nat → Nat) (cI : ClassId) (q : Nat → Nat) (P : Pg) (x1 : Int32) (r : Int32) (hF : fX3_kindOf P x1 = some r) : mI l yX3_kindOf vX3_kindOf rmX3_kindOf D cI cS g [.ref (q 0), .int x1] (wPg cI q P) r (wPg cI q P) := by
  refine st_I rfl (by decide) (Nat.le_of_ble_eq_true rfl) ?_
  intro p e s m args below meth c A ls hx hb hr hml hlocks hown hts hA hK hD0 hG hP hS hl
  have hown : s.vm.findClass RX3 = some m.cls := hown
  have hDa : ∀ P, va_D A (wPg cI q P) := fun P => hD0.adr rfl
  have htb : ∀ w ∈ BIG, w.before args s = true := fun w h => hts w (List.mem_cons_of_mem _ h)
  have hl : lv_has ls 2 [(0, .ref (q 0)), (1, .int x1)] := hl
  have j29 : ∀ (s0 : Int32) (H : Heap) (locs : List Loc) (ls : Array Slot), fX3_kindOf_j29 P s0 = some r → va_P D vwCl (wPg cI q P) H → va_S A s.heap H locs → lv_has ls 2 [] → W p l e rmX3_kindOf s m args below meth c H locs 0 0 (MQ below (qI D r (wPg cI q P) A) args s 0 0 A) (F0 m 29 ls [.int s0]) := by
    intro s0 H locs ls hF hP hS hl
    exact rt_I hx hb hr hlocks hS hP (so_use hF) dX3_kindOf_29
  refine lv_iload_n hx hb dX3_kindOf_0 rfl (lv_at hl 1 rfl) ?_
  refine lv_bipush (v := 97) hx hb dX3_kindOf_1 (by decide) ?_
  refine lv_bipush (v := 122) hx hb dX3_kindOf_3 (by decide) ?_
  obtain ⟨r1, hr1, hF⟩ := bd_use hF
  refine cl_SNI ⟨hx, hb, hml, hown, htb⟩ (kX8_inRange l D cS g cI x1 97 122 _ hr1) ⟨va_cnB 3 htb gX8_inRange_n rfl rfl rfl hG.2.2.2.2.2.2.1.2.2 (htb _ bw1_1) hdX8_inRange ⟨Nat.le_of_ble_eq_true rfl, Nat.le_of_ble_eq_true rfl⟩, (htb _ bw2_34), trivial⟩ hK (hDa _) hG hA hP hS sg_nil hl.1 rfl rfl (Nat.le_of_ble_eq_true rfl) dX3_kindOf_5 (fun H locs hP hS => ?_)
  refine lv_if_eq (tgt := 13) hx hb dX3_kindOf_8 (by decide) (fun c2 => ?_) (fun c2 => ?_)
  · have hF := it_t hF c2
    refine lv_iload_n hx hb dX3_kindOf_13 rfl (lv_at hl 1 rfl) ?_
    refine lv_bipush (v := 48) hx hb dX3_kindOf_14 (by decide) ?_
    refine lv_bipush (v := 57) hx hb dX3_kindOf_16 (by decide) ?_
    obtain ⟨r3, hr3, hF⟩ := bd_use hF
    refine cl_SNI ⟨hx, hb, hml, hown, htb⟩ (kX8_inRange l D cS g cI x1 48 57 _ hr3) ⟨va_cnB 3 htb gX8_inRange_n rfl rfl rfl hG.2.2.2.2.2.2.1.2.2 (htb _ bw1_1) hdX8_inRange ⟨Nat.le_of_ble_eq_true rfl, Nat.le_of_ble_eq_true rfl⟩, (htb _ bw2_34), trivial⟩ hK (hDa _) hG hA hP hS sg_nil hl.1 rfl rfl (Nat.le_of_ble_eq_true rfl) dX3_kindOf_18 (fun H locs hP hS => ?_)
    refine lv_if_eq (tgt := 28) hx hb dX3_kindOf_21 (by decide) (fun c4 => ?_) (fun c4 => ?_)
    · have hF := it_t hF c4
      refine lv_iconst (v := 3) hx hb dX3_kindOf_28 (by decide) ?_
      exact j29 3 _ _ _ hF hP hS (lv_sub hl [] rfl)
    · have hF := it_f hF c4
      refine lv_iconst (v := 2) hx hb dX3_kindOf_24 (by decide) ?_
      refine lv_goto (tgt := 29) hx hb dX3_kindOf_25 (by decide) ?_
      exact j29 2 _ _ _ hF hP hS (lv_sub hl [] rfl)
  · have hF := it_f hF c2
    refine lv_iconst (v := 1) hx hb dX3_kindOf_11 (by decide) ?_
    exact rt_I hx hb hr hlocks hS hP (so_use hF) dX3_kindOf_12
noncomputable def fX3_readToken_l8  (kk : Pg → Option (Pg)) : Nat → Pg → Option (Pg) := fun fu => Nat.rec (motive := fun _ => Pg → Option (Pg)) (fun _ => none) (fun _ ih => fun P => if (P.2.2.1) ≤ (P.2.2.2.2.1) then (kk P) else ((fX3_signAt P (P.2.2.2.2.1)).bind fun r4 => if r4 = 32 then (nm ((P.2.2.2.2.1) + 1) fun v6 => nm ((P.1, P.2.1, P.2.2.1, P.2.2.2.1, v6, P.2.2.2.2.2)) fun M7 => ih M7) else (kk P))) fu
theorem fX3_readToken_l8_s  (kk : Pg → Option (Pg)) (fu : Nat) (P : Pg) : fX3_readToken_l8 kk (fu + 1) P = (if (P.2.2.1) ≤ (P.2.2.2.2.1) then (kk P) else ((fX3_signAt P (P.2.2.2.2.1)).bind fun r4 => if r4 = 32 then (nm ((P.2.2.2.2.1) + 1) fun v6 => nm ((P.1, P.2.1, P.2.2.1, P.2.2.2.1, v6, P.2.2.2.2.2)) fun M7 => (fX3_readToken_l8 kk fu) M7) else (kk P))) := rfl
theorem fX3_readToken_l8_z  (kk : Pg → Option (Pg)) (P : Pg) : fX3_readToken_l8 kk 0 P = none := rfl
noncomputable def fX3_readToken_j146  (P : Pg) : Option (Pg) := some P
noncomputable def fX3_readToken_l95  (kk : Pg → Option (Pg)) : Nat → Pg → Option (Pg) := fun fu => Nat.rec (motive := fun _ => Pg → Option (Pg)) (fun _ => none) (fun _ ih => fun P => if (P.2.2.1) ≤ (P.2.2.2.2.2) then (kk P) else (if (P.2.2.2.1) = 3 then (kk P) else ((fX3_signAt P (P.2.2.2.2.2)).bind fun r20 => (fX3_kindOf P r20).bind fun r21 => if r21 = (P.2.2.2.1) then (nm ((P.2.2.2.2.2) + 1) fun v23 => nm ((P.1, P.2.1, P.2.2.1, P.2.2.2.1, P.2.2.2.2.1, v23)) fun M24 => ih M24) else (kk P)))) fu
theorem fX3_readToken_l95_s  (kk : Pg → Option (Pg)) (fu : Nat) (P : Pg) : fX3_readToken_l95 kk (fu + 1) P = (if (P.2.2.1) ≤ (P.2.2.2.2.2) then (kk P) else (if (P.2.2.2.1) = 3 then (kk P) else ((fX3_signAt P (P.2.2.2.2.2)).bind fun r20 => (fX3_kindOf P r20).bind fun r21 => if r21 = (P.2.2.2.1) then (nm ((P.2.2.2.2.2) + 1) fun v23 => nm ((P.1, P.2.1, P.2.2.1, P.2.2.2.1, P.2.2.2.2.1, v23)) fun M24 => (fX3_readToken_l95 kk fu) M24) else (kk P)))) := rfl
theorem fX3_readToken_l95_z  (kk : Pg → Option (Pg)) (P : Pg) : fX3_readToken_l95 kk 0 P = none := rfl
noncomputable def fX3_readToken  (P : Pg) : Option (Pg) := nm (P.2.2.2.2.2) fun v1 => nm ((P.1, P.2.1, P.2.2.1, P.2.2.2.1, v1, P.2.2.2.2.2)) fun M2 => fX3_readToken_l8 (fun M8 => nm (M8.2.2.2.2.1) fun v9 => nm ((M8.1, M8.2.1, M8.2.2.1, M8.2.2.2.1, M8.2.2.2.2.1, v9)) fun M10 => nm ((M10.1, M10.2.1, M10.2.2.1, 0, M10.2.2.2.2)) fun M11 => if (M11.2.2.1) ≤ (M11.2.2.2.2.1) then (fX3_readToken_j146 M11) else ((fX3_signAt M11 (M11.2.2.2.2.1)).bind fun r13 => (fX3_kindOf M11 r13).bind fun r14 => nm ((M11.1, M11.2.1, M11.2.2.1, r14, M11.2.2.2.2)) fun M15 => nm ((M15.2.2.2.2.1) + 1) fun v16 => nm ((M15.1, M15.2.1, M15.2.2.1, M15.2.2.2.1, M15.2.2.2.2.1, v16)) fun M17 => fX3_readToken_l95 (fun M25 => fX3_readToken_j146 M25) FU M17)) FU M2
abbrev vX3_readToken : List Cond := Cond.code yX3_readToken cX3_readToken 1 none :: BIG
theorem gX3_readToken {own : String} {idx : Nat} (h : (Cond.methodLink own idx yX3_readToken) ∈ BIG) : GoodIn BIG (wsV own idx RX3 yX3_readToken vX3_readToken) := gdV h bw3_31 bs8 bw1_10 bw3_32
def rmX3_readToken : Room := { frames := 2, cells := 0, slots := 0, locals := 43 }
theorem hdX3_readToken : yX3_readToken.cls = RX3 ∧ yX3_readToken.cls ≠ "java/lang/invoke/MethodHandle" ∧ yX3_readToken.cls ≠ "java/lang/invoke/VarHandle" ∧ (parseMethodDescriptor yX3_readToken.desc).map (fun d => d.parameters.length) = some 0 := by decide +kernel
set_option maxHeartbeats 4000000 in
set_option maxRecDepth 100000 in
theorem kX3_readToken (l : Launch) (D : va_G) (cS : ClassId) (g : Nat → Nat) (cI : ClassId) (q : Nat → Nat) (P : Pg) (M' : Pg) (hF : fX3_readToken P = some M') : mV l yX3_readToken vX3_readToken rmX3_readToken D cI cS g [.ref (q 0)] (wPg cI q P) (wPg cI q (M')) := by
  refine st_V rfl (by decide) (Nat.le_of_ble_eq_true rfl) ?_
  intro p e s m args below meth c A ls hx hb hr hml hlocks hown hts hA hK hD0 hG hP hS hl
  have hown : s.vm.findClass RX3 = some m.cls := hown
  have hDa : ∀ P, va_D A (wPg cI q P) := fun P => hD0.adr rfl
  have htb : ∀ w ∈ BIG, w.before args s = true := fun w h => hts w (List.mem_cons_of_mem _ h)
  have hl : lv_has ls 1 [(0, .ref (q 0))] := hl
  have l8 : ∀ (kk : Pg → Option (Pg)) (fu : Nat) (P : Pg) (H : Heap) (locs : List Loc) (ls : Array Slot), fX3_readToken_l8 kk fu P = some M' → va_P D vwCl (wPg cI q P) H → va_S A s.heap H locs → lv_has ls 1 [(0, .ref (q 0))] → (∀ (P : Pg) (H : Heap) (locs : List Loc) (ls : Array Slot), kk P = some M' → va_P D vwCl (wPg cI q P) H → va_S A s.heap H locs → lv_has ls 1 [(0, .ref (q 0))] → W p l e rmX3_readToken s m args below meth c H locs 0 0 (MQ below (qV D (wPg cI q (M')) A) args s 0 0 A) (F0 m 45 ls [])) → W p l e rmX3_readToken s m args below meth c H locs 0 0 (MQ below (qV D (wPg cI q (M')) A) args s 0 0 A) (F0 m 8 ls []) := by
    intro kk fu
    induction fu with
    | zero => intro P H locs ls hF; exact nn_use hF
    | succ fu ihn =>
      intro P H locs ls hF hP hS hl after
      rw [fX3_readToken_l8_s] at hF
      refine lv_aload_n hx hb dX3_readToken_8 rfl (lv_at hl 0 rfl) ?_
      refine va_get (ci := 3) (v := .int (P.2.2.2.2.1)) (C := RX3) (T := TX3) (N := 6) hx hb htb kin3 hown hK hP 0 (pPg_0 cI q P) rfl 4 (by decide) (htb _ bw1_200) (fun _ h9 => h9) rfl dX3_readToken_9 ?_
      refine lv_aload_n hx hb dX3_readToken_12 rfl (lv_at hl 0 rfl) ?_
      refine va_get (ci := 3) (v := .int (P.2.2.1)) (C := RX3) (T := TX3) (N := 6) hx hb htb kin3 hown hK hP 0 (pPg_0 cI q P) rfl 2 (by decide) (htb _ bw1_198) (fun _ h9 => h9) rfl dX3_readToken_13 ?_
      refine lv_icmp_ge (tgt := 45) hx hb dX3_readToken_16 (by decide) (fun c3 => ?_) (fun c3 => ?_)
      · have hF := it_t hF c3
        exact after P _ _ _ hF hP hS (lv_sub hl [0] rfl)
      · have hF := it_f hF c3
        refine lv_aload_n hx hb dX3_readToken_19 rfl (lv_at hl 0 rfl) ?_
        refine lv_aload_n hx hb dX3_readToken_20 rfl (lv_at hl 0 rfl) ?_
        refine va_get (ci := 3) (v := .int (P.2.2.2.2.1)) (C := RX3) (T := TX3) (N := 6) hx hb htb kin3 hown hK hP 0 (pPg_0 cI q P) rfl 4 (by decide) (htb _ bw1_200) (fun _ h9 => h9) rfl dX3_readToken_21 ?_
        obtain ⟨r4, hr4, hF⟩ := bd_use hF
        refine cl_VI ⟨hx, hb, hml, hown, htb⟩ (kX3_signAt l D cS g cI q P (P.2.2.2.2.1) _ hr4) (cwV 1 htb (gX3_signAt bw3_33) rfl rfl rfl hdX3_signAt ⟨Nat.le_of_ble_eq_true rfl, Nat.le_of_ble_eq_true rfl⟩) hK (hDa _) hG hA hP hS (sr_Pg_Pg cI q P) hl.1 rfl 0 (pPg_0 _ _ _) rfl rfl (Nat.le_of_ble_eq_true rfl) dX3_readToken_24 (fun H locs hP hS => ?_)
        refine lv_bipush (v := 32) hx hb dX3_readToken_27 (by decide) ?_
        refine lv_icmp_ne (tgt := 45) hx hb dX3_readToken_29 (by decide) (fun c5 => ?_) (fun c5 => ?_)
        · have hF := it_f hF c5
          exact after P _ _ _ hF hP hS (lv_sub hl [0] rfl)
        · have hF := it_t hF c5
          refine lv_aload_n hx hb dX3_readToken_32 rfl (lv_at hl 0 rfl) ?_
          refine lv_dup hx hb dX3_readToken_33 rfl ?_
          refine va_get (ci := 3) (v := .int (P.2.2.2.2.1)) (C := RX3) (T := TX3) (N := 6) hx hb htb kin3 hown hK hP 0 (pPg_0 cI q P) rfl 4 (by decide) (htb _ bw1_200) (fun _ h9 => h9) rfl dX3_readToken_34 ?_
          refine lv_iconst (v := 1) hx hb dX3_readToken_37 (by decide) ?_
          refine lv_iadd hx hb dX3_readToken_38 ?_
          refine lv_topi (fun v6 ev6 => ?_)
          have hF := nm_use hF ev6
          refine va_put (ci := 3) (v := .int v6) (ty := .int) (C := RX3) (T := TX3) (N := 6) hx hb htb kin3 tyX3 tyX3_ok nmX3 hown hK hP (hDa _) hS 0 (pPg_0 cI q P) rfl 4 (by decide) (htb _ bw1_200) (fun _ h9 => h9) rfl (by decide +kernel) rfl rfl (Nat.le_of_ble_eq_true rfl) dX3_readToken_39 (fun H locs hP _ hS => ?_)
          obtain ⟨M7, eM7⟩ : ∃ z : Pg, z = (P.1, P.2.1, P.2.2.1, P.2.2.2.1, v6, P.2.2.2.2.2) := ⟨_, rfl⟩
          have hF := nm_use hF eM7
          have hP : va_P D vwCl (wPg cI q M7) H := by rw [eM7]; exact hP
          refine lv_goto (tgt := 8) hx hb dX3_readToken_42 (by decide) ?_
          exact ihn M7 _ _ _ hF hP hS (lv_sub hl [0] rfl) after
  have j146 : ∀ (P : Pg) (H : Heap) (locs : List Loc) (ls : Array Slot), fX3_readToken_j146 P = some M' → va_P D vwCl (wPg cI q P) H → va_S A s.heap H locs → lv_has ls 1 [] → W p l e rmX3_readToken s m args below meth c H locs 0 0 (MQ below (qV D (wPg cI q (M')) A) args s 0 0 A) (F0 m 146 ls []) := by
    intro P H locs ls hF hP hS hl
    exact rt_V hx hb hr hlocks hS (by rw [← so_use hF]; exact hP) dX3_readToken_146
  have l95 : ∀ (kk : Pg → Option (Pg)) (fu : Nat) (P : Pg) (H : Heap) (locs : List Loc) (ls : Array Slot), fX3_readToken_l95 kk fu P = some M' → va_P D vwCl (wPg cI q P) H → va_S A s.heap H locs → lv_has ls 1 [(0, .ref (q 0))] → (∀ (P : Pg) (H : Heap) (locs : List Loc) (ls : Array Slot), kk P = some M' → va_P D vwCl (wPg cI q P) H → va_S A s.heap H locs → lv_has ls 1 [] → W p l e rmX3_readToken s m args below meth c H locs 0 0 (MQ below (qV D (wPg cI q (M')) A) args s 0 0 A) (F0 m 146 ls [])) → W p l e rmX3_readToken s m args below meth c H locs 0 0 (MQ below (qV D (wPg cI q (M')) A) args s 0 0 A) (F0 m 95 ls []) := by
    intro kk fu
    induction fu with
    | zero => intro P H locs ls hF; exact nn_use hF
    | succ fu ihn =>
      intro P H locs ls hF hP hS hl after
      rw [fX3_readToken_l95_s] at hF
      refine lv_aload_n hx hb dX3_readToken_95 rfl (lv_at hl 0 rfl) ?_
      refine va_get (ci := 3) (v := .int (P.2.2.2.2.2)) (C := RX3) (T := TX3) (N := 6) hx hb htb kin3 hown hK hP 0 (pPg_0 cI q P) rfl 5 (by decide) (htb _ bw1_201) (fun _ h9 => h9) rfl dX3_readToken_96 ?_
      refine lv_aload_n hx hb dX3_readToken_99 rfl (lv_at hl 0 rfl) ?_
      refine va_get (ci := 3) (v := .int (P.2.2.1)) (C := RX3) (T := TX3) (N := 6) hx hb htb kin3 hown hK hP 0 (pPg_0 cI q P) rfl 2 (by decide) (htb _ bw1_198) (fun _ h9 => h9) rfl dX3_readToken_100 ?_
      refine lv_icmp_ge (tgt := 146) hx hb dX3_readToken_103 (by decide) (fun c18 => ?_) (fun c18 => ?_)
      · have hF := it_t hF c18
        exact after P _ _ _ hF hP hS (lv_sub hl [] rfl)
      · have hF := it_f hF c18
        refine lv_aload_n hx hb dX3_readToken_106 rfl (lv_at hl 0 rfl) ?_
        refine va_get (ci := 3) (v := .int (P.2.2.2.1)) (C := RX3) (T := TX3) (N := 6) hx hb htb kin3 hown hK hP 0 (pPg_0 cI q P) rfl 3 (by decide) (htb _ bw1_199) (fun _ h9 => h9) rfl dX3_readToken_107 ?_
        refine lv_iconst (v := 3) hx hb dX3_readToken_110 (by decide) ?_
        refine lv_icmp_eq (tgt := 146) hx hb dX3_readToken_111 (by decide) (fun c19 => ?_) (fun c19 => ?_)
        · have hF := it_t hF c19
          exact after P _ _ _ hF hP hS (lv_sub hl [] rfl)
        · have hF := it_f hF c19
          refine lv_aload_n hx hb dX3_readToken_114 rfl (lv_at hl 0 rfl) ?_
          refine lv_aload_n hx hb dX3_readToken_115 rfl (lv_at hl 0 rfl) ?_
          refine lv_aload_n hx hb dX3_readToken_116 rfl (lv_at hl 0 rfl) ?_
          refine va_get (ci := 3) (v := .int (P.2.2.2.2.2)) (C := RX3) (T := TX3) (N := 6) hx hb htb kin3 hown hK hP 0 (pPg_0 cI q P) rfl 5 (by decide) (htb _ bw1_201) (fun _ h9 => h9) rfl dX3_readToken_117 ?_
          obtain ⟨r20, hr20, hF⟩ := bd_use hF
          refine cl_VI ⟨hx, hb, hml, hown, htb⟩ (kX3_signAt l D cS g cI q P (P.2.2.2.2.2) _ hr20) (cwV 1 htb (gX3_signAt bw3_33) rfl rfl rfl hdX3_signAt ⟨Nat.le_of_ble_eq_true rfl, Nat.le_of_ble_eq_true rfl⟩) hK (hDa _) hG hA hP hS (sr_Pg_Pg cI q P) hl.1 rfl 0 (pPg_0 _ _ _) rfl rfl (Nat.le_of_ble_eq_true rfl) dX3_readToken_120 (fun H locs hP hS => ?_)
          obtain ⟨r21, hr21, hF⟩ := bd_use hF
          refine cl_VI ⟨hx, hb, hml, hown, htb⟩ (kX3_kindOf l D cS g cI q P r20 _ hr21) (cwV 1 htb (gX3_kindOf bw3_37) rfl rfl rfl hdX3_kindOf ⟨Nat.le_of_ble_eq_true rfl, Nat.le_of_ble_eq_true rfl⟩) hK (hDa _) hG hA hP hS (sr_Pg_Pg cI q P) hl.1 rfl 0 (pPg_0 _ _ _) rfl rfl (Nat.le_of_ble_eq_true rfl) dX3_readToken_123 (fun H locs hP hS => ?_)
          refine lv_aload_n hx hb dX3_readToken_126 rfl (lv_at hl 0 rfl) ?_
          refine va_get (ci := 3) (v := .int (P.2.2.2.1)) (C := RX3) (T := TX3) (N := 6) hx hb htb kin3 hown hK hP 0 (pPg_0 cI q P) rfl 3 (by decide) (htb _ bw1_199) (fun _ h9 => h9) rfl dX3_readToken_127 ?_
          refine lv_icmp_ne (tgt := 146) hx hb dX3_readToken_130 (by decide) (fun c22 => ?_) (fun c22 => ?_)
          · have hF := it_f hF c22
            exact after P _ _ _ hF hP hS (lv_sub hl [] rfl)
          · have hF := it_t hF c22
            refine lv_aload_n hx hb dX3_readToken_133 rfl (lv_at hl 0 rfl) ?_
            refine lv_dup hx hb dX3_readToken_134 rfl ?_
            refine va_get (ci := 3) (v := .int (P.2.2.2.2.2)) (C := RX3) (T := TX3) (N := 6) hx hb htb kin3 hown hK hP 0 (pPg_0 cI q P) rfl 5 (by decide) (htb _ bw1_201) (fun _ h9 => h9) rfl dX3_readToken_135 ?_
            refine lv_iconst (v := 1) hx hb dX3_readToken_138 (by decide) ?_
            refine lv_iadd hx hb dX3_readToken_139 ?_
            refine lv_topi (fun v23 ev23 => ?_)
            have hF := nm_use hF ev23
            refine va_put (ci := 3) (v := .int v23) (ty := .int) (C := RX3) (T := TX3) (N := 6) hx hb htb kin3 tyX3 tyX3_ok nmX3 hown hK hP (hDa _) hS 0 (pPg_0 cI q P) rfl 5 (by decide) (htb _ bw1_201) (fun _ h9 => h9) rfl (by decide +kernel) rfl rfl (Nat.le_of_ble_eq_true rfl) dX3_readToken_140 (fun H locs hP _ hS => ?_)
            obtain ⟨M24, eM24⟩ : ∃ z : Pg, z = (P.1, P.2.1, P.2.2.1, P.2.2.2.1, P.2.2.2.2.1, v23) := ⟨_, rfl⟩
            have hF := nm_use hF eM24
            have hP : va_P D vwCl (wPg cI q M24) H := by rw [eM24]; exact hP
            refine lv_goto (tgt := 95) hx hb dX3_readToken_143 (by decide) ?_
            exact ihn M24 _ _ _ hF hP hS (lv_sub hl [0] rfl) after
  refine lv_aload_n hx hb dX3_readToken_0 rfl (lv_at hl 0 rfl) ?_
  refine lv_aload_n hx hb dX3_readToken_1 rfl (lv_at hl 0 rfl) ?_
  refine va_get (ci := 3) (v := .int (P.2.2.2.2.2)) (C := RX3) (T := TX3) (N := 6) hx hb htb kin3 hown hK hP 0 (pPg_0 cI q P) rfl 5 (by decide) (htb _ bw1_201) (fun _ h9 => h9) rfl dX3_readToken_2 ?_
  refine lv_topi (fun v1 ev1 => ?_)
  have hF := nm_use hF ev1
  refine va_put (ci := 3) (v := .int v1) (ty := .int) (C := RX3) (T := TX3) (N := 6) hx hb htb kin3 tyX3 tyX3_ok nmX3 hown hK hP (hDa _) hS 0 (pPg_0 cI q P) rfl 4 (by decide) (htb _ bw1_200) (fun _ h9 => h9) rfl (by decide +kernel) rfl rfl (Nat.le_of_ble_eq_true rfl) dX3_readToken_5 (fun H locs hP _ hS => ?_)
  obtain ⟨M2, eM2⟩ : ∃ z : Pg, z = (P.1, P.2.1, P.2.2.1, P.2.2.2.1, v1, P.2.2.2.2.2) := ⟨_, rfl⟩
  have hF := nm_use hF eM2
  have hP : va_P D vwCl (wPg cI q M2) H := by rw [eM2]; exact hP
  refine l8  _ _ M2 _ _ _ hF hP hS (lv_sub hl [0] rfl) ?_
  · intro M8 H locs ls hF hP hS hl
    refine lv_aload_n hx hb dX3_readToken_45 rfl (lv_at hl 0 rfl) ?_
    refine lv_aload_n hx hb dX3_readToken_46 rfl (lv_at hl 0 rfl) ?_
    refine va_get (ci := 3) (v := .int (M8.2.2.2.2.1)) (C := RX3) (T := TX3) (N := 6) hx hb htb kin3 hown hK hP 0 (pPg_0 cI q M8) rfl 4 (by decide) (htb _ bw1_200) (fun _ h9 => h9) rfl dX3_readToken_47 ?_
    refine lv_topi (fun v9 ev9 => ?_)
    have hF := nm_use hF ev9
    refine va_put (ci := 3) (v := .int v9) (ty := .int) (C := RX3) (T := TX3) (N := 6) hx hb htb kin3 tyX3 tyX3_ok nmX3 hown hK hP (hDa _) hS 0 (pPg_0 cI q M8) rfl 5 (by decide) (htb _ bw1_201) (fun _ h9 => h9) rfl (by decide +kernel) rfl rfl (Nat.le_of_ble_eq_true rfl) dX3_readToken_50 (fun H locs hP _ hS => ?_)
    obtain ⟨M10, eM10⟩ : ∃ z : Pg, z = (M8.1, M8.2.1, M8.2.2.1, M8.2.2.2.1, M8.2.2.2.2.1, v9) := ⟨_, rfl⟩
    have hF := nm_use hF eM10
    have hP : va_P D vwCl (wPg cI q M10) H := by rw [eM10]; exact hP
    refine lv_aload_n hx hb dX3_readToken_53 rfl (lv_at hl 0 rfl) ?_
    refine lv_iconst (v := 0) hx hb dX3_readToken_54 (by decide) ?_
    refine va_put (ci := 3) (v := .int 0) (ty := .int) (C := RX3) (T := TX3) (N := 6) hx hb htb kin3 tyX3 tyX3_ok nmX3 hown hK hP (hDa _) hS 0 (pPg_0 cI q M10) rfl 3 (by decide) (htb _ bw1_199) (fun _ h9 => h9) rfl (by decide +kernel) rfl rfl (Nat.le_of_ble_eq_true rfl) dX3_readToken_55 (fun H locs hP _ hS => ?_)
    obtain ⟨M11, eM11⟩ : ∃ z : Pg, z = (M10.1, M10.2.1, M10.2.2.1, 0, M10.2.2.2.2) := ⟨_, rfl⟩
    have hF := nm_use hF eM11
    have hP : va_P D vwCl (wPg cI q M11) H := by rw [eM11]; exact hP
    refine lv_aload_n hx hb dX3_readToken_58 rfl (lv_at hl 0 rfl) ?_
    refine va_get (ci := 3) (v := .int (M11.2.2.2.2.1)) (C := RX3) (T := TX3) (N := 6) hx hb htb kin3 hown hK hP 0 (pPg_0 cI q M11) rfl 4 (by decide) (htb _ bw1_200) (fun _ h9 => h9) rfl dX3_readToken_59 ?_
    refine lv_aload_n hx hb dX3_readToken_62 rfl (lv_at hl 0 rfl) ?_
    refine va_get (ci := 3) (v := .int (M11.2.2.1)) (C := RX3) (T := TX3) (N := 6) hx hb htb kin3 hown hK hP 0 (pPg_0 cI q M11) rfl 2 (by decide) (htb _ bw1_198) (fun _ h9 => h9) rfl dX3_readToken_63 ?_
    refine lv_icmp_ge (tgt := 146) hx hb dX3_readToken_66 (by decide) (fun c12 => ?_) (fun c12 => ?_)
    · have hF := it_t hF c12
      exact j146 M11 _ _ _ hF hP hS (lv_sub hl [] rfl)
    · have hF := it_f hF c12
      refine lv_aload_n hx hb dX3_readToken_69 rfl (lv_at hl 0 rfl) ?_
      refine lv_aload_n hx hb dX3_readToken_70 rfl (lv_at hl 0 rfl) ?_
      refine lv_aload_n hx hb dX3_readToken_71 rfl (lv_at hl 0 rfl) ?_
      refine lv_aload_n hx hb dX3_readToken_72 rfl (lv_at hl 0 rfl) ?_
      refine va_get (ci := 3) (v := .int (M11.2.2.2.2.1)) (C := RX3) (T := TX3) (N := 6) hx hb htb kin3 hown hK hP 0 (pPg_0 cI q M11) rfl 4 (by decide) (htb _ bw1_200) (fun _ h9 => h9) rfl dX3_readToken_73 ?_
      obtain ⟨r13, hr13, hF⟩ := bd_use hF
      refine cl_VI ⟨hx, hb, hml, hown, htb⟩ (kX3_signAt l D cS g cI q M11 (M11.2.2.2.2.1) _ hr13) (cwV 1 htb (gX3_signAt bw3_33) rfl rfl rfl hdX3_signAt ⟨Nat.le_of_ble_eq_true rfl, Nat.le_of_ble_eq_true rfl⟩) hK (hDa _) hG hA hP hS (sr_Pg_Pg cI q M11) hl.1 rfl 0 (pPg_0 _ _ _) rfl rfl (Nat.le_of_ble_eq_true rfl) dX3_readToken_76 (fun H locs hP hS => ?_)
      obtain ⟨r14, hr14, hF⟩ := bd_use hF
      refine cl_VI ⟨hx, hb, hml, hown, htb⟩ (kX3_kindOf l D cS g cI q M11 r13 _ hr14) (cwV 1 htb (gX3_kindOf bw3_37) rfl rfl rfl hdX3_kindOf ⟨Nat.le_of_ble_eq_true rfl, Nat.le_of_ble_eq_true rfl⟩) hK (hDa _) hG hA hP hS (sr_Pg_Pg cI q M11) hl.1 rfl 0 (pPg_0 _ _ _) rfl rfl (Nat.le_of_ble_eq_true rfl) dX3_readToken_79 (fun H locs hP hS => ?_)
      refine va_put (ci := 3) (v := .int r14) (ty := .int) (C := RX3) (T := TX3) (N := 6) hx hb htb kin3 tyX3 tyX3_ok nmX3 hown hK hP (hDa _) hS 0 (pPg_0 cI q M11) rfl 3 (by decide) (htb _ bw1_199) (fun _ h9 => h9) rfl (by decide +kernel) rfl rfl (Nat.le_of_ble_eq_true rfl) dX3_readToken_82 (fun H locs hP _ hS => ?_)
      obtain ⟨M15, eM15⟩ : ∃ z : Pg, z = (M11.1, M11.2.1, M11.2.2.1, r14, M11.2.2.2.2) := ⟨_, rfl⟩
      have hF := nm_use hF eM15
      have hP : va_P D vwCl (wPg cI q M15) H := by rw [eM15]; exact hP
      refine lv_aload_n hx hb dX3_readToken_85 rfl (lv_at hl 0 rfl) ?_
      refine lv_aload_n hx hb dX3_readToken_86 rfl (lv_at hl 0 rfl) ?_
      refine va_get (ci := 3) (v := .int (M15.2.2.2.2.1)) (C := RX3) (T := TX3) (N := 6) hx hb htb kin3 hown hK hP 0 (pPg_0 cI q M15) rfl 4 (by decide) (htb _ bw1_200) (fun _ h9 => h9) rfl dX3_readToken_87 ?_
      refine lv_iconst (v := 1) hx hb dX3_readToken_90 (by decide) ?_
      refine lv_iadd hx hb dX3_readToken_91 ?_
      refine lv_topi (fun v16 ev16 => ?_)
      have hF := nm_use hF ev16
      refine va_put (ci := 3) (v := .int v16) (ty := .int) (C := RX3) (T := TX3) (N := 6) hx hb htb kin3 tyX3 tyX3_ok nmX3 hown hK hP (hDa _) hS 0 (pPg_0 cI q M15) rfl 5 (by decide) (htb _ bw1_201) (fun _ h9 => h9) rfl (by decide +kernel) rfl rfl (Nat.le_of_ble_eq_true rfl) dX3_readToken_92 (fun H locs hP _ hS => ?_)
      obtain ⟨M17, eM17⟩ : ∃ z : Pg, z = (M15.1, M15.2.1, M15.2.2.1, M15.2.2.2.1, M15.2.2.2.2.1, v16) := ⟨_, rfl⟩
      have hF := nm_use hF eM17
      have hP : va_P D vwCl (wPg cI q M17) H := by rw [eM17]; exact hP
      refine l95  _ _ M17 _ _ _ hF hP hS (lv_sub hl [0] rfl) ?_
      · intro M25 H locs ls hF hP hS hl
        exact j146 M25 _ _ _ hF hP hS (lv_sub hl [] rfl)
noncomputable def fX3_isSemicolon_j26  (P : Pg) (s0 : Int32) : Option (Int32) := Zb s0 (some s0)
noncomputable def fX3_isSemicolon_j25  (P : Pg) : Option (Int32) := fX3_isSemicolon_j26 P 0
noncomputable def fX3_isSemicolon  (P : Pg) : Option (Int32) := if (P.2.2.2.1) = 3 then ((fX3_signAt P (P.2.2.2.2.1)).bind fun r2 => if r2 = 59 then (fX3_isSemicolon_j26 P 1) else (fX3_isSemicolon_j25 P)) else (fX3_isSemicolon_j25 P)
abbrev vX3_isSemicolon : List Cond := Cond.code yX3_isSemicolon cX3_isSemicolon 1 (some .boolean) :: BIG
theorem gX3_isSemicolon {own : String} {idx : Nat} (h : (Cond.methodLink own idx yX3_isSemicolon) ∈ BIG) : GoodIn BIG (wsV own idx RX3 yX3_isSemicolon vX3_isSemicolon) := gdV h bw3_120 bs16 bw1_10 bw3_121
def rmX3_isSemicolon : Room := { frames := 1, cells := 0, slots := 0, locals := 21 }
theorem hdX3_isSemicolon : yX3_isSemicolon.cls = RX3 ∧ yX3_isSemicolon.cls ≠ "java/lang/invoke/MethodHandle" ∧ yX3_isSemicolon.cls ≠ "java/lang/invoke/VarHandle" ∧ (parseMethodDescriptor yX3_isSemicolon.desc).map (fun d => d.parameters.length) = some 0 := by decide +kernel
set_option maxHeartbeats 4000000 in
set_option maxRecDepth 100000 in
theorem kX3_isSemicolon (l : Launch) (D : va_G) (cS : ClassId) (g : Nat → Nat) (cI : ClassId) (q : Nat → Nat) (P : Pg) (r : Int32) (hF : fX3_isSemicolon P = some r) : mI l yX3_isSemicolon vX3_isSemicolon rmX3_isSemicolon D cI cS g [.ref (q 0)] (wPg cI q P) r (wPg cI q P) := by
  refine st_I rfl (by decide) (Nat.le_of_ble_eq_true rfl) ?_
  intro p e s m args below meth c A ls hx hb hr hml hlocks hown hts hA hK hD0 hG hP hS hl
  have hown : s.vm.findClass RX3 = some m.cls := hown
  have hDa : ∀ P, va_D A (wPg cI q P) := fun P => hD0.adr rfl
  have htb : ∀ w ∈ BIG, w.before args s = true := fun w h => hts w (List.mem_cons_of_mem _ h)
  have hl : lv_has ls 1 [(0, .ref (q 0))] := hl
  have j26 : ∀ (s0 : Int32) (H : Heap) (locs : List Loc) (ls : Array Slot), fX3_isSemicolon_j26 P s0 = some r → va_P D vwCl (wPg cI q P) H → va_S A s.heap H locs → lv_has ls 1 [] → W p l e rmX3_isSemicolon s m args below meth c H locs 0 0 (MQ below (qI D r (wPg cI q P) A) args s 0 0 A) (F0 m 26 ls [.int s0]) := by
    intro s0 H locs ls hF hP hS hl
    obtain ⟨hz, hF⟩ := zb_use hF
    exact rt_Z hx hb hr hlocks hS hP hz (so_use hF) dX3_isSemicolon_26
  have j25 : ∀ (H : Heap) (locs : List Loc) (ls : Array Slot), fX3_isSemicolon_j25 P = some r → va_P D vwCl (wPg cI q P) H → va_S A s.heap H locs → lv_has ls 1 [] → W p l e rmX3_isSemicolon s m args below meth c H locs 0 0 (MQ below (qI D r (wPg cI q P) A) args s 0 0 A) (F0 m 25 ls []) := by
    intro H locs ls hF hP hS hl
    refine lv_iconst (v := 0) hx hb dX3_isSemicolon_25 (by decide) ?_
    exact j26 0 _ _ _ hF hP hS (lv_sub hl [] rfl)
  refine lv_aload_n hx hb dX3_isSemicolon_0 rfl (lv_at hl 0 rfl) ?_
  refine va_get (ci := 3) (v := .int (P.2.2.2.1)) (C := RX3) (T := TX3) (N := 6) hx hb htb kin3 hown hK hP 0 (pPg_0 cI q P) rfl 3 (by decide) (htb _ bw1_199) (fun _ h9 => h9) rfl dX3_isSemicolon_1 ?_
  refine lv_iconst (v := 3) hx hb dX3_isSemicolon_4 (by decide) ?_
  refine lv_icmp_ne (tgt := 25) hx hb dX3_isSemicolon_5 (by decide) (fun c1 => ?_) (fun c1 => ?_)
  · have hF := it_f hF c1
    exact j25  _ _ _ hF hP hS (lv_sub hl [] rfl)
  · have hF := it_t hF c1
    refine lv_aload_n hx hb dX3_isSemicolon_8 rfl (lv_at hl 0 rfl) ?_
    refine lv_aload_n hx hb dX3_isSemicolon_9 rfl (lv_at hl 0 rfl) ?_
    refine va_get (ci := 3) (v := .int (P.2.2.2.2.1)) (C := RX3) (T := TX3) (N := 6) hx hb htb kin3 hown hK hP 0 (pPg_0 cI q P) rfl 4 (by decide) (htb _ bw1_200) (fun _ h9 => h9) rfl dX3_isSemicolon_10 ?_
    obtain ⟨r2, hr2, hF⟩ := bd_use hF
    refine cl_VI ⟨hx, hb, hml, hown, htb⟩ (kX3_signAt l D cS g cI q P (P.2.2.2.2.1) _ hr2) (cwV 1 htb (gX3_signAt bw3_33) rfl rfl rfl hdX3_signAt ⟨Nat.le_of_ble_eq_true rfl, Nat.le_of_ble_eq_true rfl⟩) hK (hDa _) hG hA hP hS (sr_Pg_Pg cI q P) hl.1 rfl 0 (pPg_0 _ _ _) rfl rfl (Nat.le_of_ble_eq_true rfl) dX3_isSemicolon_13 (fun H locs hP hS => ?_)
    refine lv_bipush (v := 59) hx hb dX3_isSemicolon_16 (by decide) ?_
    refine lv_icmp_ne (tgt := 25) hx hb dX3_isSemicolon_18 (by decide) (fun c3 => ?_) (fun c3 => ?_)
    · have hF := it_f hF c3
      exact j25  _ _ _ hF hP hS (lv_sub hl [] rfl)
    · have hF := it_t hF c3
      refine lv_iconst (v := 1) hx hb dX3_isSemicolon_21 (by decide) ?_
      refine lv_goto (tgt := 26) hx hb dX3_isSemicolon_22 (by decide) ?_
      exact j26 1 _ _ _ hF hP hS (lv_sub hl [] rfl)
noncomputable def fX3_isNumber_j46  (P : Pg) (s0 : Int32) : Option (Int32) := Zb s0 (some s0)
noncomputable def fX3_isNumber_j45  (P : Pg) : Option (Int32) := fX3_isNumber_j46 P 0
noncomputable def fX3_isNumber_j41  (P : Pg) : Option (Int32) := fX3_isNumber_j46 P 1
noncomputable def fX3_isNumber  (P : Pg) : Option (Int32) := nm ((P.2.2.2.2.2) - (P.2.2.2.2.1)) fun v1 => if (P.2.2.2.1) = 2 then (if 4 < v1 then (fX3_isNumber_j45 P) else (if v1 = 1 then (fX3_isNumber_j41 P) else ((fX3_signAt P (P.2.2.2.2.1)).bind fun r5 => if r5 = 48 then (fX3_isNumber_j45 P) else (fX3_isNumber_j41 P)))) else (fX3_isNumber_j45 P)
abbrev vX3_isNumber : List Cond := Cond.code yX3_isNumber cX3_isNumber 2 (some .boolean) :: BIG
theorem gX3_isNumber {own : String} {idx : Nat} (h : (Cond.methodLink own idx yX3_isNumber) ∈ BIG) : GoodIn BIG (wsV own idx RX3 yX3_isNumber vX3_isNumber) := gdV h bw3_112 bs14 bw1_10 bw3_113
def rmX3_isNumber : Room := { frames := 1, cells := 0, slots := 0, locals := 21 }
theorem hdX3_isNumber : yX3_isNumber.cls = RX3 ∧ yX3_isNumber.cls ≠ "java/lang/invoke/MethodHandle" ∧ yX3_isNumber.cls ≠ "java/lang/invoke/VarHandle" ∧ (parseMethodDescriptor yX3_isNumber.desc).map (fun d => d.parameters.length) = some 0 := by decide +kernel
set_option maxHeartbeats 4000000 in
set_option maxRecDepth 100000 in
theorem kX3_isNumber (l : Launch) (D : va_G) (cS : ClassId) (g : Nat → Nat) (cI : ClassId) (q : Nat → Nat) (P : Pg) (r : Int32) (hF : fX3_isNumber P = some r) : mI l yX3_isNumber vX3_isNumber rmX3_isNumber D cI cS g [.ref (q 0)] (wPg cI q P) r (wPg cI q P) := by
  refine st_I rfl (by decide) (Nat.le_of_ble_eq_true rfl) ?_
  intro p e s m args below meth c A ls hx hb hr hml hlocks hown hts hA hK hD0 hG hP hS hl
  have hown : s.vm.findClass RX3 = some m.cls := hown
  have hDa : ∀ P, va_D A (wPg cI q P) := fun P => hD0.adr rfl
  have htb : ∀ w ∈ BIG, w.before args s = true := fun w h => hts w (List.mem_cons_of_mem _ h)
  have hl : lv_has ls 2 [(0, .ref (q 0))] := hl
  have j46 : ∀ (s0 : Int32) (H : Heap) (locs : List Loc) (ls : Array Slot), fX3_isNumber_j46 P s0 = some r → va_P D vwCl (wPg cI q P) H → va_S A s.heap H locs → lv_has ls 2 [] → W p l e rmX3_isNumber s m args below meth c H locs 0 0 (MQ below (qI D r (wPg cI q P) A) args s 0 0 A) (F0 m 46 ls [.int s0]) := by
    intro s0 H locs ls hF hP hS hl
    obtain ⟨hz, hF⟩ := zb_use hF
    exact rt_Z hx hb hr hlocks hS hP hz (so_use hF) dX3_isNumber_46
  have j45 : ∀ (H : Heap) (locs : List Loc) (ls : Array Slot), fX3_isNumber_j45 P = some r → va_P D vwCl (wPg cI q P) H → va_S A s.heap H locs → lv_has ls 2 [] → W p l e rmX3_isNumber s m args below meth c H locs 0 0 (MQ below (qI D r (wPg cI q P) A) args s 0 0 A) (F0 m 45 ls []) := by
    intro H locs ls hF hP hS hl
    refine lv_iconst (v := 0) hx hb dX3_isNumber_45 (by decide) ?_
    exact j46 0 _ _ _ hF hP hS (lv_sub hl [] rfl)
  have j41 : ∀ (H : Heap) (locs : List Loc) (ls : Array Slot), fX3_isNumber_j41 P = some r → va_P D vwCl (wPg cI q P) H → va_S A s.heap H locs → lv_has ls 2 [] → W p l e rmX3_isNumber s m args below meth c H locs 0 0 (MQ below (qI D r (wPg cI q P) A) args s 0 0 A) (F0 m 41 ls []) := by
    intro H locs ls hF hP hS hl
    refine lv_iconst (v := 1) hx hb dX3_isNumber_41 (by decide) ?_
    refine lv_goto (tgt := 46) hx hb dX3_isNumber_42 (by decide) ?_
    exact j46 1 _ _ _ hF hP hS (lv_sub hl [] rfl)
  refine lv_aload_n hx hb dX3_isNumber_0 rfl (lv_at hl 0 rfl) ?_
  refine va_get (ci := 3) (v := .int (P.2.2.2.2.2)) (C := RX3) (T := TX3) (N := 6) hx hb htb kin3 hown hK hP 0 (pPg_0 cI q P) rfl 5 (by decide) (htb _ bw1_201) (fun _ h9 => h9) rfl dX3_isNumber_1 ?_
  refine lv_aload_n hx hb dX3_isNumber_4 rfl (lv_at hl 0 rfl) ?_
  refine va_get (ci := 3) (v := .int (P.2.2.2.2.1)) (C := RX3) (T := TX3) (N := 6) hx hb htb kin3 hown hK hP 0 (pPg_0 cI q P) rfl 4 (by decide) (htb _ bw1_200) (fun _ h9 => h9) rfl dX3_isNumber_5 ?_
  refine lv_isub hx hb dX3_isNumber_8 ?_
  refine lv_topi (fun v1 ev1 => ?_)
  have hF := nm_use hF ev1
  refine lv_istore_n (lv' := [(1, .int v1), (0, .ref (q 0))]) hx hb dX3_isNumber_9 rfl hl (by decide) rfl (fun ls hl => ?_)
  refine lv_aload_n hx hb dX3_isNumber_10 rfl (lv_at hl 1 rfl) ?_
  refine va_get (ci := 3) (v := .int (P.2.2.2.1)) (C := RX3) (T := TX3) (N := 6) hx hb htb kin3 hown hK hP 0 (pPg_0 cI q P) rfl 3 (by decide) (htb _ bw1_199) (fun _ h9 => h9) rfl dX3_isNumber_11 ?_
  refine lv_iconst (v := 2) hx hb dX3_isNumber_14 (by decide) ?_
  refine lv_icmp_ne (tgt := 45) hx hb dX3_isNumber_15 (by decide) (fun c2 => ?_) (fun c2 => ?_)
  · have hF := it_f hF c2
    exact j45  _ _ _ hF hP hS (lv_sub hl [] rfl)
  · have hF := it_t hF c2
    refine lv_iload_n hx hb dX3_isNumber_18 rfl (lv_at hl 0 rfl) ?_
    refine lv_iconst (v := 4) hx hb dX3_isNumber_19 (by decide) ?_
    refine lv_icmp_gt (tgt := 45) hx hb dX3_isNumber_20 (by decide) (fun c3 => ?_) (fun c3 => ?_)
    · have hF := it_t hF c3
      exact j45  _ _ _ hF hP hS (lv_sub hl [] rfl)
    · have hF := it_f hF c3
      refine lv_iload_n hx hb dX3_isNumber_23 rfl (lv_at hl 0 rfl) ?_
      refine lv_iconst (v := 1) hx hb dX3_isNumber_24 (by decide) ?_
      refine lv_icmp_eq (tgt := 41) hx hb dX3_isNumber_25 (by decide) (fun c4 => ?_) (fun c4 => ?_)
      · have hF := it_t hF c4
        exact j41  _ _ _ hF hP hS (lv_sub hl [] rfl)
      · have hF := it_f hF c4
        refine lv_aload_n hx hb dX3_isNumber_28 rfl (lv_at hl 1 rfl) ?_
        refine lv_aload_n hx hb dX3_isNumber_29 rfl (lv_at hl 1 rfl) ?_
        refine va_get (ci := 3) (v := .int (P.2.2.2.2.1)) (C := RX3) (T := TX3) (N := 6) hx hb htb kin3 hown hK hP 0 (pPg_0 cI q P) rfl 4 (by decide) (htb _ bw1_200) (fun _ h9 => h9) rfl dX3_isNumber_30 ?_
        obtain ⟨r5, hr5, hF⟩ := bd_use hF
        refine cl_VI ⟨hx, hb, hml, hown, htb⟩ (kX3_signAt l D cS g cI q P (P.2.2.2.2.1) _ hr5) (cwV 1 htb (gX3_signAt bw3_33) rfl rfl rfl hdX3_signAt ⟨Nat.le_of_ble_eq_true rfl, Nat.le_of_ble_eq_true rfl⟩) hK (hDa _) hG hA hP hS (sr_Pg_Pg cI q P) hl.1 rfl 0 (pPg_0 _ _ _) rfl rfl (Nat.le_of_ble_eq_true rfl) dX3_isNumber_33 (fun H locs hP hS => ?_)
        refine lv_bipush (v := 48) hx hb dX3_isNumber_36 (by decide) ?_
        refine lv_icmp_eq (tgt := 45) hx hb dX3_isNumber_38 (by decide) (fun c6 => ?_) (fun c6 => ?_)
        · have hF := it_t hF c6
          exact j45  _ _ _ hF hP hS (lv_sub hl [] rfl)
        · have hF := it_f hF c6
          exact j41  _ _ _ hF hP hS (lv_sub hl [] rfl)
noncomputable def fX3_numberValue_l7  (P : Pg) : Nat → Int32 → Int32 → Option (Int32) := fun fu => Nat.rec (motive := fun _ => Int32 → Int32 → Option (Int32)) (fun _ _ => none) (fun _ ih => fun x1 x2 => if (P.2.2.2.2.2) ≤ x2 then (some x1) else ((fX3_signAt P x2).bind fun r3 => nm (((x1 * 10) + r3) - 48) fun v4 => nm (x2 + 1) fun v5 => ih v4 v5)) fu
theorem fX3_numberValue_l7_s  (P : Pg) (fu : Nat) (x1 : Int32) (x2 : Int32) : fX3_numberValue_l7 P (fu + 1) x1 x2 = (if (P.2.2.2.2.2) ≤ x2 then (some x1) else ((fX3_signAt P x2).bind fun r3 => nm (((x1 * 10) + r3) - 48) fun v4 => nm (x2 + 1) fun v5 => (fX3_numberValue_l7 P fu) v4 v5)) := rfl
theorem fX3_numberValue_l7_z  (P : Pg) (x1 : Int32) (x2 : Int32) : fX3_numberValue_l7 P 0 x1 x2 = none := rfl
noncomputable def fX3_numberValue  (P : Pg) : Option (Int32) := nm (P.2.2.2.2.1) fun v1 => fX3_numberValue_l7 P FU 0 v1
abbrev vX3_numberValue : List Cond := Cond.code yX3_numberValue cX3_numberValue 3 (some .int) :: BIG
theorem gX3_numberValue {own : String} {idx : Nat} (h : (Cond.methodLink own idx yX3_numberValue) ∈ BIG) : GoodIn BIG (wsV own idx RX3 yX3_numberValue vX3_numberValue) := gdV h bw3_116 bs15 bw1_10 bw3_117
def rmX3_numberValue : Room := { frames := 1, cells := 0, slots := 0, locals := 21 }
theorem hdX3_numberValue : yX3_numberValue.cls = RX3 ∧ yX3_numberValue.cls ≠ "java/lang/invoke/MethodHandle" ∧ yX3_numberValue.cls ≠ "java/lang/invoke/VarHandle" ∧ (parseMethodDescriptor yX3_numberValue.desc).map (fun d => d.parameters.length) = some 0 := by decide +kernel
set_option maxHeartbeats 4000000 in
set_option maxRecDepth 100000 in
theorem kX3_numberValue (l : Launch) (D : va_G) (cS : ClassId) (g : Nat → Nat) (cI : ClassId) (q : Nat → Nat) (P : Pg) (r : Int32) (hF : fX3_numberValue P = some r) : mI l yX3_numberValue vX3_numberValue rmX3_numberValue D cI cS g [.ref (q 0)] (wPg cI q P) r (wPg cI q P) := by
  refine st_I rfl (by decide) (Nat.le_of_ble_eq_true rfl) ?_
  intro p e s m args below meth c A ls hx hb hr hml hlocks hown hts hA hK hD0 hG hP hS hl
  have hown : s.vm.findClass RX3 = some m.cls := hown
  have hDa : ∀ P, va_D A (wPg cI q P) := fun P => hD0.adr rfl
  have htb : ∀ w ∈ BIG, w.before args s = true := fun w h => hts w (List.mem_cons_of_mem _ h)
  have hl : lv_has ls 3 [(0, .ref (q 0))] := hl
  have l7 : ∀ (fu : Nat) (x1 : Int32) (x2 : Int32) (H : Heap) (locs : List Loc) (ls : Array Slot), fX3_numberValue_l7 P fu x1 x2 = some r → va_P D vwCl (wPg cI q P) H → va_S A s.heap H locs → lv_has ls 3 [(0, .ref (q 0)), (1, .int x1), (2, .int x2)] → W p l e rmX3_numberValue s m args below meth c H locs 0 0 (MQ below (qI D r (wPg cI q P) A) args s 0 0 A) (F0 m 7 ls []) := by
    intro  fu
    induction fu with
    | zero => intro x1 x2 H locs ls hF; exact nn_use hF
    | succ fu ihn =>
      intro x1 x2 H locs ls hF hP hS hl 
      rw [fX3_numberValue_l7_s] at hF
      refine lv_iload_n hx hb dX3_numberValue_7 rfl (lv_at hl 2 rfl) ?_
      refine lv_aload_n hx hb dX3_numberValue_8 rfl (lv_at hl 0 rfl) ?_
      refine va_get (ci := 3) (v := .int (P.2.2.2.2.2)) (C := RX3) (T := TX3) (N := 6) hx hb htb kin3 hown hK hP 0 (pPg_0 cI q P) rfl 5 (by decide) (htb _ bw1_201) (fun _ h9 => h9) rfl dX3_numberValue_9 ?_
      refine lv_icmp_ge (tgt := 35) hx hb dX3_numberValue_12 (by decide) (fun c2 => ?_) (fun c2 => ?_)
      · have hF := it_t hF c2
        refine lv_iload_n hx hb dX3_numberValue_35 rfl (lv_at hl 1 rfl) ?_
        exact rt_I hx hb hr hlocks hS hP (so_use hF) dX3_numberValue_36
      · have hF := it_f hF c2
        refine lv_iload_n hx hb dX3_numberValue_15 rfl (lv_at hl 1 rfl) ?_
        refine lv_bipush (v := 10) hx hb dX3_numberValue_16 (by decide) ?_
        refine lv_imul hx hb dX3_numberValue_18 ?_
        refine lv_aload_n hx hb dX3_numberValue_19 rfl (lv_at hl 0 rfl) ?_
        refine lv_iload_n hx hb dX3_numberValue_20 rfl (lv_at hl 2 rfl) ?_
        obtain ⟨r3, hr3, hF⟩ := bd_use hF
        refine cl_VI ⟨hx, hb, hml, hown, htb⟩ (kX3_signAt l D cS g cI q P x2 _ hr3) (cwV 1 htb (gX3_signAt bw3_33) rfl rfl rfl hdX3_signAt ⟨Nat.le_of_ble_eq_true rfl, Nat.le_of_ble_eq_true rfl⟩) hK (hDa _) hG hA hP hS (sr_Pg_Pg cI q P) hl.1 rfl 0 (pPg_0 _ _ _) rfl rfl (Nat.le_of_ble_eq_true rfl) dX3_numberValue_21 (fun H locs hP hS => ?_)
        refine lv_iadd hx hb dX3_numberValue_24 ?_
        refine lv_bipush (v := 48) hx hb dX3_numberValue_25 (by decide) ?_
        refine lv_isub hx hb dX3_numberValue_27 ?_
        refine lv_topi (fun v4 ev4 => ?_)
        have hF := nm_use hF ev4
        refine lv_istore_n (lv' := [(1, .int v4), (0, .ref (q 0)), (2, .int x2)]) hx hb dX3_numberValue_28 rfl hl (by decide) rfl (fun ls hl => ?_)
        obtain ⟨v5, ev5⟩ : ∃ z : Int32, z = x2 + 1 := ⟨_, rfl⟩
        refine lv_iinc (v := v5) (lv' := [(2, .int v5), (1, .int v4), (0, .ref (q 0))]) hx hb dX3_numberValue_29 hl (k := 2) rfl (by rw [ev5]; rfl) (by decide) rfl (fun ls hl => ?_)
        have hF := nm_use hF ev5
        refine lv_goto (tgt := 7) hx hb dX3_numberValue_32 (by decide) ?_
        exact ihn v4 v5 _ _ _ hF hP hS (lv_sub hl [2, 1, 0] rfl)
  refine lv_iconst (v := 0) hx hb dX3_numberValue_0 (by decide) ?_
  refine lv_istore_n (lv' := [(1, .int 0), (0, .ref (q 0))]) hx hb dX3_numberValue_1 rfl hl (by decide) rfl (fun ls hl => ?_)
  refine lv_aload_n hx hb dX3_numberValue_2 rfl (lv_at hl 1 rfl) ?_
  refine va_get (ci := 3) (v := .int (P.2.2.2.2.1)) (C := RX3) (T := TX3) (N := 6) hx hb htb kin3 hown hK hP 0 (pPg_0 cI q P) rfl 4 (by decide) (htb _ bw1_200) (fun _ h9 => h9) rfl dX3_numberValue_3 ?_
  refine lv_topi (fun v1 ev1 => ?_)
  have hF := nm_use hF ev1
  refine lv_istore_n (lv' := [(2, .int v1), (1, .int 0), (0, .ref (q 0))]) hx hb dX3_numberValue_6 rfl hl (by decide) rfl (fun ls hl => ?_)
  refine l7   _ 0 v1 _ _ _ hF hP hS (lv_sub hl [2, 1, 0] rfl)
noncomputable def fX3_readNumbers_l24  (x2 : Int32) (kk : Pg → Option (Int32 × Pg)) : Nat → Pg → Int32 → Option (Int32 × Pg) := fun fu => Nat.rec (motive := fun _ => Pg → Int32 → Option (Int32 × Pg)) (fun _ _ => none) (fun _ ih => fun P x3 => if x2 ≤ x3 then (kk P) else (if 4 ≤ x3 then (kk P) else ((fX3_readToken P).bind fun M4 => (fX3_isNumber M4).bind fun r5 => if r5 = 0 then (Zb 0 (some (0, M4))) else ((fX3_numberValue M4).bind fun r7 => Wr (M4.2.1) 4 x3 r7 fun f8 => nm ((M4.1, f8, M4.2.2)) fun M9 => nm (x3 + 1) fun v10 => ih M9 v10)))) fu
theorem fX3_readNumbers_l24_s  (x2 : Int32) (kk : Pg → Option (Int32 × Pg)) (fu : Nat) (P : Pg) (x3 : Int32) : fX3_readNumbers_l24 x2 kk (fu + 1) P x3 = (if x2 ≤ x3 then (kk P) else (if 4 ≤ x3 then (kk P) else ((fX3_readToken P).bind fun M4 => (fX3_isNumber M4).bind fun r5 => if r5 = 0 then (Zb 0 (some (0, M4))) else ((fX3_numberValue M4).bind fun r7 => Wr (M4.2.1) 4 x3 r7 fun f8 => nm ((M4.1, f8, M4.2.2)) fun M9 => nm (x3 + 1) fun v10 => (fX3_readNumbers_l24 x2 kk fu) M9 v10)))) := rfl
theorem fX3_readNumbers_l24_z  (x2 : Int32) (kk : Pg → Option (Int32 × Pg)) (P : Pg) (x3 : Int32) : fX3_readNumbers_l24 x2 kk 0 P x3 = none := rfl
noncomputable def fX3_readNumbers_j21  (P : Pg) (s0 : Int32) : Option (Int32 × Pg) := fX3_readNumbers_l24 s0 (fun M11 => Zb 1 (some (1, M11))) FU P 0
noncomputable def fX3_readNumbers_j20  (P : Pg) : Option (Int32 × Pg) := fX3_readNumbers_j21 P 0
noncomputable def fX3_readNumbers  (P : Pg) (x1 : Int32) : Option (Int32 × Pg) := if x1 < 0 then (fX3_readNumbers_j20 P) else (if 7 ≤ x1 then (fX3_readNumbers_j20 P) else (Rd (fun j => cmdS.getD j 0) 7 x1 fun v13 => fX3_readNumbers_j21 P v13))
abbrev vX3_readNumbers : List Cond := Cond.code yX3_readNumbers cX3_readNumbers 4 (some .boolean) :: BIG
theorem gX3_readNumbers {own : String} {idx : Nat} (h : (Cond.methodLink own idx yX3_readNumbers) ∈ BIG) : GoodIn BIG (wsV own idx RX3 yX3_readNumbers vX3_readNumbers) := gdV h bw3_106 bs13 bw1_10 bw3_107
def rmX3_readNumbers : Room := { frames := 3, cells := 0, slots := 0, locals := 63 }
theorem hdX3_readNumbers : yX3_readNumbers.cls = RX3 ∧ yX3_readNumbers.cls ≠ "java/lang/invoke/MethodHandle" ∧ yX3_readNumbers.cls ≠ "java/lang/invoke/VarHandle" ∧ (parseMethodDescriptor yX3_readNumbers.desc).map (fun d => d.parameters.length) = some 1 := by decide +kernel
set_option maxHeartbeats 4000000 in
set_option maxRecDepth 100000 in
theorem kX3_readNumbers (l : Launch) (D : va_G) (cS : ClassId) (g : Nat → Nat) (cI : ClassId) (q : Nat → Nat) (P : Pg) (x1 : Int32) (r : Int32) (M' : Pg) (hF : fX3_readNumbers P x1 = some (r, M')) : mI l yX3_readNumbers vX3_readNumbers rmX3_readNumbers D cI cS g [.ref (q 0), .int x1] (wPg cI q P) r (wPg cI q (M')) := by
  refine st_I rfl (by decide) (Nat.le_of_ble_eq_true rfl) ?_
  intro p e s m args below meth c A ls hx hb hr hml hlocks hown hts hA hK hD0 hG hP hS hl
  have hown : s.vm.findClass RX3 = some m.cls := hown
  have hDa : ∀ P, va_D A (wPg cI q P) := fun P => hD0.adr rfl
  have htb : ∀ w ∈ BIG, w.before args s = true := fun w h => hts w (List.mem_cons_of_mem _ h)
  have hl : lv_has ls 4 [(0, .ref (q 0)), (1, .int x1)] := hl
  have l24 : ∀ (x2 : Int32) (kk : Pg → Option (Int32 × Pg)) (fu : Nat) (P : Pg) (x3 : Int32) (H : Heap) (locs : List Loc) (ls : Array Slot), fX3_readNumbers_l24 x2 kk fu P x3 = some (r, M') → va_P D vwCl (wPg cI q P) H → va_S A s.heap H locs → lv_has ls 4 [(0, .ref (q 0)), (2, .int x2), (3, .int x3)] → (∀ (P : Pg) (H : Heap) (locs : List Loc) (ls : Array Slot), kk P = some (r, M') → va_P D vwCl (wPg cI q P) H → va_S A s.heap H locs → lv_has ls 4 [] → W p l e rmX3_readNumbers s m args below meth c H locs 0 0 (MQ below (qI D r (wPg cI q (M')) A) args s 0 0 A) (F0 m 67 ls [])) → W p l e rmX3_readNumbers s m args below meth c H locs 0 0 (MQ below (qI D r (wPg cI q (M')) A) args s 0 0 A) (F0 m 24 ls []) := by
    intro x2 kk fu
    induction fu with
    | zero => intro P x3 H locs ls hF; exact nn_use hF
    | succ fu ihn =>
      intro P x3 H locs ls hF hP hS hl after
      rw [fX3_readNumbers_l24_s] at hF
      refine lv_iload_n hx hb dX3_readNumbers_24 rfl (lv_at hl 2 rfl) ?_
      refine lv_iload_n hx hb dX3_readNumbers_25 rfl (lv_at hl 1 rfl) ?_
      refine lv_icmp_ge (tgt := 67) hx hb dX3_readNumbers_26 (by decide) (fun c2 => ?_) (fun c2 => ?_)
      · have hF := it_t hF c2
        exact after P _ _ _ hF hP hS (lv_sub hl [] rfl)
      · have hF := it_f hF c2
        refine lv_iload_n hx hb dX3_readNumbers_29 rfl (lv_at hl 2 rfl) ?_
        refine lv_aload_n hx hb dX3_readNumbers_30 rfl (lv_at hl 0 rfl) ?_
        refine va_get (ci := 3) (v := .ref (q 2)) (C := RX3) (T := TX3) (N := 6) hx hb htb kin3 hown hK hP 0 (pPg_0 cI q P) rfl 1 (by decide) (htb _ bw1_197) (fun _ h9 => h9) rfl dX3_readNumbers_31 ?_
        refine va_alen (v := 4) hx hb hK hP 2 0 (pPg_2 cI q P) rfl rfl dX3_readNumbers_34 ?_
        refine lv_icmp_ge (tgt := 67) hx hb dX3_readNumbers_35 (by decide) (fun c3 => ?_) (fun c3 => ?_)
        · have hF := it_t hF c3
          exact after P _ _ _ hF hP hS (lv_sub hl [] rfl)
        · have hF := it_f hF c3
          refine lv_aload_n hx hb dX3_readNumbers_38 rfl (lv_at hl 0 rfl) ?_
          obtain ⟨M4, hM4, hF⟩ := bd_use hF
          refine cl_VV ⟨hx, hb, hml, hown, htb⟩ (kX3_readToken l D cS g cI q P  _ hM4) (cwV 0 htb (gX3_readToken bw3_29) rfl rfl rfl hdX3_readToken ⟨Nat.le_of_ble_eq_true rfl, Nat.le_of_ble_eq_true rfl⟩) hK (hDa _) hG hA hP hS (sg_Pg_Pg cI q P M4) hl.1 rfl 0 (pPg_0 _ _ _) rfl rfl (Nat.le_of_ble_eq_true rfl) dX3_readNumbers_39 (fun H locs hP hS => ?_)
          refine lv_aload_n hx hb dX3_readNumbers_42 rfl (lv_at hl 0 rfl) ?_
          obtain ⟨r5, hr5, hF⟩ := bd_use hF
          refine cl_VI ⟨hx, hb, hml, hown, htb⟩ (kX3_isNumber l D cS g cI q M4  _ hr5) (cwV 0 htb (gX3_isNumber bw3_110) rfl rfl rfl hdX3_isNumber ⟨Nat.le_of_ble_eq_true rfl, Nat.le_of_ble_eq_true rfl⟩) hK (hDa _) hG hA hP hS (sr_Pg_Pg cI q M4) hl.1 rfl 0 (pPg_0 _ _ _) rfl rfl (Nat.le_of_ble_eq_true rfl) dX3_readNumbers_43 (fun H locs hP hS => ?_)
          refine lv_if_ne (tgt := 51) hx hb dX3_readNumbers_46 (by decide) (fun c6 => ?_) (fun c6 => ?_)
          · have hF := it_f hF c6
            refine lv_aload_n hx hb dX3_readNumbers_51 rfl (lv_at hl 0 rfl) ?_
            refine va_get (ci := 3) (v := .ref (q 2)) (C := RX3) (T := TX3) (N := 6) hx hb htb kin3 hown hK hP 0 (pPg_0 cI q M4) rfl 1 (by decide) (htb _ bw1_197) (fun _ h9 => h9) rfl dX3_readNumbers_52 ?_
            refine lv_iload_n hx hb dX3_readNumbers_55 rfl (lv_at hl 2 rfl) ?_
            refine lv_aload_n hx hb dX3_readNumbers_56 rfl (lv_at hl 0 rfl) ?_
            obtain ⟨r7, hr7, hF⟩ := bd_use hF
            refine cl_VI ⟨hx, hb, hml, hown, htb⟩ (kX3_numberValue l D cS g cI q M4  _ hr7) (cwV 0 htb (gX3_numberValue bw3_114) rfl rfl rfl hdX3_numberValue ⟨Nat.le_of_ble_eq_true rfl, Nat.le_of_ble_eq_true rfl⟩) hK (hDa _) hG hA hP hS (sr_Pg_Pg cI q M4) hl.1 rfl 0 (pPg_0 _ _ _) rfl rfl (Nat.le_of_ble_eq_true rfl) dX3_readNumbers_57 (fun H locs hP hS => ?_)
            obtain ⟨hi, hF⟩ := wr_use hF
            refine va_iast hx hb hK hP (hDa _) hS 2 0 (pPg_2 cI q M4) rfl hi dX3_readNumbers_60 (fun H locs hP _ hS => ?_)
            obtain ⟨M9, eM9⟩ : ∃ z : Pg, z = (M4.1, (upd (M4.2.1) (x3 : Int32).toNatClampNeg r7), M4.2.2) := ⟨_, rfl⟩
            have hF := nm_use hF eM9
            have hP : va_P D vwCl (wPg cI q M9) H := by rw [eM9]; exact hP
            obtain ⟨v10, ev10⟩ : ∃ z : Int32, z = x3 + 1 := ⟨_, rfl⟩
            refine lv_iinc (v := v10) (lv' := [(3, .int v10), (0, .ref (q 0)), (2, .int x2)]) hx hb dX3_readNumbers_61 hl (k := 2) rfl (by rw [ev10]; rfl) (by decide) rfl (fun ls hl => ?_)
            have hF := nm_use hF ev10
            refine lv_goto (tgt := 24) hx hb dX3_readNumbers_64 (by decide) ?_
            exact ihn M9 v10 _ _ _ hF hP hS (lv_sub hl [1, 2, 0] rfl) after
          · have hF := it_t hF c6
            refine lv_iconst (v := 0) hx hb dX3_readNumbers_49 (by decide) ?_
            obtain ⟨hz, hF⟩ := zb_use hF
            obtain ⟨er, eM⟩ := pr_use hF
            exact rt_Z hx hb hr hlocks hS (by rw [← eM]; exact hP) hz er dX3_readNumbers_50
  have j21 : ∀ (P : Pg) (s0 : Int32) (H : Heap) (locs : List Loc) (ls : Array Slot), fX3_readNumbers_j21 P s0 = some (r, M') → va_P D vwCl (wPg cI q P) H → va_S A s.heap H locs → lv_has ls 4 [(0, .ref (q 0))] → W p l e rmX3_readNumbers s m args below meth c H locs 0 0 (MQ below (qI D r (wPg cI q (M')) A) args s 0 0 A) (F0 m 21 ls [.int s0]) := by
    intro P s0 H locs ls hF hP hS hl
    refine lv_istore_n (lv' := [(2, .int s0), (0, .ref (q 0))]) hx hb dX3_readNumbers_21 rfl hl (by decide) rfl (fun ls hl => ?_)
    refine lv_iconst (v := 0) hx hb dX3_readNumbers_22 (by decide) ?_
    refine lv_istore_n (lv' := [(3, .int 0), (2, .int s0), (0, .ref (q 0))]) hx hb dX3_readNumbers_23 rfl hl (by decide) rfl (fun ls hl => ?_)
    refine l24 s0 _ _ P 0 _ _ _ hF hP hS (lv_sub hl [2, 1, 0] rfl) ?_
    · intro M11 H locs ls hF hP hS hl
      refine lv_iconst (v := 1) hx hb dX3_readNumbers_67 (by decide) ?_
      obtain ⟨hz, hF⟩ := zb_use hF
      obtain ⟨er, eM⟩ := pr_use hF
      exact rt_Z hx hb hr hlocks hS (by rw [← eM]; exact hP) hz er dX3_readNumbers_68
  have j20 : ∀ (P : Pg) (H : Heap) (locs : List Loc) (ls : Array Slot), fX3_readNumbers_j20 P = some (r, M') → va_P D vwCl (wPg cI q P) H → va_S A s.heap H locs → lv_has ls 4 [(0, .ref (q 0))] → W p l e rmX3_readNumbers s m args below meth c H locs 0 0 (MQ below (qI D r (wPg cI q (M')) A) args s 0 0 A) (F0 m 20 ls []) := by
    intro P H locs ls hF hP hS hl
    refine lv_iconst (v := 0) hx hb dX3_readNumbers_20 (by decide) ?_
    exact j21 P 0 _ _ _ hF hP hS (lv_sub hl [0] rfl)
  refine lv_iload_n hx hb dX3_readNumbers_0 rfl (lv_at hl 1 rfl) ?_
  refine lv_if_lt (tgt := 20) hx hb dX3_readNumbers_1 (by decide) (fun c1 => ?_) (fun c1 => ?_)
  · have hF := it_t hF c1
    exact j20 P _ _ _ hF hP hS (lv_sub hl [0] rfl)
  · have hF := it_f hF c1
    refine lv_iload_n hx hb dX3_readNumbers_4 rfl (lv_at hl 1 rfl) ?_
    refine va_getsN hx hb hG.2.2.1.1 hS hown (va_Nw.use rfl hG.2.2.2.2.2.2.2.2.1) (fun _ h9 => h9) dX3_readNumbers_5 ?_
    refine va_tlen (v := 7) hx hb hG.2.2.1.2 hS rfl dX3_readNumbers_8 ?_
    refine lv_icmp_ge (tgt := 20) hx hb dX3_readNumbers_9 (by decide) (fun c12 => ?_) (fun c12 => ?_)
    · have hF := it_t hF c12
      exact j20 P _ _ _ hF hP hS (lv_sub hl [0] rfl)
    · have hF := it_f hF c12
      refine va_getsN hx hb hG.2.2.1.1 hS hown (va_Nw.use rfl hG.2.2.2.2.2.2.2.2.1) (fun _ h9 => h9) dX3_readNumbers_12 ?_
      refine lv_iload_n hx hb dX3_readNumbers_15 rfl (lv_at hl 1 rfl) ?_
      obtain ⟨hi, hF⟩ := rd_use hF
      refine va_ti hx hb hG.2.2.1.2 hS hi rfl dX3_readNumbers_16 ?_
      refine lv_topi (x := (fun j => cmdS.getD j 0) (x1 : Int32).toNatClampNeg) (fun v13 ev13 => ?_)
      have hF := hF v13 ev13
      refine lv_goto (tgt := 21) hx hb dX3_readNumbers_17 (by decide) ?_
      exact j21 P v13 _ _ _ hF hP hS (lv_sub hl [0] rfl)
noncomputable def fX3_isWord_l20 (i : Nat) (P : Pg) : Nat → Int32 → Option (Int32) := fun fu => Nat.rec (motive := fun _ => Int32 → Option (Int32)) (fun _ => none) (fun _ ih => fun x2 => if (nI (lenS.getD i 0)) ≤ x2 then (Zb 1 (some 1)) else ((fX3_signAt P ((P.2.2.2.2.1) + x2)).bind fun r3 => Rd (chS i) (lenS.getD i 0) x2 fun v4 => if r3 = v4 then (nm (x2 + 1) fun v6 => ih v6) else (Zb 0 (some 0)))) fu
theorem fX3_isWord_l20_s (i : Nat) (P : Pg) (fu : Nat) (x2 : Int32) : fX3_isWord_l20 i P (fu + 1) x2 = (if (nI (lenS.getD i 0)) ≤ x2 then (Zb 1 (some 1)) else ((fX3_signAt P ((P.2.2.2.2.1) + x2)).bind fun r3 => Rd (chS i) (lenS.getD i 0) x2 fun v4 => if r3 = v4 then (nm (x2 + 1) fun v6 => (fX3_isWord_l20 i P fu) v6) else (Zb 0 (some 0)))) := rfl
theorem fX3_isWord_l20_z (i : Nat) (P : Pg) (x2 : Int32) : fX3_isWord_l20 i P 0 x2 = none := rfl
noncomputable def fX3_isWord (i : Nat) (P : Pg) : Option (Int32) := if (nI (lenS.getD i 0)) = ((P.2.2.2.2.2) - (P.2.2.2.2.1)) then (fX3_isWord_l20 i P FU 0) else (Zb 0 (some 0))
abbrev vX3_isWord : List Cond := Cond.code yX3_isWord cX3_isWord 3 (some .boolean) :: BIG
theorem gX3_isWord {own : String} {idx : Nat} (h : (Cond.methodLink own idx yX3_isWord) ∈ BIG) : GoodIn BIG (wsV own idx RX3 yX3_isWord vX3_isWord) := gdV h bw3_48 bs12 bw1_10 bw3_49
def rmX3_isWord : Room := { frames := 4, cells := 0, slots := 0, locals := 85 }
theorem hdX3_isWord : yX3_isWord.cls = RX3 ∧ yX3_isWord.cls ≠ "java/lang/invoke/MethodHandle" ∧ yX3_isWord.cls ≠ "java/lang/invoke/VarHandle" ∧ (parseMethodDescriptor yX3_isWord.desc).map (fun d => d.parameters.length) = some 1 := by decide +kernel
set_option maxHeartbeats 4000000 in
set_option maxRecDepth 100000 in
theorem kX3_isWord (l : Launch) (D : va_G) (cS : ClassId) (g : Nat → Nat) (cI : ClassId) (q : Nat → Nat) (i : Nat) (hi : i < 7) (P : Pg) (r : Int32) (hF : fX3_isWord i P = some r) : mI l yX3_isWord vX3_isWord rmX3_isWord D cI cS g [.ref (q 0), .ref (g (3 + i))] (wPg cI q P) r (wPg cI q P) := by
  refine st_I rfl (by decide) (Nat.le_of_ble_eq_true rfl) ?_
  intro p e s m args below meth c A ls hx hb hr hml hlocks hown hts hA hK hD0 hG hP hS hl
  have hown : s.vm.findClass RX3 = some m.cls := hown
  have hDa : ∀ P, va_D A (wPg cI q P) := fun P => hD0.adr rfl
  have htb : ∀ w ∈ BIG, w.before args s = true := fun w h => hts w (List.mem_cons_of_mem _ h)
  have hl : lv_has ls 3 [(0, .ref (q 0)), (1, .ref (g (3 + i)))] := hl
  have l20 : ∀ (fu : Nat) (x2 : Int32) (H : Heap) (locs : List Loc) (ls : Array Slot), fX3_isWord_l20 i P fu x2 = some r → va_P D vwCl (wPg cI q P) H → va_S A s.heap H locs → lv_has ls 3 [(0, .ref (q 0)), (1, .ref (g (3 + i))), (2, .int x2)] → W p l e rmX3_isWord s m args below meth c H locs 0 0 (MQ below (qI D r (wPg cI q P) A) args s 0 0 A) (F0 m 20 ls []) := by
    intro  fu
    induction fu with
    | zero => intro x2 H locs ls hF; exact nn_use hF
    | succ fu ihn =>
      intro x2 H locs ls hF hP hS hl 
      rw [fX3_isWord_l20_s] at hF
      refine lv_iload_n hx hb dX3_isWord_20 rfl (lv_at hl 2 rfl) ?_
      refine lv_aload_n hx hb dX3_isWord_21 rfl (lv_at hl 1 rfl) ?_
      refine cl_KI ⟨hx, hb, hml, hown, htb⟩ (kJ0_length l D cS g cI i hi) (cwV 0 htb (gJ0_length bw3_50) rfl rfl rfl hdJ0_length ⟨Nat.le_of_ble_eq_true rfl, Nat.le_of_ble_eq_true rfl⟩) hK (hDa _) hG hA hP hS hl.1 rfl (vk_recv (i := i) (adK := fun i => g (3 + i)) hG.2.2.2.2.1 hi hS) rfl (Nat.le_of_ble_eq_true rfl) dX3_isWord_22 (fun H locs hP hS => ?_)
      refine lv_icmp_ge (tgt := 54) hx hb dX3_isWord_25 (by decide) (fun c2 => ?_) (fun c2 => ?_)
      · have hF := it_t hF c2
        refine lv_iconst (v := 1) hx hb dX3_isWord_54 (by decide) ?_
        obtain ⟨hz, hF⟩ := zb_use hF
        exact rt_Z hx hb hr hlocks hS hP hz (so_use hF) dX3_isWord_55
      · have hF := it_f hF c2
        refine lv_aload_n hx hb dX3_isWord_28 rfl (lv_at hl 0 rfl) ?_
        refine lv_aload_n hx hb dX3_isWord_29 rfl (lv_at hl 0 rfl) ?_
        refine va_get (ci := 3) (v := .int (P.2.2.2.2.1)) (C := RX3) (T := TX3) (N := 6) hx hb htb kin3 hown hK hP 0 (pPg_0 cI q P) rfl 4 (by decide) (htb _ bw1_200) (fun _ h9 => h9) rfl dX3_isWord_30 ?_
        refine lv_iload_n hx hb dX3_isWord_33 rfl (lv_at hl 2 rfl) ?_
        refine lv_iadd hx hb dX3_isWord_34 ?_
        obtain ⟨r3, hr3, hF⟩ := bd_use hF
        refine cl_VI ⟨hx, hb, hml, hown, htb⟩ (kX3_signAt l D cS g cI q P ((P.2.2.2.2.1) + x2) _ hr3) (cwV 1 htb (gX3_signAt bw3_33) rfl rfl rfl hdX3_signAt ⟨Nat.le_of_ble_eq_true rfl, Nat.le_of_ble_eq_true rfl⟩) hK (hDa _) hG hA hP hS (sr_Pg_Pg cI q P) hl.1 rfl 0 (pPg_0 _ _ _) rfl rfl (Nat.le_of_ble_eq_true rfl) dX3_isWord_35 (fun H locs hP hS => ?_)
        refine lv_aload_n hx hb dX3_isWord_38 rfl (lv_at hl 1 rfl) ?_
        refine lv_iload_n hx hb dX3_isWord_39 rfl (lv_at hl 2 rfl) ?_
        obtain ⟨hi1, hF⟩ := rd_use hF
        refine cl_KI ⟨hx, hb, hml, hown, htb⟩ (kJ0_charX l D cS g cI i hi x2 hi1) (cwV 1 htb (gJ0_charAt bw3_60) rfl rfl rfl hdJ0_charAt ⟨Nat.le_of_ble_eq_true rfl, Nat.le_of_ble_eq_true rfl⟩) hK (hDa _) hG hA hP hS hl.1 rfl (vk_recv (i := i) (adK := fun i => g (3 + i)) hG.2.2.2.2.1 hi hS) rfl (Nat.le_of_ble_eq_true rfl) dX3_isWord_40 (fun H locs hP hS => ?_)
        refine lv_topi (x := chS i (x2 : Int32).toNatClampNeg) (fun v4 ev4 => ?_)
        have hF := hF v4 ev4
        refine lv_icmp_eq (tgt := 48) hx hb dX3_isWord_43 (by decide) (fun c5 => ?_) (fun c5 => ?_)
        · have hF := it_t hF c5
          obtain ⟨v6, ev6⟩ : ∃ z : Int32, z = x2 + 1 := ⟨_, rfl⟩
          refine lv_iinc (v := v6) (lv' := [(2, .int v6), (0, .ref (q 0)), (1, .ref (g (3 + i)))]) hx hb dX3_isWord_48 hl (k := 2) rfl (by rw [ev6]; rfl) (by decide) rfl (fun ls hl => ?_)
          have hF := nm_use hF ev6
          refine lv_goto (tgt := 20) hx hb dX3_isWord_51 (by decide) ?_
          exact ihn v6 _ _ _ hF hP hS (lv_sub hl [1, 2, 0] rfl)
        · have hF := it_f hF c5
          refine lv_iconst (v := 0) hx hb dX3_isWord_46 (by decide) ?_
          obtain ⟨hz, hF⟩ := zb_use hF
          exact rt_Z hx hb hr hlocks hS hP hz (so_use hF) dX3_isWord_47
  refine lv_aload_n hx hb dX3_isWord_0 rfl (lv_at hl 1 rfl) ?_
  refine cl_KI ⟨hx, hb, hml, hown, htb⟩ (kJ0_length l D cS g cI i hi) (cwV 0 htb (gJ0_length bw3_50) rfl rfl rfl hdJ0_length ⟨Nat.le_of_ble_eq_true rfl, Nat.le_of_ble_eq_true rfl⟩) hK (hDa _) hG hA hP hS hl.1 rfl (vk_recv (i := i) (adK := fun i => g (3 + i)) hG.2.2.2.2.1 hi hS) rfl (Nat.le_of_ble_eq_true rfl) dX3_isWord_1 (fun H locs hP hS => ?_)
  refine lv_aload_n hx hb dX3_isWord_4 rfl (lv_at hl 0 rfl) ?_
  refine va_get (ci := 3) (v := .int (P.2.2.2.2.2)) (C := RX3) (T := TX3) (N := 6) hx hb htb kin3 hown hK hP 0 (pPg_0 cI q P) rfl 5 (by decide) (htb _ bw1_201) (fun _ h9 => h9) rfl dX3_isWord_5 ?_
  refine lv_aload_n hx hb dX3_isWord_8 rfl (lv_at hl 0 rfl) ?_
  refine va_get (ci := 3) (v := .int (P.2.2.2.2.1)) (C := RX3) (T := TX3) (N := 6) hx hb htb kin3 hown hK hP 0 (pPg_0 cI q P) rfl 4 (by decide) (htb _ bw1_200) (fun _ h9 => h9) rfl dX3_isWord_9 ?_
  refine lv_isub hx hb dX3_isWord_12 ?_
  refine lv_icmp_eq (tgt := 18) hx hb dX3_isWord_13 (by decide) (fun c1 => ?_) (fun c1 => ?_)
  · have hF := it_t hF c1
    refine lv_iconst (v := 0) hx hb dX3_isWord_18 (by decide) ?_
    refine lv_istore_n (lv' := [(2, .int 0), (0, .ref (q 0)), (1, .ref (g (3 + i)))]) hx hb dX3_isWord_19 rfl hl (by decide) rfl (fun ls hl => ?_)
    refine l20   _ 0 _ _ _ hF hP hS (lv_sub hl [1, 2, 0] rfl)
  · have hF := it_f hF c1
    refine lv_iconst (v := 0) hx hb dX3_isWord_16 (by decide) ?_
    obtain ⟨hz, hF⟩ := zb_use hF
    exact rt_Z hx hb hr hlocks hS hP hz (so_use hF) dX3_isWord_17
noncomputable def fX3_commandWord_j81  (P : Pg) (s0 : Int32) : Option (Int32) := some s0
noncomputable def fX3_commandWord  (P : Pg) : Option (Int32) := (fX3_isWord 0 P).bind fun r1 => if r1 = 0 then ((fX3_isWord 1 P).bind fun r3 => if r3 = 0 then ((fX3_isWord 2 P).bind fun r5 => if r5 = 0 then ((fX3_isWord 3 P).bind fun r7 => if r7 = 0 then ((fX3_isWord 4 P).bind fun r9 => if r9 = 0 then ((fX3_isWord 5 P).bind fun r11 => if r11 = 0 then ((fX3_isWord 6 P).bind fun r13 => if r13 = 0 then (fX3_commandWord_j81 P (-1)) else (fX3_commandWord_j81 P 6)) else (some 5)) else (some 4)) else (some 3)) else (some 2)) else (some 1)) else (some 0)
abbrev vX3_commandWord : List Cond := Cond.code yX3_commandWord cX3_commandWord 1 (some .int) :: BIG
theorem gX3_commandWord {own : String} {idx : Nat} (h : (Cond.methodLink own idx yX3_commandWord) ∈ BIG) : GoodIn BIG (wsV own idx RX3 yX3_commandWord vX3_commandWord) := gdV h bw3_43 bs11 bw1_10 bw3_44
def rmX3_commandWord : Room := { frames := 5, cells := 0, slots := 0, locals := 107 }
theorem hdX3_commandWord : yX3_commandWord.cls = RX3 ∧ yX3_commandWord.cls ≠ "java/lang/invoke/MethodHandle" ∧ yX3_commandWord.cls ≠ "java/lang/invoke/VarHandle" ∧ (parseMethodDescriptor yX3_commandWord.desc).map (fun d => d.parameters.length) = some 0 := by decide +kernel
set_option maxHeartbeats 4000000 in
set_option maxRecDepth 100000 in
theorem kX3_commandWord (l : Launch) (D : va_G) (cS : ClassId) (g : Nat → Nat) (cI : ClassId) (q : Nat → Nat) (P : Pg) (r : Int32) (hF : fX3_commandWord P = some r) : mI l yX3_commandWord vX3_commandWord rmX3_commandWord D cI cS g [.ref (q 0)] (wPg cI q P) r (wPg cI q P) := by
  refine st_I rfl (by decide) (Nat.le_of_ble_eq_true rfl) ?_
  intro p e s m args below meth c A ls hx hb hr hml hlocks hown hts hA hK hD0 hG hP hS hl
  have hown : s.vm.findClass RX3 = some m.cls := hown
  have hDa : ∀ P, va_D A (wPg cI q P) := fun P => hD0.adr rfl
  have htb : ∀ w ∈ BIG, w.before args s = true := fun w h => hts w (List.mem_cons_of_mem _ h)
  have hl : lv_has ls 1 [(0, .ref (q 0))] := hl
  have j81 : ∀ (s0 : Int32) (H : Heap) (locs : List Loc) (ls : Array Slot), fX3_commandWord_j81 P s0 = some r → va_P D vwCl (wPg cI q P) H → va_S A s.heap H locs → lv_has ls 1 [] → W p l e rmX3_commandWord s m args below meth c H locs 0 0 (MQ below (qI D r (wPg cI q P) A) args s 0 0 A) (F0 m 81 ls [.int s0]) := by
    intro s0 H locs ls hF hP hS hl
    exact rt_I hx hb hr hlocks hS hP (so_use hF) dX3_commandWord_81
  refine lv_aload_n hx hb dX3_commandWord_0 rfl (lv_at hl 0 rfl) ?_
  refine va_ldcS hx hb hown (hG.2.2.2.2.2.1 0 (by decide)) dX3_commandWord_1 ?_
  obtain ⟨r1, hr1, hF⟩ := bd_use hF
  refine cl_VI ⟨hx, hb, hml, hown, htb⟩ (kX3_isWord l D cS g cI q 0 (by decide) P  _ hr1) (cwV 1 htb (gX3_isWord bw3_46) rfl rfl rfl hdX3_isWord ⟨Nat.le_of_ble_eq_true rfl, Nat.le_of_ble_eq_true rfl⟩) hK (hDa _) hG hA hP hS (sr_Pg_Pg cI q P) hl.1 rfl 0 (pPg_0 _ _ _) rfl rfl (Nat.le_of_ble_eq_true rfl) dX3_commandWord_3 (fun H locs hP hS => ?_)
  refine lv_if_eq (tgt := 11) hx hb dX3_commandWord_6 (by decide) (fun c2 => ?_) (fun c2 => ?_)
  · have hF := it_t hF c2
    refine lv_aload_n hx hb dX3_commandWord_11 rfl (lv_at hl 0 rfl) ?_
    refine va_ldcS hx hb hown (hG.2.2.2.2.2.1 1 (by decide)) dX3_commandWord_12 ?_
    obtain ⟨r3, hr3, hF⟩ := bd_use hF
    refine cl_VI ⟨hx, hb, hml, hown, htb⟩ (kX3_isWord l D cS g cI q 1 (by decide) P  _ hr3) (cwV 1 htb (gX3_isWord bw3_46) rfl rfl rfl hdX3_isWord ⟨Nat.le_of_ble_eq_true rfl, Nat.le_of_ble_eq_true rfl⟩) hK (hDa _) hG hA hP hS (sr_Pg_Pg cI q P) hl.1 rfl 0 (pPg_0 _ _ _) rfl rfl (Nat.le_of_ble_eq_true rfl) dX3_commandWord_14 (fun H locs hP hS => ?_)
    refine lv_if_eq (tgt := 22) hx hb dX3_commandWord_17 (by decide) (fun c4 => ?_) (fun c4 => ?_)
    · have hF := it_t hF c4
      refine lv_aload_n hx hb dX3_commandWord_22 rfl (lv_at hl 0 rfl) ?_
      refine va_ldcS hx hb hown (hG.2.2.2.2.2.1 2 (by decide)) dX3_commandWord_23 ?_
      obtain ⟨r5, hr5, hF⟩ := bd_use hF
      refine cl_VI ⟨hx, hb, hml, hown, htb⟩ (kX3_isWord l D cS g cI q 2 (by decide) P  _ hr5) (cwV 1 htb (gX3_isWord bw3_46) rfl rfl rfl hdX3_isWord ⟨Nat.le_of_ble_eq_true rfl, Nat.le_of_ble_eq_true rfl⟩) hK (hDa _) hG hA hP hS (sr_Pg_Pg cI q P) hl.1 rfl 0 (pPg_0 _ _ _) rfl rfl (Nat.le_of_ble_eq_true rfl) dX3_commandWord_25 (fun H locs hP hS => ?_)
      refine lv_if_eq (tgt := 33) hx hb dX3_commandWord_28 (by decide) (fun c6 => ?_) (fun c6 => ?_)
      · have hF := it_t hF c6
        refine lv_aload_n hx hb dX3_commandWord_33 rfl (lv_at hl 0 rfl) ?_
        refine va_ldcS hx hb hown (hG.2.2.2.2.2.1 3 (by decide)) dX3_commandWord_34 ?_
        obtain ⟨r7, hr7, hF⟩ := bd_use hF
        refine cl_VI ⟨hx, hb, hml, hown, htb⟩ (kX3_isWord l D cS g cI q 3 (by decide) P  _ hr7) (cwV 1 htb (gX3_isWord bw3_46) rfl rfl rfl hdX3_isWord ⟨Nat.le_of_ble_eq_true rfl, Nat.le_of_ble_eq_true rfl⟩) hK (hDa _) hG hA hP hS (sr_Pg_Pg cI q P) hl.1 rfl 0 (pPg_0 _ _ _) rfl rfl (Nat.le_of_ble_eq_true rfl) dX3_commandWord_36 (fun H locs hP hS => ?_)
        refine lv_if_eq (tgt := 44) hx hb dX3_commandWord_39 (by decide) (fun c8 => ?_) (fun c8 => ?_)
        · have hF := it_t hF c8
          refine lv_aload_n hx hb dX3_commandWord_44 rfl (lv_at hl 0 rfl) ?_
          refine va_ldcS hx hb hown (hG.2.2.2.2.2.1 4 (by decide)) dX3_commandWord_45 ?_
          obtain ⟨r9, hr9, hF⟩ := bd_use hF
          refine cl_VI ⟨hx, hb, hml, hown, htb⟩ (kX3_isWord l D cS g cI q 4 (by decide) P  _ hr9) (cwV 1 htb (gX3_isWord bw3_46) rfl rfl rfl hdX3_isWord ⟨Nat.le_of_ble_eq_true rfl, Nat.le_of_ble_eq_true rfl⟩) hK (hDa _) hG hA hP hS (sr_Pg_Pg cI q P) hl.1 rfl 0 (pPg_0 _ _ _) rfl rfl (Nat.le_of_ble_eq_true rfl) dX3_commandWord_47 (fun H locs hP hS => ?_)
          refine lv_if_eq (tgt := 55) hx hb dX3_commandWord_50 (by decide) (fun c10 => ?_) (fun c10 => ?_)
          · have hF := it_t hF c10
            refine lv_aload_n hx hb dX3_commandWord_55 rfl (lv_at hl 0 rfl) ?_
            refine va_ldcS hx hb hown (hG.2.2.2.2.2.1 5 (by decide)) dX3_commandWord_56 ?_
            obtain ⟨r11, hr11, hF⟩ := bd_use hF
            refine cl_VI ⟨hx, hb, hml, hown, htb⟩ (kX3_isWord l D cS g cI q 5 (by decide) P  _ hr11) (cwV 1 htb (gX3_isWord bw3_46) rfl rfl rfl hdX3_isWord ⟨Nat.le_of_ble_eq_true rfl, Nat.le_of_ble_eq_true rfl⟩) hK (hDa _) hG hA hP hS (sr_Pg_Pg cI q P) hl.1 rfl 0 (pPg_0 _ _ _) rfl rfl (Nat.le_of_ble_eq_true rfl) dX3_commandWord_58 (fun H locs hP hS => ?_)
            refine lv_if_eq (tgt := 66) hx hb dX3_commandWord_61 (by decide) (fun c12 => ?_) (fun c12 => ?_)
            · have hF := it_t hF c12
              refine lv_aload_n hx hb dX3_commandWord_66 rfl (lv_at hl 0 rfl) ?_
              refine va_ldcS hx hb hown (hG.2.2.2.2.2.1 6 (by decide)) dX3_commandWord_67 ?_
              obtain ⟨r13, hr13, hF⟩ := bd_use hF
              refine cl_VI ⟨hx, hb, hml, hown, htb⟩ (kX3_isWord l D cS g cI q 6 (by decide) P  _ hr13) (cwV 1 htb (gX3_isWord bw3_46) rfl rfl rfl hdX3_isWord ⟨Nat.le_of_ble_eq_true rfl, Nat.le_of_ble_eq_true rfl⟩) hK (hDa _) hG hA hP hS (sr_Pg_Pg cI q P) hl.1 rfl 0 (pPg_0 _ _ _) rfl rfl (Nat.le_of_ble_eq_true rfl) dX3_commandWord_69 (fun H locs hP hS => ?_)
              refine lv_if_eq (tgt := 80) hx hb dX3_commandWord_72 (by decide) (fun c14 => ?_) (fun c14 => ?_)
              · have hF := it_t hF c14
                refine lv_iconst (v := (-1)) hx hb dX3_commandWord_80 (by decide) ?_
                exact j81 (-1) _ _ _ hF hP hS (lv_sub hl [] rfl)
              · have hF := it_f hF c14
                refine lv_bipush (v := 6) hx hb dX3_commandWord_75 (by decide) ?_
                refine lv_goto (tgt := 81) hx hb dX3_commandWord_77 (by decide) ?_
                exact j81 6 _ _ _ hF hP hS (lv_sub hl [] rfl)
            · have hF := it_f hF c12
              refine lv_iconst (v := 5) hx hb dX3_commandWord_64 (by decide) ?_
              exact rt_I hx hb hr hlocks hS hP (so_use hF) dX3_commandWord_65
          · have hF := it_f hF c10
            refine lv_iconst (v := 4) hx hb dX3_commandWord_53 (by decide) ?_
            exact rt_I hx hb hr hlocks hS hP (so_use hF) dX3_commandWord_54
        · have hF := it_f hF c8
          refine lv_iconst (v := 3) hx hb dX3_commandWord_42 (by decide) ?_
          exact rt_I hx hb hr hlocks hS hP (so_use hF) dX3_commandWord_43
      · have hF := it_f hF c6
        refine lv_iconst (v := 2) hx hb dX3_commandWord_31 (by decide) ?_
        exact rt_I hx hb hr hlocks hS hP (so_use hF) dX3_commandWord_32
    · have hF := it_f hF c4
      refine lv_iconst (v := 1) hx hb dX3_commandWord_20 (by decide) ?_
      exact rt_I hx hb hr hlocks hS hP (so_use hF) dX3_commandWord_21
  · have hF := it_f hF c2
    refine lv_iconst (v := 0) hx hb dX3_commandWord_9 (by decide) ?_
    exact rt_I hx hb hr hlocks hS hP (so_use hF) dX3_commandWord_10

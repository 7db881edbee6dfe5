noncomputable def fX6_size (tn : Nat) (cap tw : Int32) (T : Tb) : Option (Int32) := some (T.1)
abbrev vX6_size : List Cond := Cond.code yX6_size cX6_size 1 (some .int) :: BIG
theorem gX6_size {own : String} {idx : Nat} (h : (Cond.methodLink own idx yX6_size) ∈ BIG) : GoodIn BIG (wsV own idx RX6 yX6_size vX6_size) := gdV h bw2_4 bw2_5 bw1_4 bw2_6
def rmX6_size : Room := { frames := 0, cells := 0, slots := 0, locals := 0 }
theorem hdX6_size : yX6_size.cls = RX6 ∧ yX6_size.cls ≠ "java/lang/invoke/MethodHandle" ∧ yX6_size.cls ≠ "java/lang/invoke/VarHandle" ∧ (parseMethodDescriptor yX6_size.desc).map (fun d => d.parameters.length) = some 0 := by decide +kernel
set_option maxHeartbeats 4000000 in
set_option maxRecDepth 100000 in
theorem kX6_size (l : Launch) (D : va_G) (cS : ClassId) (g : Nat → Nat) (cI : ClassId) (th tc tn : Nat) (cap tw : Int32) (T : Tb) (r : Int32) (hF : fX6_size tn cap tw T = some r) : mI l yX6_size vX6_size rmX6_size D cI cS g [.ref th] (wTb cI th tc tn cap tw T) r (wTb cI th tc tn cap tw T) := by
  refine st_I rfl (by decide) (Nat.le_of_ble_eq_true rfl) ?_
  intro p e s m args below meth c A ls hx hb hr hml hlocks hown hts hA hK hD0 hG hP hS hl
  have hown : s.vm.findClass RX6 = some m.cls := hown
  have hDa : ∀ T, va_D A (wTb cI th tc tn cap tw T) := fun T => hD0.adr rfl
  have htb : ∀ w ∈ BIG, w.before args s = true := fun w h => hts w (List.mem_cons_of_mem _ h)
  have hl : lv_has ls 1 [(0, .ref th)] := hl
  refine lv_aload_n hx hb dX6_size_0 rfl (lv_at hl 0 rfl) ?_
  refine va_get (ci := 6) (v := .int (T.1)) (C := RX6) (T := TX6) (N := 4) hx hb htb kin6 hown hK hP 0 (pTb_0 cI th tc tn cap tw T) rfl 3 (by decide) (htb _ bw1_44) (fun _ h9 => h9) rfl dX6_size_1 ?_
  exact rt_I hx hb hr hlocks hS hP (so_use hF) dX6_size_4
noncomputable def fX6_has_j17 (tn : Nat) (cap tw : Int32) (T : Tb) (s0 : Int32) : Option (Int32) := Zb s0 (some s0)
noncomputable def fX6_has_j16 (tn : Nat) (cap tw : Int32) (T : Tb) : Option (Int32) := fX6_has_j17 tn cap tw T 0
noncomputable def fX6_has (tn : Nat) (cap tw : Int32) (T : Tb) (x1 : Int32) : Option (Int32) := if x1 < 0 then (fX6_has_j16 tn cap tw T) else (if (T.1) ≤ x1 then (fX6_has_j16 tn cap tw T) else (fX6_has_j17 tn cap tw T 1))
abbrev vX6_has : List Cond := Cond.code yX6_has cX6_has 2 (some .boolean) :: BIG
theorem gX6_has {own : String} {idx : Nat} (h : (Cond.methodLink own idx yX6_has) ∈ BIG) : GoodIn BIG (wsV own idx RX6 yX6_has vX6_has) := gdV h bw2_112 bw2_113 bw1_4 bw2_114
def rmX6_has : Room := { frames := 0, cells := 0, slots := 0, locals := 0 }
theorem hdX6_has : yX6_has.cls = RX6 ∧ yX6_has.cls ≠ "java/lang/invoke/MethodHandle" ∧ yX6_has.cls ≠ "java/lang/invoke/VarHandle" ∧ (parseMethodDescriptor yX6_has.desc).map (fun d => d.parameters.length) = some 1 := by decide +kernel
set_option maxHeartbeats 4000000 in
set_option maxRecDepth 100000 in
theorem kX6_has (l : Launch) (D : va_G) (cS : ClassId) (g : Nat → Nat) (cI : ClassId) (th tc tn : Nat) (cap tw : Int32) (T : Tb) (x1 : Int32) (r : Int32) (hF : fX6_has tn cap tw T x1 = some r) : mI l yX6_has vX6_has rmX6_has D cI cS g [.ref th, .int x1] (wTb cI th tc tn cap tw T) r (wTb cI th tc tn cap tw T) := by
  refine st_I rfl (by decide) (Nat.le_of_ble_eq_true rfl) ?_
  intro p e s m args below meth c A ls hx hb hr hml hlocks hown hts hA hK hD0 hG hP hS hl
  have hown : s.vm.findClass RX6 = some m.cls := hown
  have hDa : ∀ T, va_D A (wTb cI th tc tn cap tw T) := fun T => hD0.adr rfl
  have htb : ∀ w ∈ BIG, w.before args s = true := fun w h => hts w (List.mem_cons_of_mem _ h)
  have hl : lv_has ls 2 [(0, .ref th), (1, .int x1)] := hl
  have j17 : ∀ (s0 : Int32) (H : Heap) (locs : List Loc) (ls : Array Slot), fX6_has_j17 tn cap tw T s0 = some r → va_P D vwCl (wTb cI th tc tn cap tw T) H → va_S A s.heap H locs → lv_has ls 2 [] → W p l e rmX6_has s m args below meth c H locs 0 0 (MQ below (qI D r (wTb cI th tc tn cap tw T) A) args s 0 0 A) (F0 m 17 ls [.int s0]) := by
    intro s0 H locs ls hF hP hS hl
    obtain ⟨hz, hF⟩ := zb_use hF
    exact rt_Z hx hb hr hlocks hS hP hz (so_use hF) dX6_has_17
  have j16 : ∀ (H : Heap) (locs : List Loc) (ls : Array Slot), fX6_has_j16 tn cap tw T = some r → va_P D vwCl (wTb cI th tc tn cap tw T) H → va_S A s.heap H locs → lv_has ls 2 [] → W p l e rmX6_has s m args below meth c H locs 0 0 (MQ below (qI D r (wTb cI th tc tn cap tw T) A) args s 0 0 A) (F0 m 16 ls []) := by
    intro H locs ls hF hP hS hl
    refine lv_iconst (v := 0) hx hb dX6_has_16 (by decide) ?_
    exact j17 0 _ _ _ hF hP hS (lv_sub hl [] rfl)
  refine lv_iload_n hx hb dX6_has_0 rfl (lv_at hl 1 rfl) ?_
  refine lv_if_lt (tgt := 16) hx hb dX6_has_1 (by decide) (fun c1 => ?_) (fun c1 => ?_)
  · have hF := it_t hF c1
    exact j16  _ _ _ hF hP hS (lv_sub hl [] rfl)
  · have hF := it_f hF c1
    refine lv_iload_n hx hb dX6_has_4 rfl (lv_at hl 1 rfl) ?_
    refine lv_aload_n hx hb dX6_has_5 rfl (lv_at hl 0 rfl) ?_
    refine va_get (ci := 6) (v := .int (T.1)) (C := RX6) (T := TX6) (N := 4) hx hb htb kin6 hown hK hP 0 (pTb_0 cI th tc tn cap tw T) rfl 3 (by decide) (htb _ bw1_44) (fun _ h9 => h9) rfl dX6_has_6 ?_
    refine lv_icmp_ge (tgt := 16) hx hb dX6_has_9 (by decide) (fun c2 => ?_) (fun c2 => ?_)
    · have hF := it_t hF c2
      exact j16  _ _ _ hF hP hS (lv_sub hl [] rfl)
    · have hF := it_f hF c2
      refine lv_iconst (v := 1) hx hb dX6_has_12 (by decide) ?_
      refine lv_goto (tgt := 17) hx hb dX6_has_13 (by decide) ?_
      exact j17 1 _ _ _ hF hP hS (lv_sub hl [] rfl)
noncomputable def fX6_isFull_j16 (tn : Nat) (cap tw : Int32) (T : Tb) (s0 : Int32) : Option (Int32) := Zb s0 (some s0)
noncomputable def fX6_isFull (tn : Nat) (cap tw : Int32) (T : Tb) : Option (Int32) := if (T.1) < cap then (fX6_isFull_j16 tn cap tw T 0) else (fX6_isFull_j16 tn cap tw T 1)
abbrev vX6_isFull : List Cond := Cond.code yX6_isFull cX6_isFull 1 (some .boolean) :: BIG
theorem gX6_isFull {own : String} {idx : Nat} (h : (Cond.methodLink own idx yX6_isFull) ∈ BIG) : GoodIn BIG (wsV own idx RX6 yX6_isFull vX6_isFull) := gdV h bw1_62 bw1_63 bw1_4 bw1_64
def rmX6_isFull : Room := { frames := 0, cells := 0, slots := 0, locals := 0 }
theorem hdX6_isFull : yX6_isFull.cls = RX6 ∧ yX6_isFull.cls ≠ "java/lang/invoke/MethodHandle" ∧ yX6_isFull.cls ≠ "java/lang/invoke/VarHandle" ∧ (parseMethodDescriptor yX6_isFull.desc).map (fun d => d.parameters.length) = some 0 := by decide +kernel
set_option maxHeartbeats 4000000 in
set_option maxRecDepth 100000 in
theorem kX6_isFull (l : Launch) (D : va_G) (cS : ClassId) (g : Nat → Nat) (cI : ClassId) (th tc tn : Nat) (cap tw : Int32) (T : Tb) (r : Int32) (hF : fX6_isFull tn cap tw T = some r) : mI l yX6_isFull vX6_isFull rmX6_isFull D cI cS g [.ref th] (wTb cI th tc tn cap tw T) r (wTb cI th tc tn cap tw T) := by
  refine st_I rfl (by decide) (Nat.le_of_ble_eq_true rfl) ?_
  intro p e s m args below meth c A ls hx hb hr hml hlocks hown hts hA hK hD0 hG hP hS hl
  have hown : s.vm.findClass RX6 = some m.cls := hown
  have hDa : ∀ T, va_D A (wTb cI th tc tn cap tw T) := fun T => hD0.adr rfl
  have htb : ∀ w ∈ BIG, w.before args s = true := fun w h => hts w (List.mem_cons_of_mem _ h)
  have hl : lv_has ls 1 [(0, .ref th)] := hl
  have j16 : ∀ (s0 : Int32) (H : Heap) (locs : List Loc) (ls : Array Slot), fX6_isFull_j16 tn cap tw T s0 = some r → va_P D vwCl (wTb cI th tc tn cap tw T) H → va_S A s.heap H locs → lv_has ls 1 [] → W p l e rmX6_isFull s m args below meth c H locs 0 0 (MQ below (qI D r (wTb cI th tc tn cap tw T) A) args s 0 0 A) (F0 m 16 ls [.int s0]) := by
    intro s0 H locs ls hF hP hS hl
    obtain ⟨hz, hF⟩ := zb_use hF
    exact rt_Z hx hb hr hlocks hS hP hz (so_use hF) dX6_isFull_16
  refine lv_aload_n hx hb dX6_isFull_0 rfl (lv_at hl 0 rfl) ?_
  refine va_get (ci := 6) (v := .int (T.1)) (C := RX6) (T := TX6) (N := 4) hx hb htb kin6 hown hK hP 0 (pTb_0 cI th tc tn cap tw T) rfl 3 (by decide) (htb _ bw1_44) (fun _ h9 => h9) rfl dX6_isFull_1 ?_
  refine lv_aload_n hx hb dX6_isFull_4 rfl (lv_at hl 0 rfl) ?_
  refine va_get (ci := 6) (v := .int cap) (C := RX6) (T := TX6) (N := 4) hx hb htb kin6 hown hK hP 0 (pTb_0 cI th tc tn cap tw T) rfl 1 (by decide) (htb _ bw1_42) (fun _ h9 => h9) rfl dX6_isFull_5 ?_
  refine lv_icmp_lt (tgt := 15) hx hb dX6_isFull_8 (by decide) (fun c1 => ?_) (fun c1 => ?_)
  · have hF := it_t hF c1
    refine lv_iconst (v := 0) hx hb dX6_isFull_15 (by decide) ?_
    exact j16 0 _ _ _ hF hP hS (lv_sub hl [] rfl)
  · have hF := it_f hF c1
    refine lv_iconst (v := 1) hx hb dX6_isFull_11 (by decide) ?_
    refine lv_goto (tgt := 16) hx hb dX6_isFull_12 (by decide) ?_
    exact j16 1 _ _ _ hF hP hS (lv_sub hl [] rfl)
noncomputable def fX6_cell_j68 (tn : Nat) (cap tw : Int32) (T : Tb) (s0 : Int32) : Option (Int32) := some s0
noncomputable def fX6_cell_j67 (tn : Nat) (cap tw : Int32) (T : Tb) : Option (Int32) := fX6_cell_j68 tn cap tw T 0
noncomputable def fX6_cell_j38 (tn : Nat) (cap tw : Int32) (T : Tb) (x3 : Int32) (s0 : Int32) : Option (Int32) := if s0 = 0 then (fX6_cell_j67 tn cap tw T) else (if x3 < 0 then (fX6_cell_j67 tn cap tw T) else (if (nI tn) ≤ x3 then (fX6_cell_j67 tn cap tw T) else (Rd (T.2) tn x3 fun v6 => fX6_cell_j68 tn cap tw T v6)))
noncomputable def fX6_cell_j37 (tn : Nat) (cap tw : Int32) (T : Tb) (x3 : Int32) : Option (Int32) := fX6_cell_j38 tn cap tw T x3 0
noncomputable def fX6_cell (tn : Nat) (cap tw : Int32) (T : Tb) (x1 : Int32) (x2 : Int32) : Option (Int32) := nm ((x1 * tw) + x2) fun v1 => if x1 < 0 then (fX6_cell_j37 tn cap tw T v1) else (if (T.1) ≤ x1 then (fX6_cell_j37 tn cap tw T v1) else (if x2 < 0 then (fX6_cell_j37 tn cap tw T v1) else (if tw ≤ x2 then (fX6_cell_j37 tn cap tw T v1) else (fX6_cell_j38 tn cap tw T v1 1))))
abbrev vX6_cell : List Cond := Cond.code yX6_cell cX6_cell 5 (some .int) :: BIG
theorem gX6_cell {own : String} {idx : Nat} (h : (Cond.methodLink own idx yX6_cell) ∈ BIG) : GoodIn BIG (wsV own idx RX6 yX6_cell vX6_cell) := gdV h bw1_236 bw1_237 bw1_4 bw1_238
def rmX6_cell : Room := { frames := 0, cells := 0, slots := 0, locals := 0 }
theorem hdX6_cell : yX6_cell.cls = RX6 ∧ yX6_cell.cls ≠ "java/lang/invoke/MethodHandle" ∧ yX6_cell.cls ≠ "java/lang/invoke/VarHandle" ∧ (parseMethodDescriptor yX6_cell.desc).map (fun d => d.parameters.length) = some 2 := by decide +kernel
set_option maxHeartbeats 4000000 in
set_option maxRecDepth 100000 in
theorem kX6_cell (l : Launch) (D : va_G) (cS : ClassId) (g : Nat → Nat) (cI : ClassId) (th tc tn : Nat) (cap tw : Int32) (T : Tb) (x1 : Int32) (x2 : Int32) (r : Int32) (hF : fX6_cell tn cap tw T x1 x2 = some r) : mI l yX6_cell vX6_cell rmX6_cell D cI cS g [.ref th, .int x1, .int x2] (wTb cI th tc tn cap tw T) r (wTb cI th tc tn cap tw T) := by
  refine st_I rfl (by decide) (Nat.le_of_ble_eq_true rfl) ?_
  intro p e s m args below meth c A ls hx hb hr hml hlocks hown hts hA hK hD0 hG hP hS hl
  have hown : s.vm.findClass RX6 = some m.cls := hown
  have hDa : ∀ T, va_D A (wTb cI th tc tn cap tw T) := fun T => hD0.adr rfl
  have htb : ∀ w ∈ BIG, w.before args s = true := fun w h => hts w (List.mem_cons_of_mem _ h)
  have hl : lv_has ls 5 [(0, .ref th), (1, .int x1), (2, .int x2)] := hl
  have j68 : ∀ (s0 : Int32) (H : Heap) (locs : List Loc) (ls : Array Slot), fX6_cell_j68 tn cap tw T s0 = some r → va_P D vwCl (wTb cI th tc tn cap tw T) H → va_S A s.heap H locs → lv_has ls 5 [] → W p l e rmX6_cell s m args below meth c H locs 0 0 (MQ below (qI D r (wTb cI th tc tn cap tw T) A) args s 0 0 A) (F0 m 68 ls [.int s0]) := by
    intro s0 H locs ls hF hP hS hl
    exact rt_I hx hb hr hlocks hS hP (so_use hF) dX6_cell_68
  have j67 : ∀ (H : Heap) (locs : List Loc) (ls : Array Slot), fX6_cell_j67 tn cap tw T = some r → va_P D vwCl (wTb cI th tc tn cap tw T) H → va_S A s.heap H locs → lv_has ls 5 [] → W p l e rmX6_cell s m args below meth c H locs 0 0 (MQ below (qI D r (wTb cI th tc tn cap tw T) A) args s 0 0 A) (F0 m 67 ls []) := by
    intro H locs ls hF hP hS hl
    refine lv_iconst (v := 0) hx hb dX6_cell_67 (by decide) ?_
    exact j68 0 _ _ _ hF hP hS (lv_sub hl [] rfl)
  have j38 : ∀ (x3 : Int32) (s0 : Int32) (H : Heap) (locs : List Loc) (ls : Array Slot), fX6_cell_j38 tn cap tw T x3 s0 = some r → va_P D vwCl (wTb cI th tc tn cap tw T) H → va_S A s.heap H locs → lv_has ls 5 [(0, .ref th), (3, .int x3)] → W p l e rmX6_cell s m args below meth c H locs 0 0 (MQ below (qI D r (wTb cI th tc tn cap tw T) A) args s 0 0 A) (F0 m 38 ls [.int s0]) := by
    intro x3 s0 H locs ls hF hP hS hl
    refine lv_istore (lv' := [(4, .int s0), (0, .ref th), (3, .int x3)]) hx hb dX6_cell_38 hl (by decide) rfl (fun ls hl => ?_)
    refine lv_iload hx hb dX6_cell_40 (lv_at hl 0 rfl) ?_
    refine lv_if_eq (tgt := 67) hx hb dX6_cell_42 (by decide) (fun c3 => ?_) (fun c3 => ?_)
    · have hF := it_t hF c3
      exact j67  _ _ _ hF hP hS (lv_sub hl [] rfl)
    · have hF := it_f hF c3
      refine lv_iload_n hx hb dX6_cell_45 rfl (lv_at hl 2 rfl) ?_
      refine lv_if_lt (tgt := 67) hx hb dX6_cell_46 (by decide) (fun c4 => ?_) (fun c4 => ?_)
      · have hF := it_t hF c4
        exact j67  _ _ _ hF hP hS (lv_sub hl [] rfl)
      · have hF := it_f hF c4
        refine lv_iload_n hx hb dX6_cell_49 rfl (lv_at hl 2 rfl) ?_
        refine lv_aload_n hx hb dX6_cell_50 rfl (lv_at hl 1 rfl) ?_
        refine va_get (ci := 6) (v := .ref tc) (C := RX6) (T := TX6) (N := 4) hx hb htb kin6 hown hK hP 0 (pTb_0 cI th tc tn cap tw T) rfl 0 (by decide) (htb _ bw1_41) (fun _ h9 => h9) rfl dX6_cell_51 ?_
        refine va_alen (v := nI tn) hx hb hK hP 1 0 (pTb_1 cI th tc tn cap tw T) rfl rfl dX6_cell_54 ?_
        refine lv_icmp_ge (tgt := 67) hx hb dX6_cell_55 (by decide) (fun c5 => ?_) (fun c5 => ?_)
        · have hF := it_t hF c5
          exact j67  _ _ _ hF hP hS (lv_sub hl [] rfl)
        · have hF := it_f hF c5
          refine lv_aload_n hx hb dX6_cell_58 rfl (lv_at hl 1 rfl) ?_
          refine va_get (ci := 6) (v := .ref tc) (C := RX6) (T := TX6) (N := 4) hx hb htb kin6 hown hK hP 0 (pTb_0 cI th tc tn cap tw T) rfl 0 (by decide) (htb _ bw1_41) (fun _ h9 => h9) rfl dX6_cell_59 ?_
          refine lv_iload_n hx hb dX6_cell_62 rfl (lv_at hl 2 rfl) ?_
          obtain ⟨hi, hF⟩ := rd_use hF
          refine va_iald hx hb hK hP 1 0 (pTb_1 cI th tc tn cap tw T) rfl hi dX6_cell_63 ?_
          refine lv_topi (fun v6 ev6 => ?_)
          have hF := hF v6 ev6
          refine lv_goto (tgt := 68) hx hb dX6_cell_64 (by decide) ?_
          exact j68 v6 _ _ _ hF hP hS (lv_sub hl [] rfl)
  have j37 : ∀ (x3 : Int32) (H : Heap) (locs : List Loc) (ls : Array Slot), fX6_cell_j37 tn cap tw T x3 = some r → va_P D vwCl (wTb cI th tc tn cap tw T) H → va_S A s.heap H locs → lv_has ls 5 [(0, .ref th), (3, .int x3)] → W p l e rmX6_cell s m args below meth c H locs 0 0 (MQ below (qI D r (wTb cI th tc tn cap tw T) A) args s 0 0 A) (F0 m 37 ls []) := by
    intro x3 H locs ls hF hP hS hl
    refine lv_iconst (v := 0) hx hb dX6_cell_37 (by decide) ?_
    exact j38 x3 0 _ _ _ hF hP hS (lv_sub hl [0, 1] rfl)
  refine lv_iload_n hx hb dX6_cell_0 rfl (lv_at hl 1 rfl) ?_
  refine lv_aload_n hx hb dX6_cell_1 rfl (lv_at hl 0 rfl) ?_
  refine va_get (ci := 6) (v := .int tw) (C := RX6) (T := TX6) (N := 4) hx hb htb kin6 hown hK hP 0 (pTb_0 cI th tc tn cap tw T) rfl 2 (by decide) (htb _ bw1_43) (fun _ h9 => h9) rfl dX6_cell_2 ?_
  refine lv_imul hx hb dX6_cell_5 ?_
  refine lv_iload_n hx hb dX6_cell_6 rfl (lv_at hl 2 rfl) ?_
  refine lv_iadd hx hb dX6_cell_7 ?_
  refine lv_topi (fun v1 ev1 => ?_)
  have hF := nm_use hF ev1
  refine lv_istore_n (lv' := [(3, .int v1), (0, .ref th), (1, .int x1), (2, .int x2)]) hx hb dX6_cell_8 rfl hl (by decide) rfl (fun ls hl => ?_)
  refine lv_iload_n hx hb dX6_cell_9 rfl (lv_at hl 2 rfl) ?_
  refine lv_if_lt (tgt := 37) hx hb dX6_cell_10 (by decide) (fun c2 => ?_) (fun c2 => ?_)
  · have hF := it_t hF c2
    exact j37 v1 _ _ _ hF hP hS (lv_sub hl [1, 0] rfl)
  · have hF := it_f hF c2
    refine lv_iload_n hx hb dX6_cell_13 rfl (lv_at hl 2 rfl) ?_
    refine lv_aload_n hx hb dX6_cell_14 rfl (lv_at hl 1 rfl) ?_
    refine va_get (ci := 6) (v := .int (T.1)) (C := RX6) (T := TX6) (N := 4) hx hb htb kin6 hown hK hP 0 (pTb_0 cI th tc tn cap tw T) rfl 3 (by decide) (htb _ bw1_44) (fun _ h9 => h9) rfl dX6_cell_15 ?_
    refine lv_icmp_ge (tgt := 37) hx hb dX6_cell_18 (by decide) (fun c7 => ?_) (fun c7 => ?_)
    · have hF := it_t hF c7
      exact j37 v1 _ _ _ hF hP hS (lv_sub hl [1, 0] rfl)
    · have hF := it_f hF c7
      refine lv_iload_n hx hb dX6_cell_21 rfl (lv_at hl 3 rfl) ?_
      refine lv_if_lt (tgt := 37) hx hb dX6_cell_22 (by decide) (fun c8 => ?_) (fun c8 => ?_)
      · have hF := it_t hF c8
        exact j37 v1 _ _ _ hF hP hS (lv_sub hl [1, 0] rfl)
      · have hF := it_f hF c8
        refine lv_iload_n hx hb dX6_cell_25 rfl (lv_at hl 3 rfl) ?_
        refine lv_aload_n hx hb dX6_cell_26 rfl (lv_at hl 1 rfl) ?_
        refine va_get (ci := 6) (v := .int tw) (C := RX6) (T := TX6) (N := 4) hx hb htb kin6 hown hK hP 0 (pTb_0 cI th tc tn cap tw T) rfl 2 (by decide) (htb _ bw1_43) (fun _ h9 => h9) rfl dX6_cell_27 ?_
        refine lv_icmp_ge (tgt := 37) hx hb dX6_cell_30 (by decide) (fun c9 => ?_) (fun c9 => ?_)
        · have hF := it_t hF c9
          exact j37 v1 _ _ _ hF hP hS (lv_sub hl [1, 0] rfl)
        · have hF := it_f hF c9
          refine lv_iconst (v := 1) hx hb dX6_cell_33 (by decide) ?_
          refine lv_goto (tgt := 38) hx hb dX6_cell_34 (by decide) ?_
          exact j38 v1 1 _ _ _ hF hP hS (lv_sub hl [1, 0] rfl)
noncomputable def fX6_put_j39 (tn : Nat) (cap tw : Int32) (T : Tb) (x3 : Int32) (x4 : Int32) (s0 : Int32) : Option (Tb) := if s0 = 0 then (some T) else (if x4 < 0 then (some T) else (if (nI tn) ≤ x4 then (some T) else (Wr (T.2) tn x4 x3 fun f6 => nm ((T.1, f6)) fun M7 => some M7)))
noncomputable def fX6_put_j38 (tn : Nat) (cap tw : Int32) (T : Tb) (x3 : Int32) (x4 : Int32) : Option (Tb) := fX6_put_j39 tn cap tw T x3 x4 0
noncomputable def fX6_put (tn : Nat) (cap tw : Int32) (T : Tb) (x1 : Int32) (x2 : Int32) (x3 : Int32) : Option (Tb) := nm ((x1 * tw) + x2) fun v1 => if x1 < 0 then (fX6_put_j38 tn cap tw T x3 v1) else (if (T.1) ≤ x1 then (fX6_put_j38 tn cap tw T x3 v1) else (if x2 < 0 then (fX6_put_j38 tn cap tw T x3 v1) else (if tw ≤ x2 then (fX6_put_j38 tn cap tw T x3 v1) else (fX6_put_j39 tn cap tw T x3 v1 1))))
abbrev vX6_put : List Cond := Cond.code yX6_put cX6_put 6 none :: BIG
theorem gX6_put {own : String} {idx : Nat} (h : (Cond.methodLink own idx yX6_put) ∈ BIG) : GoodIn BIG (wsV own idx RX6 yX6_put vX6_put) := gdV h bw1_66 bw1_67 bw1_4 bw1_68
def rmX6_put : Room := { frames := 0, cells := 0, slots := 0, locals := 0 }
theorem hdX6_put : yX6_put.cls = RX6 ∧ yX6_put.cls ≠ "java/lang/invoke/MethodHandle" ∧ yX6_put.cls ≠ "java/lang/invoke/VarHandle" ∧ (parseMethodDescriptor yX6_put.desc).map (fun d => d.parameters.length) = some 3 := by decide +kernel
set_option maxHeartbeats 4000000 in
set_option maxRecDepth 100000 in
theorem kX6_put (l : Launch) (D : va_G) (cS : ClassId) (g : Nat → Nat) (cI : ClassId) (th tc tn : Nat) (cap tw : Int32) (T : Tb) (x1 : Int32) (x2 : Int32) (x3 : Int32) (M' : Tb) (hF : fX6_put tn cap tw T x1 x2 x3 = some M') : mV l yX6_put vX6_put rmX6_put D cI cS g [.ref th, .int x1, .int x2, .int x3] (wTb cI th tc tn cap tw T) (wTb cI th tc tn cap tw (M')) := by
  refine st_V rfl (by decide) (Nat.le_of_ble_eq_true rfl) ?_
  intro p e s m args below meth c A ls hx hb hr hml hlocks hown hts hA hK hD0 hG hP hS hl
  have hown : s.vm.findClass RX6 = some m.cls := hown
  have hDa : ∀ T, va_D A (wTb cI th tc tn cap tw T) := fun T => hD0.adr rfl
  have htb : ∀ w ∈ BIG, w.before args s = true := fun w h => hts w (List.mem_cons_of_mem _ h)
  have hl : lv_has ls 6 [(0, .ref th), (1, .int x1), (2, .int x2), (3, .int x3)] := hl
  have j39 : ∀ (T : Tb) (x3 : Int32) (x4 : Int32) (s0 : Int32) (H : Heap) (locs : List Loc) (ls : Array Slot), fX6_put_j39 tn cap tw T x3 x4 s0 = some M' → va_P D vwCl (wTb cI th tc tn cap tw T) H → va_S A s.heap H locs → lv_has ls 6 [(0, .ref th), (3, .int x3), (4, .int x4)] → W p l e rmX6_put s m args below meth c H locs 0 0 (MQ below (qV D (wTb cI th tc tn cap tw (M')) A) args s 0 0 A) (F0 m 39 ls [.int s0]) := by
    intro T x3 x4 s0 H locs ls hF hP hS hl
    refine lv_istore (lv' := [(5, .int s0), (0, .ref th), (3, .int x3), (4, .int x4)]) hx hb dX6_put_39 hl (by decide) rfl (fun ls hl => ?_)
    refine lv_iload hx hb dX6_put_41 (lv_at hl 0 rfl) ?_
    refine lv_if_eq (tgt := 69) hx hb dX6_put_43 (by decide) (fun c3 => ?_) (fun c3 => ?_)
    · have hF := it_t hF c3
      exact rt_V hx hb hr hlocks hS (by rw [← so_use hF]; exact hP) dX6_put_69
    · have hF := it_f hF c3
      refine lv_iload hx hb dX6_put_46 (lv_at hl 3 rfl) ?_
      refine lv_if_lt (tgt := 69) hx hb dX6_put_48 (by decide) (fun c4 => ?_) (fun c4 => ?_)
      · have hF := it_t hF c4
        exact rt_V hx hb hr hlocks hS (by rw [← so_use hF]; exact hP) dX6_put_69
      · have hF := it_f hF c4
        refine lv_iload hx hb dX6_put_51 (lv_at hl 3 rfl) ?_
        refine lv_aload_n hx hb dX6_put_53 rfl (lv_at hl 1 rfl) ?_
        refine va_get (ci := 6) (v := .ref tc) (C := RX6) (T := TX6) (N := 4) hx hb htb kin6 hown hK hP 0 (pTb_0 cI th tc tn cap tw T) rfl 0 (by decide) (htb _ bw1_41) (fun _ h9 => h9) rfl dX6_put_54 ?_
        refine va_alen (v := nI tn) hx hb hK hP 1 0 (pTb_1 cI th tc tn cap tw T) rfl rfl dX6_put_57 ?_
        refine lv_icmp_ge (tgt := 69) hx hb dX6_put_58 (by decide) (fun c5 => ?_) (fun c5 => ?_)
        · have hF := it_t hF c5
          exact rt_V hx hb hr hlocks hS (by rw [← so_use hF]; exact hP) dX6_put_69
        · have hF := it_f hF c5
          refine lv_aload_n hx hb dX6_put_61 rfl (lv_at hl 1 rfl) ?_
          refine va_get (ci := 6) (v := .ref tc) (C := RX6) (T := TX6) (N := 4) hx hb htb kin6 hown hK hP 0 (pTb_0 cI th tc tn cap tw T) rfl 0 (by decide) (htb _ bw1_41) (fun _ h9 => h9) rfl dX6_put_62 ?_
          refine lv_iload hx hb dX6_put_65 (lv_at hl 3 rfl) ?_
          refine lv_iload_n hx hb dX6_put_67 rfl (lv_at hl 2 rfl) ?_
          obtain ⟨hi, hF⟩ := wr_use hF
          refine va_iast hx hb hK hP (hDa _) hS 1 0 (pTb_1 cI th tc tn cap tw T) rfl hi dX6_put_68 (fun H locs hP _ hS => ?_)
          obtain ⟨M7, eM7⟩ : ∃ z : Tb, z = (T.1, (upd (T.2) (x4 : Int32).toNatClampNeg x3)) := ⟨_, rfl⟩
          have hF := nm_use hF eM7
          have hP : va_P D vwCl (wTb cI th tc tn cap tw M7) H := by rw [eM7]; exact hP
          exact rt_V hx hb hr hlocks hS (by rw [← so_use hF]; exact hP) dX6_put_69
  have j38 : ∀ (T : Tb) (x3 : Int32) (x4 : Int32) (H : Heap) (locs : List Loc) (ls : Array Slot), fX6_put_j38 tn cap tw T x3 x4 = some M' → va_P D vwCl (wTb cI th tc tn cap tw T) H → va_S A s.heap H locs → lv_has ls 6 [(0, .ref th), (3, .int x3), (4, .int x4)] → W p l e rmX6_put s m args below meth c H locs 0 0 (MQ below (qV D (wTb cI th tc tn cap tw (M')) A) args s 0 0 A) (F0 m 38 ls []) := by
    intro T x3 x4 H locs ls hF hP hS hl
    refine lv_iconst (v := 0) hx hb dX6_put_38 (by decide) ?_
    exact j39 T x3 x4 0 _ _ _ hF hP hS (lv_sub hl [0, 1, 2] rfl)
  refine lv_iload_n hx hb dX6_put_0 rfl (lv_at hl 1 rfl) ?_
  refine lv_aload_n hx hb dX6_put_1 rfl (lv_at hl 0 rfl) ?_
  refine va_get (ci := 6) (v := .int tw) (C := RX6) (T := TX6) (N := 4) hx hb htb kin6 hown hK hP 0 (pTb_0 cI th tc tn cap tw T) rfl 2 (by decide) (htb _ bw1_43) (fun _ h9 => h9) rfl dX6_put_2 ?_
  refine lv_imul hx hb dX6_put_5 ?_
  refine lv_iload_n hx hb dX6_put_6 rfl (lv_at hl 2 rfl) ?_
  refine lv_iadd hx hb dX6_put_7 ?_
  refine lv_topi (fun v1 ev1 => ?_)
  have hF := nm_use hF ev1
  refine lv_istore (lv' := [(4, .int v1), (0, .ref th), (1, .int x1), (2, .int x2), (3, .int x3)]) hx hb dX6_put_8 hl (by decide) rfl (fun ls hl => ?_)
  refine lv_iload_n hx hb dX6_put_10 rfl (lv_at hl 2 rfl) ?_
  refine lv_if_lt (tgt := 38) hx hb dX6_put_11 (by decide) (fun c2 => ?_) (fun c2 => ?_)
  · have hF := it_t hF c2
    exact j38 T x3 v1 _ _ _ hF hP hS (lv_sub hl [1, 4, 0] rfl)
  · have hF := it_f hF c2
    refine lv_iload_n hx hb dX6_put_14 rfl (lv_at hl 2 rfl) ?_
    refine lv_aload_n hx hb dX6_put_15 rfl (lv_at hl 1 rfl) ?_
    refine va_get (ci := 6) (v := .int (T.1)) (C := RX6) (T := TX6) (N := 4) hx hb htb kin6 hown hK hP 0 (pTb_0 cI th tc tn cap tw T) rfl 3 (by decide) (htb _ bw1_44) (fun _ h9 => h9) rfl dX6_put_16 ?_
    refine lv_icmp_ge (tgt := 38) hx hb dX6_put_19 (by decide) (fun c8 => ?_) (fun c8 => ?_)
    · have hF := it_t hF c8
      exact j38 T x3 v1 _ _ _ hF hP hS (lv_sub hl [1, 4, 0] rfl)
    · have hF := it_f hF c8
      refine lv_iload_n hx hb dX6_put_22 rfl (lv_at hl 3 rfl) ?_
      refine lv_if_lt (tgt := 38) hx hb dX6_put_23 (by decide) (fun c9 => ?_) (fun c9 => ?_)
      · have hF := it_t hF c9
        exact j38 T x3 v1 _ _ _ hF hP hS (lv_sub hl [1, 4, 0] rfl)
      · have hF := it_f hF c9
        refine lv_iload_n hx hb dX6_put_26 rfl (lv_at hl 3 rfl) ?_
        refine lv_aload_n hx hb dX6_put_27 rfl (lv_at hl 1 rfl) ?_
        refine va_get (ci := 6) (v := .int tw) (C := RX6) (T := TX6) (N := 4) hx hb htb kin6 hown hK hP 0 (pTb_0 cI th tc tn cap tw T) rfl 2 (by decide) (htb _ bw1_43) (fun _ h9 => h9) rfl dX6_put_28 ?_
        refine lv_icmp_ge (tgt := 38) hx hb dX6_put_31 (by decide) (fun c10 => ?_) (fun c10 => ?_)
        · have hF := it_t hF c10
          exact j38 T x3 v1 _ _ _ hF hP hS (lv_sub hl [1, 4, 0] rfl)
        · have hF := it_f hF c10
          refine lv_iconst (v := 1) hx hb dX6_put_34 (by decide) ?_
          refine lv_goto (tgt := 39) hx hb dX6_put_35 (by decide) ?_
          exact j39 T x3 v1 1 _ _ _ hF hP hS (lv_sub hl [1, 4, 0] rfl)
noncomputable def fX6_raise (tn : Nat) (cap tw : Int32) (T : Tb) (x1 : Int32) (x2 : Int32) (x3 : Int32) : Option (Tb) := (fX6_cell tn cap tw T x1 x2).bind fun r1 => (fX6_put tn cap tw T x1 x2 (r1 + x3)).bind fun M2 => some M2
abbrev vX6_raise : List Cond := Cond.code yX6_raise cX6_raise 4 none :: BIG
theorem gX6_raise {own : String} {idx : Nat} (h : (Cond.methodLink own idx yX6_raise) ∈ BIG) : GoodIn BIG (wsV own idx RX6 yX6_raise vX6_raise) := gdV h bw2_142 bw2_143 bw1_4 bw2_144
def rmX6_raise : Room := { frames := 1, cells := 0, slots := 0, locals := 25 }
theorem hdX6_raise : yX6_raise.cls = RX6 ∧ yX6_raise.cls ≠ "java/lang/invoke/MethodHandle" ∧ yX6_raise.cls ≠ "java/lang/invoke/VarHandle" ∧ (parseMethodDescriptor yX6_raise.desc).map (fun d => d.parameters.length) = some 3 := by decide +kernel
set_option maxHeartbeats 4000000 in
set_option maxRecDepth 100000 in
theorem kX6_raise (l : Launch) (D : va_G) (cS : ClassId) (g : Nat → Nat) (cI : ClassId) (th tc tn : Nat) (cap tw : Int32) (T : Tb) (x1 : Int32) (x2 : Int32) (x3 : Int32) (M' : Tb) (hF : fX6_raise tn cap tw T x1 x2 x3 = some M') : mV l yX6_raise vX6_raise rmX6_raise D cI cS g [.ref th, .int x1, .int x2, .int x3] (wTb cI th tc tn cap tw T) (wTb cI th tc tn cap tw (M')) := by
  refine st_V rfl (by decide) (Nat.le_of_ble_eq_true rfl) ?_
  intro p e s m args below meth c A ls hx hb hr hml hlocks hown hts hA hK hD0 hG hP hS hl
  have hown : s.vm.findClass RX6 = some m.cls := hown
  have hDa : ∀ T, va_D A (wTb cI th tc tn cap tw T) := fun T => hD0.adr rfl
  have htb : ∀ w ∈ BIG, w.before args s = true := fun w h => hts w (List.mem_cons_of_mem _ h)
  have hl : lv_has ls 4 [(0, .ref th), (1, .int x1), (2, .int x2), (3, .int x3)] := hl
  refine lv_aload_n hx hb dX6_raise_0 rfl (lv_at hl 0 rfl) ?_
  refine lv_iload_n hx hb dX6_raise_1 rfl (lv_at hl 1 rfl) ?_
  refine lv_iload_n hx hb dX6_raise_2 rfl (lv_at hl 2 rfl) ?_
  refine lv_aload_n hx hb dX6_raise_3 rfl (lv_at hl 0 rfl) ?_
  refine lv_iload_n hx hb dX6_raise_4 rfl (lv_at hl 1 rfl) ?_
  refine lv_iload_n hx hb dX6_raise_5 rfl (lv_at hl 2 rfl) ?_
  obtain ⟨r1, hr1, hF⟩ := bd_use hF
  refine cl_VI ⟨hx, hb, hml, hown, htb⟩ (kX6_cell l D cS g cI th tc tn cap tw T x1 x2 _ hr1) (cwV 2 htb (gX6_cell bw2_28) rfl rfl rfl hdX6_cell ⟨Nat.le_of_ble_eq_true rfl, Nat.le_of_ble_eq_true rfl⟩) hK (hDa _) hG hA hP hS (sr_Tb_Tb cI th tc tn cap tw T) hl.1 rfl 0 (pTb_0 _ _ _ _ _ _ _) rfl rfl (Nat.le_of_ble_eq_true rfl) dX6_raise_6 (fun H locs hP hS => ?_)
  refine lv_iload_n hx hb dX6_raise_9 rfl (lv_at hl 3 rfl) ?_
  refine lv_iadd hx hb dX6_raise_10 ?_
  obtain ⟨M2, hM2, hF⟩ := bd_use hF
  refine cl_VV ⟨hx, hb, hml, hown, htb⟩ (kX6_put l D cS g cI th tc tn cap tw T x1 x2 (r1 + x3) _ hM2) (cwV 3 htb (gX6_put bw1_65) rfl rfl rfl hdX6_put ⟨Nat.le_of_ble_eq_true rfl, Nat.le_of_ble_eq_true rfl⟩) hK (hDa _) hG hA hP hS (sg_Tb_Tb cI th tc tn cap tw T M2) hl.1 rfl 0 (pTb_0 _ _ _ _ _ _ _) rfl rfl (Nat.le_of_ble_eq_true rfl) dX6_raise_11 (fun H locs hP hS => ?_)
  exact rt_V hx hb hr hlocks hS (by rw [← so_use hF]; exact hP) dX6_raise_14
noncomputable def fX6_addRow_l24 (tn : Nat) (cap tw : Int32) (x1 : Int32) : Nat → Tb → Int32 → Option (Int32 × Tb) := fun fu => Nat.rec (motive := fun _ => Tb → Int32 → Option (Int32 × Tb)) (fun _ _ => none) (fun _ ih => fun T x2 => if tw ≤ x2 then (some (x1, T)) else ((fX6_put tn cap tw T x1 x2 0).bind fun M7 => nm (x2 + 1) fun v8 => ih M7 v8)) fu
theorem fX6_addRow_l24_s (tn : Nat) (cap tw : Int32) (x1 : Int32) (fu : Nat) (T : Tb) (x2 : Int32) : fX6_addRow_l24 tn cap tw x1 (fu + 1) T x2 = (if tw ≤ x2 then (some (x1, T)) else ((fX6_put tn cap tw T x1 x2 0).bind fun M7 => nm (x2 + 1) fun v8 => (fX6_addRow_l24 tn cap tw x1 fu) M7 v8)) := rfl
theorem fX6_addRow_l24_z (tn : Nat) (cap tw : Int32) (x1 : Int32) (T : Tb) (x2 : Int32) : fX6_addRow_l24 tn cap tw x1 0 T x2 = none := rfl
noncomputable def fX6_addRow (tn : Nat) (cap tw : Int32) (T : Tb) : Option (Int32 × Tb) := (fX6_isFull tn cap tw T).bind fun r1 => if r1 = 0 then (nm (T.1) fun v3 => nm (v3 + 1) fun v4 => nm ((v4, T.2)) fun M5 => fX6_addRow_l24 tn cap tw v3 FU M5 0) else (some ((-9), T))
abbrev vX6_addRow : List Cond := Cond.code yX6_addRow cX6_addRow 3 (some .int) :: BIG
theorem gX6_addRow {own : String} {idx : Nat} (h : (Cond.methodLink own idx yX6_addRow) ∈ BIG) : GoodIn BIG (wsV own idx RX6 yX6_addRow vX6_addRow) := gdV h bw1_58 bw1_59 bw1_4 bw1_60
def rmX6_addRow : Room := { frames := 1, cells := 0, slots := 0, locals := 25 }
theorem hdX6_addRow : yX6_addRow.cls = RX6 ∧ yX6_addRow.cls ≠ "java/lang/invoke/MethodHandle" ∧ yX6_addRow.cls ≠ "java/lang/invoke/VarHandle" ∧ (parseMethodDescriptor yX6_addRow.desc).map (fun d => d.parameters.length) = some 0 := by decide +kernel
set_option maxHeartbeats 4000000 in
set_option maxRecDepth 100000 in
theorem kX6_addRow (l : Launch) (D : va_G) (cS : ClassId) (g : Nat → Nat) (cI : ClassId) (th tc tn : Nat) (cap tw : Int32) (T : Tb) (r : Int32) (M' : Tb) (hF : fX6_addRow tn cap tw T = some (r, M')) : mI l yX6_addRow vX6_addRow rmX6_addRow D cI cS g [.ref th] (wTb cI th tc tn cap tw T) r (wTb cI th tc tn cap tw (M')) := by
  refine st_I rfl (by decide) (Nat.le_of_ble_eq_true rfl) ?_
  intro p e s m args below meth c A ls hx hb hr hml hlocks hown hts hA hK hD0 hG hP hS hl
  have hown : s.vm.findClass RX6 = some m.cls := hown
  have hDa : ∀ T, va_D A (wTb cI th tc tn cap tw T) := fun T => hD0.adr rfl
  have htb : ∀ w ∈ BIG, w.before args s = true := fun w h => hts w (List.mem_cons_of_mem _ h)
  have hl : lv_has ls 3 [(0, .ref th)] := hl
  have l24 : ∀ (x1 : Int32) (fu : Nat) (T : Tb) (x2 : Int32) (H : Heap) (locs : List Loc) (ls : Array Slot), fX6_addRow_l24 tn cap tw x1 fu T x2 = some (r, M') → va_P D vwCl (wTb cI th tc tn cap tw T) H → va_S A s.heap H locs → lv_has ls 3 [(0, .ref th), (1, .int x1), (2, .int x2)] → W p l e rmX6_addRow s m args below meth c H locs 0 0 (MQ below (qI D r (wTb cI th tc tn cap tw (M')) A) args s 0 0 A) (F0 m 24 ls []) := by
    intro x1  fu
    induction fu with
    | zero => intro T x2 H locs ls hF; exact nn_use hF
    | succ fu ihn =>
      intro T x2 H locs ls hF hP hS hl 
      rw [fX6_addRow_l24_s] at hF
      refine lv_iload_n hx hb dX6_addRow_24 rfl (lv_at hl 2 rfl) ?_
      refine lv_aload_n hx hb dX6_addRow_25 rfl (lv_at hl 0 rfl) ?_
      refine va_get (ci := 6) (v := .int tw) (C := RX6) (T := TX6) (N := 4) hx hb htb kin6 hown hK hP 0 (pTb_0 cI th tc tn cap tw T) rfl 2 (by decide) (htb _ bw1_43) (fun _ h9 => h9) rfl dX6_addRow_26 ?_
      refine lv_icmp_ge (tgt := 45) hx hb dX6_addRow_29 (by decide) (fun c6 => ?_) (fun c6 => ?_)
      · have hF := it_t hF c6
        refine lv_iload_n hx hb dX6_addRow_45 rfl (lv_at hl 1 rfl) ?_
        obtain ⟨er, eM⟩ := pr_use hF
        exact rt_I hx hb hr hlocks hS (by rw [← eM]; exact hP) er dX6_addRow_46
      · have hF := it_f hF c6
        refine lv_aload_n hx hb dX6_addRow_32 rfl (lv_at hl 0 rfl) ?_
        refine lv_iload_n hx hb dX6_addRow_33 rfl (lv_at hl 1 rfl) ?_
        refine lv_iload_n hx hb dX6_addRow_34 rfl (lv_at hl 2 rfl) ?_
        refine lv_iconst (v := 0) hx hb dX6_addRow_35 (by decide) ?_
        obtain ⟨M7, hM7, hF⟩ := bd_use hF
        refine cl_VV ⟨hx, hb, hml, hown, htb⟩ (kX6_put l D cS g cI th tc tn cap tw T x1 x2 0 _ hM7) (cwV 3 htb (gX6_put bw1_65) rfl rfl rfl hdX6_put ⟨Nat.le_of_ble_eq_true rfl, Nat.le_of_ble_eq_true rfl⟩) hK (hDa _) hG hA hP hS (sg_Tb_Tb cI th tc tn cap tw T M7) hl.1 rfl 0 (pTb_0 _ _ _ _ _ _ _) rfl rfl (Nat.le_of_ble_eq_true rfl) dX6_addRow_36 (fun H locs hP hS => ?_)
        obtain ⟨v8, ev8⟩ : ∃ z : Int32, z = x2 + 1 := ⟨_, rfl⟩
        refine lv_iinc (v := v8) (lv' := [(2, .int v8), (0, .ref th), (1, .int x1)]) hx hb dX6_addRow_39 hl (k := 2) rfl (by rw [ev8]; rfl) (by decide) rfl (fun ls hl => ?_)
        have hF := nm_use hF ev8
        refine lv_goto (tgt := 24) hx hb dX6_addRow_42 (by decide) ?_
        exact ihn M7 v8 _ _ _ hF hP hS (lv_sub hl [1, 2, 0] rfl)
  refine lv_aload_n hx hb dX6_addRow_0 rfl (lv_at hl 0 rfl) ?_
  obtain ⟨r1, hr1, hF⟩ := bd_use hF
  refine cl_VI ⟨hx, hb, hml, hown, htb⟩ (kX6_isFull l D cS g cI th tc tn cap tw T  _ hr1) (cwV 0 htb (gX6_isFull bw1_61) rfl rfl rfl hdX6_isFull ⟨Nat.le_of_ble_eq_true rfl, Nat.le_of_ble_eq_true rfl⟩) hK (hDa _) hG hA hP hS (sr_Tb_Tb cI th tc tn cap tw T) hl.1 rfl 0 (pTb_0 _ _ _ _ _ _ _) rfl rfl (Nat.le_of_ble_eq_true rfl) dX6_addRow_1 (fun H locs hP hS => ?_)
  refine lv_if_eq (tgt := 10) hx hb dX6_addRow_4 (by decide) (fun c2 => ?_) (fun c2 => ?_)
  · have hF := it_t hF c2
    refine lv_aload_n hx hb dX6_addRow_10 rfl (lv_at hl 0 rfl) ?_
    refine va_get (ci := 6) (v := .int (T.1)) (C := RX6) (T := TX6) (N := 4) hx hb htb kin6 hown hK hP 0 (pTb_0 cI th tc tn cap tw T) rfl 3 (by decide) (htb _ bw1_44) (fun _ h9 => h9) rfl dX6_addRow_11 ?_
    refine lv_topi (fun v3 ev3 => ?_)
    have hF := nm_use hF ev3
    refine lv_istore_n (lv' := [(1, .int v3), (0, .ref th)]) hx hb dX6_addRow_14 rfl hl (by decide) rfl (fun ls hl => ?_)
    refine lv_aload_n hx hb dX6_addRow_15 rfl (lv_at hl 1 rfl) ?_
    refine lv_iload_n hx hb dX6_addRow_16 rfl (lv_at hl 0 rfl) ?_
    refine lv_iconst (v := 1) hx hb dX6_addRow_17 (by decide) ?_
    refine lv_iadd hx hb dX6_addRow_18 ?_
    refine lv_topi (fun v4 ev4 => ?_)
    have hF := nm_use hF ev4
    refine va_put (ci := 6) (v := .int v4) (ty := .int) (C := RX6) (T := TX6) (N := 4) hx hb htb kin6 tyX6 tyX6_ok nmX6 hown hK hP (hDa _) hS 0 (pTb_0 cI th tc tn cap tw T) rfl 3 (by decide) (htb _ bw1_44) (fun _ h9 => h9) rfl (by decide +kernel) rfl rfl (Nat.le_of_ble_eq_true rfl) dX6_addRow_19 (fun H locs hP _ hS => ?_)
    obtain ⟨M5, eM5⟩ : ∃ z : Tb, z = (v4, T.2) := ⟨_, rfl⟩
    have hF := nm_use hF eM5
    have hP : va_P D vwCl (wTb cI th tc tn cap tw M5) H := by rw [eM5]; exact hP
    refine lv_iconst (v := 0) hx hb dX6_addRow_22 (by decide) ?_
    refine lv_istore_n (lv' := [(2, .int 0), (1, .int v3), (0, .ref th)]) hx hb dX6_addRow_23 rfl hl (by decide) rfl (fun ls hl => ?_)
    refine l24 v3  _ M5 0 _ _ _ hF hP hS (lv_sub hl [2, 1, 0] rfl)
  · have hF := it_f hF c2
    refine lv_bipush (v := (-9)) hx hb dX6_addRow_7 (by decide) ?_
    obtain ⟨er, eM⟩ := pr_use hF
    exact rt_I hx hb hr hlocks hS (by rw [← eM]; exact hP) er dX6_addRow_9
noncomputable def fX6_total_l4 (tn : Nat) (cap tw : Int32) (T : Tb) (x1 : Int32) : Nat → Int32 → Int32 → Option (Int32) := fun fu => Nat.rec (motive := fun _ => Int32 → Int32 → Option (Int32)) (fun _ _ => none) (fun _ ih => fun x2 x3 => if (T.1) ≤ x3 then (some x2) else ((fX6_cell tn cap tw T x3 x1).bind fun r2 => nm (x2 + r2) fun v3 => nm (x3 + 1) fun v4 => ih v3 v4)) fu
theorem fX6_total_l4_s (tn : Nat) (cap tw : Int32) (T : Tb) (x1 : Int32) (fu : Nat) (x2 : Int32) (x3 : Int32) : fX6_total_l4 tn cap tw T x1 (fu + 1) x2 x3 = (if (T.1) ≤ x3 then (some x2) else ((fX6_cell tn cap tw T x3 x1).bind fun r2 => nm (x2 + r2) fun v3 => nm (x3 + 1) fun v4 => (fX6_total_l4 tn cap tw T x1 fu) v3 v4)) := rfl
theorem fX6_total_l4_z (tn : Nat) (cap tw : Int32) (T : Tb) (x1 : Int32) (x2 : Int32) (x3 : Int32) : fX6_total_l4 tn cap tw T x1 0 x2 x3 = none := rfl
noncomputable def fX6_total (tn : Nat) (cap tw : Int32) (T : Tb) (x1 : Int32) : Option (Int32) := fX6_total_l4 tn cap tw T x1 FU 0 0
abbrev vX6_total : List Cond := Cond.code yX6_total cX6_total 4 (some .int) :: BIG
theorem gX6_total {own : String} {idx : Nat} (h : (Cond.methodLink own idx yX6_total) ∈ BIG) : GoodIn BIG (wsV own idx RX6 yX6_total vX6_total) := gdV h bw2_25 bw2_26 bw1_4 bw2_27
def rmX6_total : Room := { frames := 1, cells := 0, slots := 0, locals := 24 }
theorem hdX6_total : yX6_total.cls = RX6 ∧ yX6_total.cls ≠ "java/lang/invoke/MethodHandle" ∧ yX6_total.cls ≠ "java/lang/invoke/VarHandle" ∧ (parseMethodDescriptor yX6_total.desc).map (fun d => d.parameters.length) = some 1 := by decide +kernel
set_option maxHeartbeats 4000000 in
set_option maxRecDepth 100000 in
theorem kX6_total (l : Launch) (D : va_G) (cS : ClassId) (g : Nat → Nat) (cI : ClassId) (th tc tn : Nat) (cap tw : Int32) (T : Tb) (x1 : Int32) (r : Int32) (hF : fX6_total tn cap tw T x1 = some r) : mI l yX6_total vX6_total rmX6_total D cI cS g [.ref th, .int x1] (wTb cI th tc tn cap tw T) r (wTb cI th tc tn cap tw T) := by
  refine st_I rfl (by decide) (Nat.le_of_ble_eq_true rfl) ?_
  intro p e s m args below meth c A ls hx hb hr hml hlocks hown hts hA hK hD0 hG hP hS hl
  have hown : s.vm.findClass RX6 = some m.cls := hown
  have hDa : ∀ T, va_D A (wTb cI th tc tn cap tw T) := fun T => hD0.adr rfl
  have htb : ∀ w ∈ BIG, w.before args s = true := fun w h => hts w (List.mem_cons_of_mem _ h)
  have hl : lv_has ls 4 [(0, .ref th), (1, .int x1)] := hl
  have l4 : ∀ (x1 : Int32) (fu : Nat) (x2 : Int32) (x3 : Int32) (H : Heap) (locs : List Loc) (ls : Array Slot), fX6_total_l4 tn cap tw T x1 fu x2 x3 = some r → va_P D vwCl (wTb cI th tc tn cap tw T) H → va_S A s.heap H locs → lv_has ls 4 [(0, .ref th), (1, .int x1), (2, .int x2), (3, .int x3)] → W p l e rmX6_total s m args below meth c H locs 0 0 (MQ below (qI D r (wTb cI th tc tn cap tw T) A) args s 0 0 A) (F0 m 4 ls []) := by
    intro x1  fu
    induction fu with
    | zero => intro x2 x3 H locs ls hF; exact nn_use hF
    | succ fu ihn =>
      intro x2 x3 H locs ls hF hP hS hl 
      rw [fX6_total_l4_s] at hF
      refine lv_iload_n hx hb dX6_total_4 rfl (lv_at hl 3 rfl) ?_
      refine lv_aload_n hx hb dX6_total_5 rfl (lv_at hl 0 rfl) ?_
      refine va_get (ci := 6) (v := .int (T.1)) (C := RX6) (T := TX6) (N := 4) hx hb htb kin6 hown hK hP 0 (pTb_0 cI th tc tn cap tw T) rfl 3 (by decide) (htb _ bw1_44) (fun _ h9 => h9) rfl dX6_total_6 ?_
      refine lv_icmp_ge (tgt := 27) hx hb dX6_total_9 (by decide) (fun c1 => ?_) (fun c1 => ?_)
      · have hF := it_t hF c1
        refine lv_iload_n hx hb dX6_total_27 rfl (lv_at hl 2 rfl) ?_
        exact rt_I hx hb hr hlocks hS hP (so_use hF) dX6_total_28
      · have hF := it_f hF c1
        refine lv_iload_n hx hb dX6_total_12 rfl (lv_at hl 2 rfl) ?_
        refine lv_aload_n hx hb dX6_total_13 rfl (lv_at hl 0 rfl) ?_
        refine lv_iload_n hx hb dX6_total_14 rfl (lv_at hl 3 rfl) ?_
        refine lv_iload_n hx hb dX6_total_15 rfl (lv_at hl 1 rfl) ?_
        obtain ⟨r2, hr2, hF⟩ := bd_use hF
        refine cl_VI ⟨hx, hb, hml, hown, htb⟩ (kX6_cell l D cS g cI th tc tn cap tw T x3 x1 _ hr2) (cwV 2 htb (gX6_cell bw2_28) rfl rfl rfl hdX6_cell ⟨Nat.le_of_ble_eq_true rfl, Nat.le_of_ble_eq_true rfl⟩) hK (hDa _) hG hA hP hS (sr_Tb_Tb cI th tc tn cap tw T) hl.1 rfl 0 (pTb_0 _ _ _ _ _ _ _) rfl rfl (Nat.le_of_ble_eq_true rfl) dX6_total_16 (fun H locs hP hS => ?_)
        refine lv_iadd hx hb dX6_total_19 ?_
        refine lv_topi (fun v3 ev3 => ?_)
        have hF := nm_use hF ev3
        refine lv_istore_n (lv' := [(2, .int v3), (0, .ref th), (1, .int x1), (3, .int x3)]) hx hb dX6_total_20 rfl hl (by decide) rfl (fun ls hl => ?_)
        obtain ⟨v4, ev4⟩ : ∃ z : Int32, z = x3 + 1 := ⟨_, rfl⟩
        refine lv_iinc (v := v4) (lv' := [(3, .int v4), (2, .int v3), (0, .ref th), (1, .int x1)]) hx hb dX6_total_21 hl (k := 3) rfl (by rw [ev4]; rfl) (by decide) rfl (fun ls hl => ?_)
        have hF := nm_use hF ev4
        refine lv_goto (tgt := 4) hx hb dX6_total_24 (by decide) ?_
        exact ihn v3 v4 _ _ _ hF hP hS (lv_sub hl [2, 3, 1, 0] rfl)
  refine lv_iconst (v := 0) hx hb dX6_total_0 (by decide) ?_
  refine lv_istore_n (lv' := [(2, .int 0), (0, .ref th), (1, .int x1)]) hx hb dX6_total_1 rfl hl (by decide) rfl (fun ls hl => ?_)
  refine lv_iconst (v := 0) hx hb dX6_total_2 (by decide) ?_
  refine lv_istore_n (lv' := [(3, .int 0), (2, .int 0), (0, .ref th), (1, .int x1)]) hx hb dX6_total_3 rfl hl (by decide) rfl (fun ls hl => ?_)
  refine l4 x1  _ 0 0 _ _ _ hF hP hS (lv_sub hl [2, 3, 1, 0] rfl)
noncomputable def fX8_inRange_j15  (s0 : Int32) : Option (Int32) := Zb s0 (some s0)
noncomputable def fX8_inRange_j14  : Option (Int32) := fX8_inRange_j15 0
noncomputable def fX8_inRange  (x0 : Int32) (x1 : Int32) (x2 : Int32) : Option (Int32) := if x0 < x1 then (fX8_inRange_j14) else (if x2 < x0 then (fX8_inRange_j14) else (fX8_inRange_j15 1))
abbrev vX8_inRange : List Cond := Cond.code yX8_inRange cX8_inRange 3 (some .boolean) :: BIG
theorem gX8_inRange {own : String} {idx : Nat} (h : (Cond.methodLink own idx yX8_inRange) ∈ BIG) : GoodIn BIG (va_wsS own idx yX8_inRange vX8_inRange) := gdS h bw1_229 bw1_1 bw1_230
theorem gX8_inRange_n : GoodIn BIG vX8_inRange := gdN bw1_230
def rmX8_inRange : Room := { frames := 0, cells := 0, slots := 0, locals := 0 }
theorem hdX8_inRange : yX8_inRange.cls ≠ "java/lang/invoke/MethodHandle" ∧ yX8_inRange.cls ≠ "java/lang/invoke/VarHandle" ∧ (parseMethodDescriptor yX8_inRange.desc).map (fun d => d.parameters.length) = some 3 := by decide +kernel
set_option maxHeartbeats 4000000 in
set_option maxRecDepth 100000 in
theorem kX8_inRange (l : Launch) (D : va_G) (cS : ClassId) (g : Nat → Nat) (cI : ClassId) (x0 : Int32) (x1 : Int32) (x2 : Int32) (r : Int32) (hF : fX8_inRange x0 x1 x2 = some r) : mI l yX8_inRange vX8_inRange rmX8_inRange D cI cS g [.int x0, .int x1, .int x2] [] r [] := by
  refine st_I rfl (by decide) (Nat.le_of_ble_eq_true rfl) ?_
  intro p e s m args below meth c A ls hx hb hr hml hlocks hown hts hA hK hD0 hG hP hS hl
  have hown : s.vm.findClass RX8 = some m.cls := hown
  have hDa : ∀ u : Unit, va_D A [] := fun _ => hD0
  have htb : ∀ w ∈ BIG, w.before args s = true := fun w h => hts w (List.mem_cons_of_mem _ h)
  have hl : lv_has ls 3 [(0, .int x0), (1, .int x1), (2, .int x2)] := hl
  have j15 : ∀ (s0 : Int32) (H : Heap) (locs : List Loc) (ls : Array Slot), fX8_inRange_j15 s0 = some r → va_P D vwCl [] H → va_S A s.heap H locs → lv_has ls 3 [] → W p l e rmX8_inRange s m args below meth c H locs 0 0 (MQ below (qI D r [] A) args s 0 0 A) (F0 m 15 ls [.int s0]) := by
    intro s0 H locs ls hF hP hS hl
    obtain ⟨hz, hF⟩ := zb_use hF
    exact rt_Z hx hb hr hlocks hS hP hz (so_use hF) dX8_inRange_15
  have j14 : ∀ (H : Heap) (locs : List Loc) (ls : Array Slot), fX8_inRange_j14 = some r → va_P D vwCl [] H → va_S A s.heap H locs → lv_has ls 3 [] → W p l e rmX8_inRange s m args below meth c H locs 0 0 (MQ below (qI D r [] A) args s 0 0 A) (F0 m 14 ls []) := by
    intro H locs ls hF hP hS hl
    refine lv_iconst (v := 0) hx hb dX8_inRange_14 (by decide) ?_
    exact j15 0 _ _ _ hF hP hS (lv_sub hl [] rfl)
  refine lv_iload_n hx hb dX8_inRange_0 rfl (lv_at hl 0 rfl) ?_
  refine lv_iload_n hx hb dX8_inRange_1 rfl (lv_at hl 1 rfl) ?_
  refine lv_icmp_lt (tgt := 14) hx hb dX8_inRange_2 (by decide) (fun c1 => ?_) (fun c1 => ?_)
  · have hF := it_t hF c1
    exact j14  _ _ _ hF hP hS (lv_sub hl [] rfl)
  · have hF := it_f hF c1
    refine lv_iload_n hx hb dX8_inRange_5 rfl (lv_at hl 0 rfl) ?_
    refine lv_iload_n hx hb dX8_inRange_6 rfl (lv_at hl 2 rfl) ?_
    refine lv_icmp_gt (tgt := 14) hx hb dX8_inRange_7 (by decide) (fun c2 => ?_) (fun c2 => ?_)
    · have hF := it_t hF c2
      exact j14  _ _ _ hF hP hS (lv_sub hl [] rfl)
    · have hF := it_f hF c2
      refine lv_iconst (v := 1) hx hb dX8_inRange_10 (by decide) ?_
      refine lv_goto (tgt := 15) hx hb dX8_inRange_11 (by decide) ?_
      exact j15 1 _ _ _ hF hP hS (lv_sub hl [] rfl)

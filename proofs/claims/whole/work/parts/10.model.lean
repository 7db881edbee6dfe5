noncomputable def fX9_in_j15  (s0 : Int32) : Option (Int32) := Zb s0 (some s0)
noncomputable def fX9_in_j14  : Option (Int32) := fX9_in_j15 0
noncomputable def fX9_in  (x0 : Int32) (x1 : Int32) (x2 : Int32) : Option (Int32) := if x0 < x1 then (fX9_in_j14) else (if x2 < x0 then (fX9_in_j14) else (fX9_in_j15 1))
abbrev vX9_in : List Cond := Cond.code yX9_in cX9_in 3 (some .boolean) :: BIG
theorem gX9_in {own : String} {idx : Nat} (h : (Cond.methodLink own idx yX9_in) ∈ BIG) : GoodIn BIG (va_wsS own idx yX9_in vX9_in) := gdS h bw4_69 bw1_11 bw4_70
theorem gX9_in_n : GoodIn BIG vX9_in := gdN bw4_70
def rmX9_in : Room := { frames := 0, cells := 0, slots := 0, locals := 0 }
theorem hdX9_in : yX9_in.cls ≠ "java/lang/invoke/MethodHandle" ∧ yX9_in.cls ≠ "java/lang/invoke/VarHandle" ∧ (parseMethodDescriptor yX9_in.desc).map (fun d => d.parameters.length) = some 3 := by decide +kernel
set_option maxHeartbeats 4000000 in
set_option maxRecDepth 100000 in
theorem kX9_in (l : Launch) (D : va_G) (cS : ClassId) (g : Nat → Nat) (cI : ClassId) (x0 : Int32) (x1 : Int32) (x2 : Int32) (r : Int32) (hF : fX9_in x0 x1 x2 = some r) : mI l yX9_in vX9_in rmX9_in D cI cS g [.int x0, .int x1, .int x2] [] r [] := by
  refine st_I rfl (by decide) (Nat.le_of_ble_eq_true rfl) ?_
  intro p e s m args below meth c A ls hx hb hr hml hlocks hown hts hA hK hD0 hG hP hS hl
  have hown : s.vm.findClass RX9 = some m.cls := hown
  have hDa : ∀ u : Unit, va_D A [] := fun _ => hD0
  have htb : ∀ w ∈ BIG, w.before args s = true := fun w h => hts w (List.mem_cons_of_mem _ h)
  have hl : lv_has ls 3 [(0, .int x0), (1, .int x1), (2, .int x2)] := hl
  have j15 : ∀ (s0 : Int32) (H : Heap) (locs : List Loc) (ls : Array Slot), fX9_in_j15 s0 = some r → va_P D vwCl [] H → va_S A s.heap H locs → lv_has ls 3 [] → W p l e rmX9_in s m args below meth c H locs 0 0 (MQ below (qI D r [] A) args s 0 0 A) (F0 m 15 ls [.int s0]) := by
    intro s0 H locs ls hF hP hS hl
    obtain ⟨hz, hF⟩ := zb_use hF
    exact rt_Z hx hb hr hlocks hS hP hz (so_use hF) dX9_in_15
  have j14 : ∀ (H : Heap) (locs : List Loc) (ls : Array Slot), fX9_in_j14 = some r → va_P D vwCl [] H → va_S A s.heap H locs → lv_has ls 3 [] → W p l e rmX9_in s m args below meth c H locs 0 0 (MQ below (qI D r [] A) args s 0 0 A) (F0 m 14 ls []) := by
    intro H locs ls hF hP hS hl
    refine lv_iconst (v := 0) hx hb dX9_in_14 (by decide) ?_
    exact j15 0 _ _ _ hF hP hS (lv_sub hl [] rfl)
  refine lv_iload_n hx hb dX9_in_0 rfl (lv_at hl 0 rfl) ?_
  refine lv_iload_n hx hb dX9_in_1 rfl (lv_at hl 1 rfl) ?_
  refine lv_icmp_lt (tgt := 14) hx hb dX9_in_2 (by decide) (fun c1 => ?_) (fun c1 => ?_)
  · have hF := it_t hF c1
    exact j14  _ _ _ hF hP hS (lv_sub hl [] rfl)
  · have hF := it_f hF c1
    refine lv_iload_n hx hb dX9_in_5 rfl (lv_at hl 0 rfl) ?_
    refine lv_iload_n hx hb dX9_in_6 rfl (lv_at hl 2 rfl) ?_
    refine lv_icmp_gt (tgt := 14) hx hb dX9_in_7 (by decide) (fun c2 => ?_) (fun c2 => ?_)
    · have hF := it_t hF c2
      exact j14  _ _ _ hF hP hS (lv_sub hl [] rfl)
    · have hF := it_f hF c2
      refine lv_iconst (v := 1) hx hb dX9_in_10 (by decide) ?_
      refine lv_goto (tgt := 15) hx hb dX9_in_11 (by decide) ?_
      exact j15 1 _ _ _ hF hP hS (lv_sub hl [] rfl)
noncomputable def fX9_lesser_j10  (s0 : Int32) : Option (Int32) := some s0
noncomputable def fX9_lesser  (x0 : Int32) (x1 : Int32) : Option (Int32) := if x1 ≤ x0 then (fX9_lesser_j10 x1) else (fX9_lesser_j10 x0)
abbrev vX9_lesser : List Cond := Cond.code yX9_lesser cX9_lesser 2 (some .int) :: BIG
theorem gX9_lesser {own : String} {idx : Nat} (h : (Cond.methodLink own idx yX9_lesser) ∈ BIG) : GoodIn BIG (va_wsS own idx yX9_lesser vX9_lesser) := gdS h bw4_123 bw1_11 bw4_124
theorem gX9_lesser_n : GoodIn BIG vX9_lesser := gdN bw4_124
def rmX9_lesser : Room := { frames := 0, cells := 0, slots := 0, locals := 0 }
theorem hdX9_lesser : yX9_lesser.cls ≠ "java/lang/invoke/MethodHandle" ∧ yX9_lesser.cls ≠ "java/lang/invoke/VarHandle" ∧ (parseMethodDescriptor yX9_lesser.desc).map (fun d => d.parameters.length) = some 2 := by decide +kernel
set_option maxHeartbeats 4000000 in
set_option maxRecDepth 100000 in
theorem kX9_lesser (l : Launch) (D : va_G) (cS : ClassId) (g : Nat → Nat) (cI : ClassId) (x0 : Int32) (x1 : Int32) (r : Int32) (hF : fX9_lesser x0 x1 = some r) : mI l yX9_lesser vX9_lesser rmX9_lesser D cI cS g [.int x0, .int x1] [] r [] := by
  refine st_I rfl (by decide) (Nat.le_of_ble_eq_true rfl) ?_
  intro p e s m args below meth c A ls hx hb hr hml hlocks hown hts hA hK hD0 hG hP hS hl
  have hown : s.vm.findClass RX9 = some m.cls := hown
  have hDa : ∀ u : Unit, va_D A [] := fun _ => hD0
  have htb : ∀ w ∈ BIG, w.before args s = true := fun w h => hts w (List.mem_cons_of_mem _ h)
  have hl : lv_has ls 2 [(0, .int x0), (1, .int x1)] := hl
  have j10 : ∀ (s0 : Int32) (H : Heap) (locs : List Loc) (ls : Array Slot), fX9_lesser_j10 s0 = some r → va_P D vwCl [] H → va_S A s.heap H locs → lv_has ls 2 [] → W p l e rmX9_lesser s m args below meth c H locs 0 0 (MQ below (qI D r [] A) args s 0 0 A) (F0 m 10 ls [.int s0]) := by
    intro s0 H locs ls hF hP hS hl
    exact rt_I hx hb hr hlocks hS hP (so_use hF) dX9_lesser_10
  refine lv_iload_n hx hb dX9_lesser_0 rfl (lv_at hl 0 rfl) ?_
  refine lv_iload_n hx hb dX9_lesser_1 rfl (lv_at hl 1 rfl) ?_
  refine lv_icmp_ge (tgt := 9) hx hb dX9_lesser_2 (by decide) (fun c1 => ?_) (fun c1 => ?_)
  · have hF := it_t hF c1
    refine lv_iload_n hx hb dX9_lesser_9 rfl (lv_at hl 1 rfl) ?_
    exact j10 x1 _ _ _ hF hP hS (lv_sub hl [] rfl)
  · have hF := it_f hF c1
    refine lv_iload_n hx hb dX9_lesser_5 rfl (lv_at hl 0 rfl) ?_
    refine lv_goto (tgt := 10) hx hb dX9_lesser_6 (by decide) ?_
    exact j10 x0 _ _ _ hF hP hS (lv_sub hl [] rfl)
noncomputable def fX9_greater_j10  (s0 : Int32) : Option (Int32) := some s0
noncomputable def fX9_greater  (x0 : Int32) (x1 : Int32) : Option (Int32) := if x0 ≤ x1 then (fX9_greater_j10 x1) else (fX9_greater_j10 x0)
abbrev vX9_greater : List Cond := Cond.code yX9_greater cX9_greater 2 (some .int) :: BIG
theorem gX9_greater {own : String} {idx : Nat} (h : (Cond.methodLink own idx yX9_greater) ∈ BIG) : GoodIn BIG (va_wsS own idx yX9_greater vX9_greater) := gdS h bw4_158 bw1_11 bw4_159
theorem gX9_greater_n : GoodIn BIG vX9_greater := gdN bw4_159
def rmX9_greater : Room := { frames := 0, cells := 0, slots := 0, locals := 0 }
theorem hdX9_greater : yX9_greater.cls ≠ "java/lang/invoke/MethodHandle" ∧ yX9_greater.cls ≠ "java/lang/invoke/VarHandle" ∧ (parseMethodDescriptor yX9_greater.desc).map (fun d => d.parameters.length) = some 2 := by decide +kernel
set_option maxHeartbeats 4000000 in
set_option maxRecDepth 100000 in
theorem kX9_greater (l : Launch) (D : va_G) (cS : ClassId) (g : Nat → Nat) (cI : ClassId) (x0 : Int32) (x1 : Int32) (r : Int32) (hF : fX9_greater x0 x1 = some r) : mI l yX9_greater vX9_greater rmX9_greater D cI cS g [.int x0, .int x1] [] r [] := by
  refine st_I rfl (by decide) (Nat.le_of_ble_eq_true rfl) ?_
  intro p e s m args below meth c A ls hx hb hr hml hlocks hown hts hA hK hD0 hG hP hS hl
  have hown : s.vm.findClass RX9 = some m.cls := hown
  have hDa : ∀ u : Unit, va_D A [] := fun _ => hD0
  have htb : ∀ w ∈ BIG, w.before args s = true := fun w h => hts w (List.mem_cons_of_mem _ h)
  have hl : lv_has ls 2 [(0, .int x0), (1, .int x1)] := hl
  have j10 : ∀ (s0 : Int32) (H : Heap) (locs : List Loc) (ls : Array Slot), fX9_greater_j10 s0 = some r → va_P D vwCl [] H → va_S A s.heap H locs → lv_has ls 2 [] → W p l e rmX9_greater s m args below meth c H locs 0 0 (MQ below (qI D r [] A) args s 0 0 A) (F0 m 10 ls [.int s0]) := by
    intro s0 H locs ls hF hP hS hl
    exact rt_I hx hb hr hlocks hS hP (so_use hF) dX9_greater_10
  refine lv_iload_n hx hb dX9_greater_0 rfl (lv_at hl 0 rfl) ?_
  refine lv_iload_n hx hb dX9_greater_1 rfl (lv_at hl 1 rfl) ?_
  refine lv_icmp_le (tgt := 9) hx hb dX9_greater_2 (by decide) (fun c1 => ?_) (fun c1 => ?_)
  · have hF := it_t hF c1
    refine lv_iload_n hx hb dX9_greater_9 rfl (lv_at hl 1 rfl) ?_
    exact j10 x1 _ _ _ hF hP hS (lv_sub hl [] rfl)
  · have hF := it_f hF c1
    refine lv_iload_n hx hb dX9_greater_5 rfl (lv_at hl 0 rfl) ?_
    refine lv_goto (tgt := 10) hx hb dX9_greater_6 (by decide) ?_
    exact j10 x0 _ _ _ hF hP hS (lv_sub hl [] rfl)
noncomputable def fX9_highest_j41  (s0 : Int32) : Option (Int32) := some s0
noncomputable def fX9_highest  (x0 : Int32) : Option (Int32) := if x0 = 0 then (fX9_highest_j41 10) else (if x0 = 1 then (fX9_highest_j41 30) else (if x0 = 2 then (fX9_highest_j41 20) else (if x0 = 3 then (fX9_highest_j41 60) else (fX9_highest_j41 50))))
abbrev vX9_highest : List Cond := Cond.code yX9_highest cX9_highest 1 (some .int) :: BIG
theorem gX9_highest {own : String} {idx : Nat} (h : (Cond.methodLink own idx yX9_highest) ∈ BIG) : GoodIn BIG (va_wsS own idx yX9_highest vX9_highest) := gdS h bw4_92 bw1_11 bw4_93
theorem gX9_highest_n : GoodIn BIG vX9_highest := gdN bw4_93
def rmX9_highest : Room := { frames := 0, cells := 0, slots := 0, locals := 0 }
theorem hdX9_highest : yX9_highest.cls ≠ "java/lang/invoke/MethodHandle" ∧ yX9_highest.cls ≠ "java/lang/invoke/VarHandle" ∧ (parseMethodDescriptor yX9_highest.desc).map (fun d => d.parameters.length) = some 1 := by decide +kernel
set_option maxHeartbeats 4000000 in
set_option maxRecDepth 100000 in
theorem kX9_highest (l : Launch) (D : va_G) (cS : ClassId) (g : Nat → Nat) (cI : ClassId) (x0 : Int32) (r : Int32) (hF : fX9_highest x0 = some r) : mI l yX9_highest vX9_highest rmX9_highest D cI cS g [.int x0] [] r [] := by
  refine st_I rfl (by decide) (Nat.le_of_ble_eq_true rfl) ?_
  intro p e s m args below meth c A ls hx hb hr hml hlocks hown hts hA hK hD0 hG hP hS hl
  have hown : s.vm.findClass RX9 = some m.cls := hown
  have hDa : ∀ u : Unit, va_D A [] := fun _ => hD0
  have htb : ∀ w ∈ BIG, w.before args s = true := fun w h => hts w (List.mem_cons_of_mem _ h)
  have hl : lv_has ls 1 [(0, .int x0)] := hl
  have j41 : ∀ (s0 : Int32) (H : Heap) (locs : List Loc) (ls : Array Slot), fX9_highest_j41 s0 = some r → va_P D vwCl [] H → va_S A s.heap H locs → lv_has ls 1 [] → W p l e rmX9_highest s m args below meth c H locs 0 0 (MQ below (qI D r [] A) args s 0 0 A) (F0 m 41 ls [.int s0]) := by
    intro s0 H locs ls hF hP hS hl
    exact rt_I hx hb hr hlocks hS hP (so_use hF) dX9_highest_41
  refine lv_iload_n hx hb dX9_highest_0 rfl (lv_at hl 0 rfl) ?_
  refine lv_if_ne (tgt := 9) hx hb dX9_highest_1 (by decide) (fun c1 => ?_) (fun c1 => ?_)
  · have hF := it_f hF c1
    refine lv_iload_n hx hb dX9_highest_9 rfl (lv_at hl 0 rfl) ?_
    refine lv_iconst (v := 1) hx hb dX9_highest_10 (by decide) ?_
    refine lv_icmp_ne (tgt := 19) hx hb dX9_highest_11 (by decide) (fun c2 => ?_) (fun c2 => ?_)
    · have hF := it_f hF c2
      refine lv_iload_n hx hb dX9_highest_19 rfl (lv_at hl 0 rfl) ?_
      refine lv_iconst (v := 2) hx hb dX9_highest_20 (by decide) ?_
      refine lv_icmp_ne (tgt := 29) hx hb dX9_highest_21 (by decide) (fun c3 => ?_) (fun c3 => ?_)
      · have hF := it_f hF c3
        refine lv_iload_n hx hb dX9_highest_29 rfl (lv_at hl 0 rfl) ?_
        refine lv_iconst (v := 3) hx hb dX9_highest_30 (by decide) ?_
        refine lv_icmp_ne (tgt := 39) hx hb dX9_highest_31 (by decide) (fun c4 => ?_) (fun c4 => ?_)
        · have hF := it_f hF c4
          refine lv_bipush (v := 50) hx hb dX9_highest_39 (by decide) ?_
          exact j41 50 _ _ _ hF hP hS (lv_sub hl [] rfl)
        · have hF := it_t hF c4
          refine lv_bipush (v := 60) hx hb dX9_highest_34 (by decide) ?_
          refine lv_goto (tgt := 41) hx hb dX9_highest_36 (by decide) ?_
          exact j41 60 _ _ _ hF hP hS (lv_sub hl [] rfl)
      · have hF := it_t hF c3
        refine lv_bipush (v := 20) hx hb dX9_highest_24 (by decide) ?_
        refine lv_goto (tgt := 41) hx hb dX9_highest_26 (by decide) ?_
        exact j41 20 _ _ _ hF hP hS (lv_sub hl [] rfl)
    · have hF := it_t hF c2
      refine lv_bipush (v := 30) hx hb dX9_highest_14 (by decide) ?_
      refine lv_goto (tgt := 41) hx hb dX9_highest_16 (by decide) ?_
      exact j41 30 _ _ _ hF hP hS (lv_sub hl [] rfl)
  · have hF := it_t hF c1
    refine lv_bipush (v := 10) hx hb dX9_highest_4 (by decide) ?_
    refine lv_goto (tgt := 41) hx hb dX9_highest_6 (by decide) ?_
    exact j41 10 _ _ _ hF hP hS (lv_sub hl [] rfl)
noncomputable def fX9_manyOf_j71  (s0 : Int32) : Option (Int32) := some s0
noncomputable def fX9_manyOf_j66  : Option (Int32) := fX9_manyOf_j71 1
noncomputable def fX9_manyOf  (x0 : Int64) : Option (Int32) := nm (lg_cmp x0 1919905645) fun v1 => if v1 = 0 then (some 4) else (nm (lg_cmp x0 7364985) fun v3 => if v3 = 0 then (some 4) else (nm (lg_cmp x0 1886151033) fun v5 => if v5 = 0 then (some 4) else (nm (lg_cmp x0 1651470187) fun v7 => if v7 = 0 then (fX9_manyOf_j71 3) else (nm (lg_cmp x0 1785686382) fun v9 => if v9 = 0 then (fX9_manyOf_j71 2) else (nm (lg_cmp x0 1734960756) fun v11 => if v11 = 0 then (fX9_manyOf_j66) else (nm (lg_cmp x0 1685221232) fun v13 => if v13 = 0 then (fX9_manyOf_j66) else (fX9_manyOf_j71 0)))))))
abbrev vX9_manyOf : List Cond := Cond.code yX9_manyOf cX9_manyOf 2 (some .int) :: BIG
theorem gX9_manyOf {own : String} {idx : Nat} (h : (Cond.methodLink own idx yX9_manyOf) ∈ BIG) : GoodIn BIG (va_wsS own idx yX9_manyOf vX9_manyOf) := gdS h bw4_233 bw1_11 bw4_234
theorem gX9_manyOf_n : GoodIn BIG vX9_manyOf := gdN bw4_234
def rmX9_manyOf : Room := { frames := 0, cells := 0, slots := 0, locals := 0 }
theorem hdX9_manyOf : yX9_manyOf.cls ≠ "java/lang/invoke/MethodHandle" ∧ yX9_manyOf.cls ≠ "java/lang/invoke/VarHandle" ∧ (parseMethodDescriptor yX9_manyOf.desc).map (fun d => d.parameters.length) = some 1 := by decide +kernel
set_option maxHeartbeats 4000000 in
set_option maxRecDepth 100000 in
theorem kX9_manyOf (l : Launch) (D : va_G) (cS : ClassId) (g : Nat → Nat) (cI : ClassId) (x0 : Int64) (r : Int32) (hF : fX9_manyOf x0 = some r) : mI l yX9_manyOf vX9_manyOf rmX9_manyOf D cI cS g [.long x0] [] r [] := by
  refine st_I rfl (by decide) (Nat.le_of_ble_eq_true rfl) ?_
  intro p e s m args below meth c A ls hx hb hr hml hlocks hown hts hA hK hD0 hG hP hS hl
  have hown : s.vm.findClass RX9 = some m.cls := hown
  have hDa : ∀ u : Unit, va_D A [] := fun _ => hD0
  have htb : ∀ w ∈ BIG, w.before args s = true := fun w h => hts w (List.mem_cons_of_mem _ h)
  have hl : lv_has ls 2 [(0, .long x0)] := hl
  have j71 : ∀ (s0 : Int32) (H : Heap) (locs : List Loc) (ls : Array Slot), fX9_manyOf_j71 s0 = some r → va_P D vwCl [] H → va_S A s.heap H locs → lv_has ls 2 [] → W p l e rmX9_manyOf s m args below meth c H locs 0 0 (MQ below (qI D r [] A) args s 0 0 A) (F0 m 71 ls [.int s0]) := by
    intro s0 H locs ls hF hP hS hl
    exact rt_I hx hb hr hlocks hS hP (so_use hF) dX9_manyOf_71
  have j66 : ∀ (H : Heap) (locs : List Loc) (ls : Array Slot), fX9_manyOf_j66 = some r → va_P D vwCl [] H → va_S A s.heap H locs → lv_has ls 2 [] → W p l e rmX9_manyOf s m args below meth c H locs 0 0 (MQ below (qI D r [] A) args s 0 0 A) (F0 m 66 ls []) := by
    intro H locs ls hF hP hS hl
    refine lv_iconst (v := 1) hx hb dX9_manyOf_66 (by decide) ?_
    refine lv_goto (tgt := 71) hx hb dX9_manyOf_67 (by decide) ?_
    exact j71 1 _ _ _ hF hP hS (lv_sub hl [] rfl)
  refine lv_lload_n hx hb dX9_manyOf_0 rfl (lv_at hl 0 rfl) ?_
  refine lv_ldc2 hx hb hown (htb _ bw4_235) dX9_manyOf_1 ?_
  refine W.lcmp hx hb dX9_manyOf_4 ?_
  refine lv_topi (fun v1 ev1 => ?_)
  have hF := nm_use hF ev1
  refine lv_if_eq (tgt := 24) hx hb dX9_manyOf_5 (by decide) (fun c2 => ?_) (fun c2 => ?_)
  · have hF := it_t hF c2
    refine lv_iconst (v := 4) hx hb dX9_manyOf_24 (by decide) ?_
    exact rt_I hx hb hr hlocks hS hP (so_use hF) dX9_manyOf_25
  · have hF := it_f hF c2
    refine lv_lload_n hx hb dX9_manyOf_8 rfl (lv_at hl 0 rfl) ?_
    refine lv_ldc2 hx hb hown (htb _ bw4_236) dX9_manyOf_9 ?_
    refine W.lcmp hx hb dX9_manyOf_12 ?_
    refine lv_topi (fun v3 ev3 => ?_)
    have hF := nm_use hF ev3
    refine lv_if_eq (tgt := 24) hx hb dX9_manyOf_13 (by decide) (fun c4 => ?_) (fun c4 => ?_)
    · have hF := it_t hF c4
      refine lv_iconst (v := 4) hx hb dX9_manyOf_24 (by decide) ?_
      exact rt_I hx hb hr hlocks hS hP (so_use hF) dX9_manyOf_25
    · have hF := it_f hF c4
      refine lv_lload_n hx hb dX9_manyOf_16 rfl (lv_at hl 0 rfl) ?_
      refine lv_ldc2 hx hb hown (htb _ bw4_237) dX9_manyOf_17 ?_
      refine W.lcmp hx hb dX9_manyOf_20 ?_
      refine lv_topi (fun v5 ev5 => ?_)
      have hF := nm_use hF ev5
      refine lv_if_ne (tgt := 26) hx hb dX9_manyOf_21 (by decide) (fun c6 => ?_) (fun c6 => ?_)
      · have hF := it_f hF c6
        refine lv_lload_n hx hb dX9_manyOf_26 rfl (lv_at hl 0 rfl) ?_
        refine lv_ldc2 hx hb hown (htb _ bw4_238) dX9_manyOf_27 ?_
        refine W.lcmp hx hb dX9_manyOf_30 ?_
        refine lv_topi (fun v7 ev7 => ?_)
        have hF := nm_use hF ev7
        refine lv_if_ne (tgt := 38) hx hb dX9_manyOf_31 (by decide) (fun c8 => ?_) (fun c8 => ?_)
        · have hF := it_f hF c8
          refine lv_lload_n hx hb dX9_manyOf_38 rfl (lv_at hl 0 rfl) ?_
          refine lv_ldc2 hx hb hown (htb _ bw4_239) dX9_manyOf_39 ?_
          refine W.lcmp hx hb dX9_manyOf_42 ?_
          refine lv_topi (fun v9 ev9 => ?_)
          have hF := nm_use hF ev9
          refine lv_if_ne (tgt := 50) hx hb dX9_manyOf_43 (by decide) (fun c10 => ?_) (fun c10 => ?_)
          · have hF := it_f hF c10
            refine lv_lload_n hx hb dX9_manyOf_50 rfl (lv_at hl 0 rfl) ?_
            refine lv_ldc2 hx hb hown (htb _ bw5_0) dX9_manyOf_51 ?_
            refine W.lcmp hx hb dX9_manyOf_54 ?_
            refine lv_topi (fun v11 ev11 => ?_)
            have hF := nm_use hF ev11
            refine lv_if_eq (tgt := 66) hx hb dX9_manyOf_55 (by decide) (fun c12 => ?_) (fun c12 => ?_)
            · have hF := it_t hF c12
              exact j66  _ _ _ hF hP hS (lv_sub hl [] rfl)
            · have hF := it_f hF c12
              refine lv_lload_n hx hb dX9_manyOf_58 rfl (lv_at hl 0 rfl) ?_
              refine lv_ldc2 hx hb hown (htb _ bw5_1) dX9_manyOf_59 ?_
              refine W.lcmp hx hb dX9_manyOf_62 ?_
              refine lv_topi (fun v13 ev13 => ?_)
              have hF := nm_use hF ev13
              refine lv_if_ne (tgt := 70) hx hb dX9_manyOf_63 (by decide) (fun c14 => ?_) (fun c14 => ?_)
              · have hF := it_f hF c14
                refine lv_iconst (v := 0) hx hb dX9_manyOf_70 (by decide) ?_
                exact j71 0 _ _ _ hF hP hS (lv_sub hl [] rfl)
              · have hF := it_t hF c14
                exact j66  _ _ _ hF hP hS (lv_sub hl [] rfl)
          · have hF := it_t hF c10
            refine lv_iconst (v := 2) hx hb dX9_manyOf_46 (by decide) ?_
            refine lv_goto (tgt := 71) hx hb dX9_manyOf_47 (by decide) ?_
            exact j71 2 _ _ _ hF hP hS (lv_sub hl [] rfl)
        · have hF := it_t hF c8
          refine lv_iconst (v := 3) hx hb dX9_manyOf_34 (by decide) ?_
          refine lv_goto (tgt := 71) hx hb dX9_manyOf_35 (by decide) ?_
          exact j71 3 _ _ _ hF hP hS (lv_sub hl [] rfl)
      · have hF := it_t hF c6
        refine lv_iconst (v := 4) hx hb dX9_manyOf_24 (by decide) ?_
        exact rt_I hx hb hr hlocks hS hP (so_use hF) dX9_manyOf_25
noncomputable def fX9_isRoom_j19  (M : Md) (s0 : Int32) : Option (Int32) := Zb s0 (some s0)
noncomputable def fX9_isRoom_j18  (M : Md) : Option (Int32) := fX9_isRoom_j19 M 0
noncomputable def fX9_isRoom  (M : Md) (x1 : Int32) : Option (Int32) := if x1 < 0 then (fX9_isRoom_j18 M) else (Rd (M.1) 1553 0 fun v2 => if v2 ≤ x1 then (fX9_isRoom_j18 M) else (fX9_isRoom_j19 M 1))
abbrev vX9_isRoom : List Cond := Cond.code yX9_isRoom cX9_isRoom 2 (some .boolean) :: BIG
theorem gX9_isRoom {own : String} {idx : Nat} (h : (Cond.methodLink own idx yX9_isRoom) ∈ BIG) : GoodIn BIG (wsV own idx RX9 yX9_isRoom vX9_isRoom) := gdV h bw4_81 bs24 bw1_11 bw4_82
def rmX9_isRoom : Room := { frames := 0, cells := 0, slots := 0, locals := 0 }
theorem hdX9_isRoom : yX9_isRoom.cls = RX9 ∧ yX9_isRoom.cls ≠ "java/lang/invoke/MethodHandle" ∧ yX9_isRoom.cls ≠ "java/lang/invoke/VarHandle" ∧ (parseMethodDescriptor yX9_isRoom.desc).map (fun d => d.parameters.length) = some 1 := by decide +kernel
set_option maxHeartbeats 4000000 in
set_option maxRecDepth 100000 in
theorem kX9_isRoom (l : Launch) (D : va_G) (cS : ClassId) (g : Nat → Nat) (cI : ClassId) (b : Nat → Nat) (M : Md) (x1 : Int32) (r : Int32) (hF : fX9_isRoom M x1 = some r) : mI l yX9_isRoom vX9_isRoom rmX9_isRoom D cI cS g [.ref (b 0), .int x1] (wMd cI b M) r (wMd cI b M) := by
  refine st_I rfl (by decide) (Nat.le_of_ble_eq_true rfl) ?_
  intro p e s m args below meth c A ls hx hb hr hml hlocks hown hts hA hK hD0 hG hP hS hl
  have hown : s.vm.findClass RX9 = some m.cls := hown
  have hDa : ∀ M, va_D A (wMd cI b M) := fun M => hD0.adr rfl
  have htb : ∀ w ∈ BIG, w.before args s = true := fun w h => hts w (List.mem_cons_of_mem _ h)
  have hl : lv_has ls 2 [(0, .ref (b 0)), (1, .int x1)] := hl
  have j19 : ∀ (s0 : Int32) (H : Heap) (locs : List Loc) (ls : Array Slot), fX9_isRoom_j19 M s0 = some r → va_P D vwCl (wMd cI b M) H → va_S A s.heap H locs → lv_has ls 2 [] → W p l e rmX9_isRoom s m args below meth c H locs 0 0 (MQ below (qI D r (wMd cI b M) A) args s 0 0 A) (F0 m 19 ls [.int s0]) := by
    intro s0 H locs ls hF hP hS hl
    obtain ⟨hz, hF⟩ := zb_use hF
    exact rt_Z hx hb hr hlocks hS hP hz (so_use hF) dX9_isRoom_19
  have j18 : ∀ (H : Heap) (locs : List Loc) (ls : Array Slot), fX9_isRoom_j18 M = some r → va_P D vwCl (wMd cI b M) H → va_S A s.heap H locs → lv_has ls 2 [] → W p l e rmX9_isRoom s m args below meth c H locs 0 0 (MQ below (qI D r (wMd cI b M) A) args s 0 0 A) (F0 m 18 ls []) := by
    intro H locs ls hF hP hS hl
    refine lv_iconst (v := 0) hx hb dX9_isRoom_18 (by decide) ?_
    exact j19 0 _ _ _ hF hP hS (lv_sub hl [] rfl)
  refine lv_iload_n hx hb dX9_isRoom_0 rfl (lv_at hl 1 rfl) ?_
  refine lv_if_lt (tgt := 18) hx hb dX9_isRoom_1 (by decide) (fun c1 => ?_) (fun c1 => ?_)
  · have hF := it_t hF c1
    exact j18  _ _ _ hF hP hS (lv_sub hl [] rfl)
  · have hF := it_f hF c1
    refine lv_iload_n hx hb dX9_isRoom_4 rfl (lv_at hl 1 rfl) ?_
    refine lv_aload_n hx hb dX9_isRoom_5 rfl (lv_at hl 0 rfl) ?_
    refine va_get (ci := 9) (v := .ref (b 1)) (C := RX9) (T := TX9) (N := 10) hx hb htb kin9 hown hK hP 0 (pMd_0 cI b M) rfl 0 (by decide) (htb _ bw4_25) (fun _ h9 => h9) rfl dX9_isRoom_6 ?_
    refine lv_iconst (v := 0) hx hb dX9_isRoom_9 (by decide) ?_
    obtain ⟨hi, hF⟩ := rd_use hF
    refine va_iald hx hb hK hP 1 0 (pMd_1 cI b M) rfl hi dX9_isRoom_10 ?_
    refine lv_topi (fun v2 ev2 => ?_)
    have hF := hF v2 ev2
    refine lv_icmp_ge (tgt := 18) hx hb dX9_isRoom_11 (by decide) (fun c3 => ?_) (fun c3 => ?_)
    · have hF := it_t hF c3
      exact j18  _ _ _ hF hP hS (lv_sub hl [] rfl)
    · have hF := it_f hF c3
      refine lv_iconst (v := 1) hx hb dX9_isRoom_14 (by decide) ?_
      refine lv_goto (tgt := 19) hx hb dX9_isRoom_15 (by decide) ?_
      exact j19 1 _ _ _ hF hP hS (lv_sub hl [] rfl)
noncomputable def fX9_isBooking_j19  (M : Md) (s0 : Int32) : Option (Int32) := Zb s0 (some s0)
noncomputable def fX9_isBooking_j18  (M : Md) : Option (Int32) := fX9_isBooking_j19 M 0
noncomputable def fX9_isBooking  (M : Md) (x1 : Int32) : Option (Int32) := if x1 < 0 then (fX9_isBooking_j18 M) else (Rd (M.1) 1553 1 fun v2 => if v2 ≤ x1 then (fX9_isBooking_j18 M) else (fX9_isBooking_j19 M 1))
abbrev vX9_isBooking : List Cond := Cond.code yX9_isBooking cX9_isBooking 2 (some .boolean) :: BIG
theorem gX9_isBooking {own : String} {idx : Nat} (h : (Cond.methodLink own idx yX9_isBooking) ∈ BIG) : GoodIn BIG (wsV own idx RX9 yX9_isBooking vX9_isBooking) := gdV h bw4_135 bs32 bw1_11 bw4_136
def rmX9_isBooking : Room := { frames := 0, cells := 0, slots := 0, locals := 0 }
theorem hdX9_isBooking : yX9_isBooking.cls = RX9 ∧ yX9_isBooking.cls ≠ "java/lang/invoke/MethodHandle" ∧ yX9_isBooking.cls ≠ "java/lang/invoke/VarHandle" ∧ (parseMethodDescriptor yX9_isBooking.desc).map (fun d => d.parameters.length) = some 1 := by decide +kernel
set_option maxHeartbeats 4000000 in
set_option maxRecDepth 100000 in
theorem kX9_isBooking (l : Launch) (D : va_G) (cS : ClassId) (g : Nat → Nat) (cI : ClassId) (b : Nat → Nat) (M : Md) (x1 : Int32) (r : Int32) (hF : fX9_isBooking M x1 = some r) : mI l yX9_isBooking vX9_isBooking rmX9_isBooking D cI cS g [.ref (b 0), .int x1] (wMd cI b M) r (wMd cI b M) := by
  refine st_I rfl (by decide) (Nat.le_of_ble_eq_true rfl) ?_
  intro p e s m args below meth c A ls hx hb hr hml hlocks hown hts hA hK hD0 hG hP hS hl
  have hown : s.vm.findClass RX9 = some m.cls := hown
  have hDa : ∀ M, va_D A (wMd cI b M) := fun M => hD0.adr rfl
  have htb : ∀ w ∈ BIG, w.before args s = true := fun w h => hts w (List.mem_cons_of_mem _ h)
  have hl : lv_has ls 2 [(0, .ref (b 0)), (1, .int x1)] := hl
  have j19 : ∀ (s0 : Int32) (H : Heap) (locs : List Loc) (ls : Array Slot), fX9_isBooking_j19 M s0 = some r → va_P D vwCl (wMd cI b M) H → va_S A s.heap H locs → lv_has ls 2 [] → W p l e rmX9_isBooking s m args below meth c H locs 0 0 (MQ below (qI D r (wMd cI b M) A) args s 0 0 A) (F0 m 19 ls [.int s0]) := by
    intro s0 H locs ls hF hP hS hl
    obtain ⟨hz, hF⟩ := zb_use hF
    exact rt_Z hx hb hr hlocks hS hP hz (so_use hF) dX9_isBooking_19
  have j18 : ∀ (H : Heap) (locs : List Loc) (ls : Array Slot), fX9_isBooking_j18 M = some r → va_P D vwCl (wMd cI b M) H → va_S A s.heap H locs → lv_has ls 2 [] → W p l e rmX9_isBooking s m args below meth c H locs 0 0 (MQ below (qI D r (wMd cI b M) A) args s 0 0 A) (F0 m 18 ls []) := by
    intro H locs ls hF hP hS hl
    refine lv_iconst (v := 0) hx hb dX9_isBooking_18 (by decide) ?_
    exact j19 0 _ _ _ hF hP hS (lv_sub hl [] rfl)
  refine lv_iload_n hx hb dX9_isBooking_0 rfl (lv_at hl 1 rfl) ?_
  refine lv_if_lt (tgt := 18) hx hb dX9_isBooking_1 (by decide) (fun c1 => ?_) (fun c1 => ?_)
  · have hF := it_t hF c1
    exact j18  _ _ _ hF hP hS (lv_sub hl [] rfl)
  · have hF := it_f hF c1
    refine lv_iload_n hx hb dX9_isBooking_4 rfl (lv_at hl 1 rfl) ?_
    refine lv_aload_n hx hb dX9_isBooking_5 rfl (lv_at hl 0 rfl) ?_
    refine va_get (ci := 9) (v := .ref (b 1)) (C := RX9) (T := TX9) (N := 10) hx hb htb kin9 hown hK hP 0 (pMd_0 cI b M) rfl 0 (by decide) (htb _ bw4_25) (fun _ h9 => h9) rfl dX9_isBooking_6 ?_
    refine lv_iconst (v := 1) hx hb dX9_isBooking_9 (by decide) ?_
    obtain ⟨hi, hF⟩ := rd_use hF
    refine va_iald hx hb hK hP 1 0 (pMd_1 cI b M) rfl hi dX9_isBooking_10 ?_
    refine lv_topi (fun v2 ev2 => ?_)
    have hF := hF v2 ev2
    refine lv_icmp_ge (tgt := 18) hx hb dX9_isBooking_11 (by decide) (fun c3 => ?_) (fun c3 => ?_)
    · have hF := it_t hF c3
      exact j18  _ _ _ hF hP hS (lv_sub hl [] rfl)
    · have hF := it_f hF c3
      refine lv_iconst (v := 1) hx hb dX9_isBooking_14 (by decide) ?_
      refine lv_goto (tgt := 19) hx hb dX9_isBooking_15 (by decide) ?_
      exact j19 1 _ _ _ hF hP hS (lv_sub hl [] rfl)
noncomputable def fX9_isVoucher_j19  (M : Md) (s0 : Int32) : Option (Int32) := Zb s0 (some s0)
noncomputable def fX9_isVoucher_j18  (M : Md) : Option (Int32) := fX9_isVoucher_j19 M 0
noncomputable def fX9_isVoucher  (M : Md) (x1 : Int32) : Option (Int32) := if x1 < 0 then (fX9_isVoucher_j18 M) else (Rd (M.1) 1553 2 fun v2 => if v2 ≤ x1 then (fX9_isVoucher_j18 M) else (fX9_isVoucher_j19 M 1))
abbrev vX9_isVoucher : List Cond := Cond.code yX9_isVoucher cX9_isVoucher 2 (some .boolean) :: BIG
theorem gX9_isVoucher {own : String} {idx : Nat} (h : (Cond.methodLink own idx yX9_isVoucher) ∈ BIG) : GoodIn BIG (wsV own idx RX9 yX9_isVoucher vX9_isVoucher) := gdV h bw4_112 bs28 bw1_11 bw4_113
def rmX9_isVoucher : Room := { frames := 0, cells := 0, slots := 0, locals := 0 }
theorem hdX9_isVoucher : yX9_isVoucher.cls = RX9 ∧ yX9_isVoucher.cls ≠ "java/lang/invoke/MethodHandle" ∧ yX9_isVoucher.cls ≠ "java/lang/invoke/VarHandle" ∧ (parseMethodDescriptor yX9_isVoucher.desc).map (fun d => d.parameters.length) = some 1 := by decide +kernel
set_option maxHeartbeats 4000000 in
set_option maxRecDepth 100000 in
theorem kX9_isVoucher (l : Launch) (D : va_G) (cS : ClassId) (g : Nat → Nat) (cI : ClassId) (b : Nat → Nat) (M : Md) (x1 : Int32) (r : Int32) (hF : fX9_isVoucher M x1 = some r) : mI l yX9_isVoucher vX9_isVoucher rmX9_isVoucher D cI cS g [.ref (b 0), .int x1] (wMd cI b M) r (wMd cI b M) := by
  refine st_I rfl (by decide) (Nat.le_of_ble_eq_true rfl) ?_
  intro p e s m args below meth c A ls hx hb hr hml hlocks hown hts hA hK hD0 hG hP hS hl
  have hown : s.vm.findClass RX9 = some m.cls := hown
  have hDa : ∀ M, va_D A (wMd cI b M) := fun M => hD0.adr rfl
  have htb : ∀ w ∈ BIG, w.before args s = true := fun w h => hts w (List.mem_cons_of_mem _ h)
  have hl : lv_has ls 2 [(0, .ref (b 0)), (1, .int x1)] := hl
  have j19 : ∀ (s0 : Int32) (H : Heap) (locs : List Loc) (ls : Array Slot), fX9_isVoucher_j19 M s0 = some r → va_P D vwCl (wMd cI b M) H → va_S A s.heap H locs → lv_has ls 2 [] → W p l e rmX9_isVoucher s m args below meth c H locs 0 0 (MQ below (qI D r (wMd cI b M) A) args s 0 0 A) (F0 m 19 ls [.int s0]) := by
    intro s0 H locs ls hF hP hS hl
    obtain ⟨hz, hF⟩ := zb_use hF
    exact rt_Z hx hb hr hlocks hS hP hz (so_use hF) dX9_isVoucher_19
  have j18 : ∀ (H : Heap) (locs : List Loc) (ls : Array Slot), fX9_isVoucher_j18 M = some r → va_P D vwCl (wMd cI b M) H → va_S A s.heap H locs → lv_has ls 2 [] → W p l e rmX9_isVoucher s m args below meth c H locs 0 0 (MQ below (qI D r (wMd cI b M) A) args s 0 0 A) (F0 m 18 ls []) := by
    intro H locs ls hF hP hS hl
    refine lv_iconst (v := 0) hx hb dX9_isVoucher_18 (by decide) ?_
    exact j19 0 _ _ _ hF hP hS (lv_sub hl [] rfl)
  refine lv_iload_n hx hb dX9_isVoucher_0 rfl (lv_at hl 1 rfl) ?_
  refine lv_if_lt (tgt := 18) hx hb dX9_isVoucher_1 (by decide) (fun c1 => ?_) (fun c1 => ?_)
  · have hF := it_t hF c1
    exact j18  _ _ _ hF hP hS (lv_sub hl [] rfl)
  · have hF := it_f hF c1
    refine lv_iload_n hx hb dX9_isVoucher_4 rfl (lv_at hl 1 rfl) ?_
    refine lv_aload_n hx hb dX9_isVoucher_5 rfl (lv_at hl 0 rfl) ?_
    refine va_get (ci := 9) (v := .ref (b 1)) (C := RX9) (T := TX9) (N := 10) hx hb htb kin9 hown hK hP 0 (pMd_0 cI b M) rfl 0 (by decide) (htb _ bw4_25) (fun _ h9 => h9) rfl dX9_isVoucher_6 ?_
    refine lv_iconst (v := 2) hx hb dX9_isVoucher_9 (by decide) ?_
    obtain ⟨hi, hF⟩ := rd_use hF
    refine va_iald hx hb hK hP 1 0 (pMd_1 cI b M) rfl hi dX9_isVoucher_10 ?_
    refine lv_topi (fun v2 ev2 => ?_)
    have hF := hF v2 ev2
    refine lv_icmp_ge (tgt := 18) hx hb dX9_isVoucher_11 (by decide) (fun c3 => ?_) (fun c3 => ?_)
    · have hF := it_t hF c3
      exact j18  _ _ _ hF hP hS (lv_sub hl [] rfl)
    · have hF := it_f hF c3
      refine lv_iconst (v := 1) hx hb dX9_isVoucher_14 (by decide) ?_
      refine lv_goto (tgt := 19) hx hb dX9_isVoucher_15 (by decide) ?_
      exact j19 1 _ _ _ hF hP hS (lv_sub hl [] rfl)
noncomputable def fX9_of  (M : Md) (x1 : Int32) (x2 : Int32) : Option (Int32) := Rd (M.1) 1553 ((9 + (11 * x1)) + x2) fun v1 => some v1
abbrev vX9_of : List Cond := Cond.code yX9_of cX9_of 3 (some .int) :: BIG
theorem gX9_of {own : String} {idx : Nat} (h : (Cond.methodLink own idx yX9_of) ∈ BIG) : GoodIn BIG (wsV own idx RX9 yX9_of vX9_of) := gdV h bw4_85 bs25 bw1_11 bw4_86
def rmX9_of : Room := { frames := 0, cells := 0, slots := 0, locals := 0 }
theorem hdX9_of : yX9_of.cls = RX9 ∧ yX9_of.cls ≠ "java/lang/invoke/MethodHandle" ∧ yX9_of.cls ≠ "java/lang/invoke/VarHandle" ∧ (parseMethodDescriptor yX9_of.desc).map (fun d => d.parameters.length) = some 2 := by decide +kernel
set_option maxHeartbeats 4000000 in
set_option maxRecDepth 100000 in
theorem kX9_of (l : Launch) (D : va_G) (cS : ClassId) (g : Nat → Nat) (cI : ClassId) (b : Nat → Nat) (M : Md) (x1 : Int32) (x2 : Int32) (r : Int32) (hF : fX9_of M x1 x2 = some r) : mI l yX9_of vX9_of rmX9_of D cI cS g [.ref (b 0), .int x1, .int x2] (wMd cI b M) r (wMd cI b M) := by
  refine st_I rfl (by decide) (Nat.le_of_ble_eq_true rfl) ?_
  intro p e s m args below meth c A ls hx hb hr hml hlocks hown hts hA hK hD0 hG hP hS hl
  have hown : s.vm.findClass RX9 = some m.cls := hown
  have hDa : ∀ M, va_D A (wMd cI b M) := fun M => hD0.adr rfl
  have htb : ∀ w ∈ BIG, w.before args s = true := fun w h => hts w (List.mem_cons_of_mem _ h)
  have hl : lv_has ls 3 [(0, .ref (b 0)), (1, .int x1), (2, .int x2)] := hl
  refine lv_aload_n hx hb dX9_of_0 rfl (lv_at hl 0 rfl) ?_
  refine va_get (ci := 9) (v := .ref (b 1)) (C := RX9) (T := TX9) (N := 10) hx hb htb kin9 hown hK hP 0 (pMd_0 cI b M) rfl 0 (by decide) (htb _ bw4_25) (fun _ h9 => h9) rfl dX9_of_1 ?_
  refine lv_bipush (v := 9) hx hb dX9_of_4 (by decide) ?_
  refine lv_bipush (v := 11) hx hb dX9_of_6 (by decide) ?_
  refine lv_iload_n hx hb dX9_of_8 rfl (lv_at hl 1 rfl) ?_
  refine lv_imul hx hb dX9_of_9 ?_
  refine lv_iadd hx hb dX9_of_10 ?_
  refine lv_iload_n hx hb dX9_of_11 rfl (lv_at hl 2 rfl) ?_
  refine lv_iadd hx hb dX9_of_12 ?_
  obtain ⟨hi, hF⟩ := rd_use hF
  refine va_iald hx hb hK hP 1 0 (pMd_1 cI b M) rfl hi dX9_of_13 ?_
  refine lv_topi (fun v1 ev1 => ?_)
  have hF := hF v1 ev1
  exact rt_I hx hb hr hlocks hS hP (so_use hF) dX9_of_14
noncomputable def fX9_its  (M : Md) (x1 : Int32) (x2 : Int32) : Option (Int32) := Rd (M.1) 1553 ((53 + (9 * x1)) + x2) fun v1 => some v1
abbrev vX9_its : List Cond := Cond.code yX9_its cX9_its 3 (some .int) :: BIG
theorem gX9_its {own : String} {idx : Nat} (h : (Cond.methodLink own idx yX9_its) ∈ BIG) : GoodIn BIG (wsV own idx RX9 yX9_its vX9_its) := gdV h bw4_120 bs30 bw1_11 bw4_121
def rmX9_its : Room := { frames := 0, cells := 0, slots := 0, locals := 0 }
theorem hdX9_its : yX9_its.cls = RX9 ∧ yX9_its.cls ≠ "java/lang/invoke/MethodHandle" ∧ yX9_its.cls ≠ "java/lang/invoke/VarHandle" ∧ (parseMethodDescriptor yX9_its.desc).map (fun d => d.parameters.length) = some 2 := by decide +kernel
set_option maxHeartbeats 4000000 in
set_option maxRecDepth 100000 in
theorem kX9_its (l : Launch) (D : va_G) (cS : ClassId) (g : Nat → Nat) (cI : ClassId) (b : Nat → Nat) (M : Md) (x1 : Int32) (x2 : Int32) (r : Int32) (hF : fX9_its M x1 x2 = some r) : mI l yX9_its vX9_its rmX9_its D cI cS g [.ref (b 0), .int x1, .int x2] (wMd cI b M) r (wMd cI b M) := by
  refine st_I rfl (by decide) (Nat.le_of_ble_eq_true rfl) ?_
  intro p e s m args below meth c A ls hx hb hr hml hlocks hown hts hA hK hD0 hG hP hS hl
  have hown : s.vm.findClass RX9 = some m.cls := hown
  have hDa : ∀ M, va_D A (wMd cI b M) := fun M => hD0.adr rfl
  have htb : ∀ w ∈ BIG, w.before args s = true := fun w h => hts w (List.mem_cons_of_mem _ h)
  have hl : lv_has ls 3 [(0, .ref (b 0)), (1, .int x1), (2, .int x2)] := hl
  refine lv_aload_n hx hb dX9_its_0 rfl (lv_at hl 0 rfl) ?_
  refine va_get (ci := 9) (v := .ref (b 1)) (C := RX9) (T := TX9) (N := 10) hx hb htb kin9 hown hK hP 0 (pMd_0 cI b M) rfl 0 (by decide) (htb _ bw4_25) (fun _ h9 => h9) rfl dX9_its_1 ?_
  refine lv_bipush (v := 53) hx hb dX9_its_4 (by decide) ?_
  refine lv_bipush (v := 9) hx hb dX9_its_6 (by decide) ?_
  refine lv_iload_n hx hb dX9_its_8 rfl (lv_at hl 1 rfl) ?_
  refine lv_imul hx hb dX9_its_9 ?_
  refine lv_iadd hx hb dX9_its_10 ?_
  refine lv_iload_n hx hb dX9_its_11 rfl (lv_at hl 2 rfl) ?_
  refine lv_iadd hx hb dX9_its_12 ?_
  obtain ⟨hi, hF⟩ := rd_use hF
  refine va_iald hx hb hK hP 1 0 (pMd_1 cI b M) rfl hi dX9_its_13 ?_
  refine lv_topi (fun v1 ev1 => ?_)
  have hF := hF v1 ev1
  exact rt_I hx hb hr hlocks hS hP (so_use hF) dX9_its_14
noncomputable def fX9_hold_l2  : Nat → Md → Int32 → Option (Md) := fun fu => Nat.rec (motive := fun _ => Md → Int32 → Option (Md)) (fun _ _ => none) (fun _ ih => fun M x1 => if 1553 ≤ x1 then (some M) else (Rd (M.1) 1553 x1 fun v2 => Wr (M.2.2.1) 1553 x1 v2 fun f3 => nm ((M.1, M.2.1, f3, M.2.2.2)) fun M4 => nm (x1 + 1) fun v5 => ih M4 v5)) fu
theorem fX9_hold_l2_s  (fu : Nat) (M : Md) (x1 : Int32) : fX9_hold_l2  (fu + 1) M x1 = (if 1553 ≤ x1 then (some M) else (Rd (M.1) 1553 x1 fun v2 => Wr (M.2.2.1) 1553 x1 v2 fun f3 => nm ((M.1, M.2.1, f3, M.2.2.2)) fun M4 => nm (x1 + 1) fun v5 => (fX9_hold_l2  fu) M4 v5)) := rfl
theorem fX9_hold_l2_z  (M : Md) (x1 : Int32) : fX9_hold_l2  0 M x1 = none := rfl
noncomputable def fX9_hold  (M : Md) : Option (Md) := fX9_hold_l2 FU M 0
abbrev vX9_hold : List Cond := Cond.code yX9_hold cX9_hold 2 none :: BIG
theorem gX9_hold {own : String} {idx : Nat} (h : (Cond.methodLink own idx yX9_hold) ∈ BIG) : GoodIn BIG (wsV own idx RX9 yX9_hold vX9_hold) := gdV h bw4_62 bs21 bw1_11 bw4_63
def rmX9_hold : Room := { frames := 0, cells := 0, slots := 0, locals := 0 }
theorem hdX9_hold : yX9_hold.cls = RX9 ∧ yX9_hold.cls ≠ "java/lang/invoke/MethodHandle" ∧ yX9_hold.cls ≠ "java/lang/invoke/VarHandle" ∧ (parseMethodDescriptor yX9_hold.desc).map (fun d => d.parameters.length) = some 0 := by decide +kernel
set_option maxHeartbeats 4000000 in
set_option maxRecDepth 100000 in
theorem kX9_hold (l : Launch) (D : va_G) (cS : ClassId) (g : Nat → Nat) (cI : ClassId) (b : Nat → Nat) (M : Md) (M' : Md) (hF : fX9_hold M = some M') : mV l yX9_hold vX9_hold rmX9_hold D cI cS g [.ref (b 0)] (wMd cI b M) (wMd cI b (M')) := by
  refine st_V rfl (by decide) (Nat.le_of_ble_eq_true rfl) ?_
  intro p e s m args below meth c A ls hx hb hr hml hlocks hown hts hA hK hD0 hG hP hS hl
  have hown : s.vm.findClass RX9 = some m.cls := hown
  have hDa : ∀ M, va_D A (wMd cI b M) := fun M => hD0.adr rfl
  have htb : ∀ w ∈ BIG, w.before args s = true := fun w h => hts w (List.mem_cons_of_mem _ h)
  have hl : lv_has ls 2 [(0, .ref (b 0))] := hl
  have l2 : ∀ (fu : Nat) (M : Md) (x1 : Int32) (H : Heap) (locs : List Loc) (ls : Array Slot), fX9_hold_l2  fu M x1 = some M' → va_P D vwCl (wMd cI b M) H → va_S A s.heap H locs → lv_has ls 2 [(0, .ref (b 0)), (1, .int x1)] → W p l e rmX9_hold s m args below meth c H locs 0 0 (MQ below (qV D (wMd cI b (M')) A) args s 0 0 A) (F0 m 2 ls []) := by
    intro  fu
    induction fu with
    | zero => intro M x1 H locs ls hF; exact nn_use hF
    | succ fu ihn =>
      intro M x1 H locs ls hF hP hS hl 
      rw [fX9_hold_l2_s] at hF
      refine lv_iload_n hx hb dX9_hold_2 rfl (lv_at hl 1 rfl) ?_
      refine lv_sipush (v := 1553) hx hb dX9_hold_3 (by decide) ?_
      refine lv_icmp_ge (tgt := 27) hx hb dX9_hold_6 (by decide) (fun c1 => ?_) (fun c1 => ?_)
      · have hF := it_t hF c1
        exact rt_V hx hb hr hlocks hS (by rw [← so_use hF]; exact hP) dX9_hold_27
      · have hF := it_f hF c1
        refine lv_aload_n hx hb dX9_hold_9 rfl (lv_at hl 0 rfl) ?_
        refine va_get (ci := 9) (v := .ref (b 3)) (C := RX9) (T := TX9) (N := 10) hx hb htb kin9 hown hK hP 0 (pMd_0 cI b M) rfl 2 (by decide) (htb _ bw4_27) (fun _ h9 => h9) rfl dX9_hold_10 ?_
        refine lv_iload_n hx hb dX9_hold_13 rfl (lv_at hl 1 rfl) ?_
        refine lv_aload_n hx hb dX9_hold_14 rfl (lv_at hl 0 rfl) ?_
        refine va_get (ci := 9) (v := .ref (b 1)) (C := RX9) (T := TX9) (N := 10) hx hb htb kin9 hown hK hP 0 (pMd_0 cI b M) rfl 0 (by decide) (htb _ bw4_25) (fun _ h9 => h9) rfl dX9_hold_15 ?_
        refine lv_iload_n hx hb dX9_hold_18 rfl (lv_at hl 1 rfl) ?_
        obtain ⟨hi, hF⟩ := rd_use hF
        refine va_iald hx hb hK hP 1 0 (pMd_1 cI b M) rfl hi dX9_hold_19 ?_
        refine lv_topi (fun v2 ev2 => ?_)
        have hF := hF v2 ev2
        obtain ⟨hi, hF⟩ := wr_use hF
        refine va_iast hx hb hK hP (hDa _) hS 3 0 (pMd_3 cI b M) rfl hi dX9_hold_20 (fun H locs hP _ hS => ?_)
        obtain ⟨M4, eM4⟩ : ∃ z : Md, z = (M.1, M.2.1, (upd (M.2.2.1) (x1 : Int32).toNatClampNeg v2), M.2.2.2) := ⟨_, rfl⟩
        have hF := nm_use hF eM4
        have hP : va_P D vwCl (wMd cI b M4) H := by rw [eM4]; exact hP
        obtain ⟨v5, ev5⟩ : ∃ z : Int32, z = x1 + 1 := ⟨_, rfl⟩
        refine lv_iinc (v := v5) (lv' := [(1, .int v5), (0, .ref (b 0))]) hx hb dX9_hold_21 hl (k := 1) rfl (by rw [ev5]; rfl) (by decide) rfl (fun ls hl => ?_)
        have hF := nm_use hF ev5
        refine lv_goto (tgt := 2) hx hb dX9_hold_24 (by decide) ?_
        exact ihn M4 v5 _ _ _ hF hP hS (lv_sub hl [1, 0] rfl)
  refine lv_iconst (v := 0) hx hb dX9_hold_0 (by decide) ?_
  refine lv_istore_n (lv' := [(1, .int 0), (0, .ref (b 0))]) hx hb dX9_hold_1 rfl hl (by decide) rfl (fun ls hl => ?_)
  refine l2   _ M 0 _ _ _ hF hP hS (lv_sub hl [1, 0] rfl)
noncomputable def fX9_lets_l2  : Nat → Md → Int32 → Option (Md) := fun fu => Nat.rec (motive := fun _ => Md → Int32 → Option (Md)) (fun _ _ => none) (fun _ ih => fun M x1 => if 1553 ≤ x1 then (some M) else (Rd (M.2.2.1) 1553 x1 fun v2 => Wr (M.1) 1553 x1 v2 fun f3 => nm ((f3, M.2)) fun M4 => nm (x1 + 1) fun v5 => ih M4 v5)) fu
theorem fX9_lets_l2_s  (fu : Nat) (M : Md) (x1 : Int32) : fX9_lets_l2  (fu + 1) M x1 = (if 1553 ≤ x1 then (some M) else (Rd (M.2.2.1) 1553 x1 fun v2 => Wr (M.1) 1553 x1 v2 fun f3 => nm ((f3, M.2)) fun M4 => nm (x1 + 1) fun v5 => (fX9_lets_l2  fu) M4 v5)) := rfl
theorem fX9_lets_l2_z  (M : Md) (x1 : Int32) : fX9_lets_l2  0 M x1 = none := rfl
noncomputable def fX9_lets  (M : Md) : Option (Md) := fX9_lets_l2 FU M 0
abbrev vX9_lets : List Cond := Cond.code yX9_lets cX9_lets 2 none :: BIG
theorem gX9_lets {own : String} {idx : Nat} (h : (Cond.methodLink own idx yX9_lets) ∈ BIG) : GoodIn BIG (wsV own idx RX9 yX9_lets vX9_lets) := gdV h bw5_16 bs50 bw1_11 bw5_17
def rmX9_lets : Room := { frames := 0, cells := 0, slots := 0, locals := 0 }
theorem hdX9_lets : yX9_lets.cls = RX9 ∧ yX9_lets.cls ≠ "java/lang/invoke/MethodHandle" ∧ yX9_lets.cls ≠ "java/lang/invoke/VarHandle" ∧ (parseMethodDescriptor yX9_lets.desc).map (fun d => d.parameters.length) = some 0 := by decide +kernel
set_option maxHeartbeats 4000000 in
set_option maxRecDepth 100000 in
theorem kX9_lets (l : Launch) (D : va_G) (cS : ClassId) (g : Nat → Nat) (cI : ClassId) (b : Nat → Nat) (M : Md) (M' : Md) (hF : fX9_lets M = some M') : mV l yX9_lets vX9_lets rmX9_lets D cI cS g [.ref (b 0)] (wMd cI b M) (wMd cI b (M')) := by
  refine st_V rfl (by decide) (Nat.le_of_ble_eq_true rfl) ?_
  intro p e s m args below meth c A ls hx hb hr hml hlocks hown hts hA hK hD0 hG hP hS hl
  have hown : s.vm.findClass RX9 = some m.cls := hown
  have hDa : ∀ M, va_D A (wMd cI b M) := fun M => hD0.adr rfl
  have htb : ∀ w ∈ BIG, w.before args s = true := fun w h => hts w (List.mem_cons_of_mem _ h)
  have hl : lv_has ls 2 [(0, .ref (b 0))] := hl
  have l2 : ∀ (fu : Nat) (M : Md) (x1 : Int32) (H : Heap) (locs : List Loc) (ls : Array Slot), fX9_lets_l2  fu M x1 = some M' → va_P D vwCl (wMd cI b M) H → va_S A s.heap H locs → lv_has ls 2 [(0, .ref (b 0)), (1, .int x1)] → W p l e rmX9_lets s m args below meth c H locs 0 0 (MQ below (qV D (wMd cI b (M')) A) args s 0 0 A) (F0 m 2 ls []) := by
    intro  fu
    induction fu with
    | zero => intro M x1 H locs ls hF; exact nn_use hF
    | succ fu ihn =>
      intro M x1 H locs ls hF hP hS hl 
      rw [fX9_lets_l2_s] at hF
      refine lv_iload_n hx hb dX9_lets_2 rfl (lv_at hl 1 rfl) ?_
      refine lv_sipush (v := 1553) hx hb dX9_lets_3 (by decide) ?_
      refine lv_icmp_ge (tgt := 27) hx hb dX9_lets_6 (by decide) (fun c1 => ?_) (fun c1 => ?_)
      · have hF := it_t hF c1
        exact rt_V hx hb hr hlocks hS (by rw [← so_use hF]; exact hP) dX9_lets_27
      · have hF := it_f hF c1
        refine lv_aload_n hx hb dX9_lets_9 rfl (lv_at hl 0 rfl) ?_
        refine va_get (ci := 9) (v := .ref (b 1)) (C := RX9) (T := TX9) (N := 10) hx hb htb kin9 hown hK hP 0 (pMd_0 cI b M) rfl 0 (by decide) (htb _ bw4_25) (fun _ h9 => h9) rfl dX9_lets_10 ?_
        refine lv_iload_n hx hb dX9_lets_13 rfl (lv_at hl 1 rfl) ?_
        refine lv_aload_n hx hb dX9_lets_14 rfl (lv_at hl 0 rfl) ?_
        refine va_get (ci := 9) (v := .ref (b 3)) (C := RX9) (T := TX9) (N := 10) hx hb htb kin9 hown hK hP 0 (pMd_0 cI b M) rfl 2 (by decide) (htb _ bw4_27) (fun _ h9 => h9) rfl dX9_lets_15 ?_
        refine lv_iload_n hx hb dX9_lets_18 rfl (lv_at hl 1 rfl) ?_
        obtain ⟨hi, hF⟩ := rd_use hF
        refine va_iald hx hb hK hP 3 0 (pMd_3 cI b M) rfl hi dX9_lets_19 ?_
        refine lv_topi (fun v2 ev2 => ?_)
        have hF := hF v2 ev2
        obtain ⟨hi, hF⟩ := wr_use hF
        refine va_iast hx hb hK hP (hDa _) hS 1 0 (pMd_1 cI b M) rfl hi dX9_lets_20 (fun H locs hP _ hS => ?_)
        obtain ⟨M4, eM4⟩ : ∃ z : Md, z = ((upd (M.1) (x1 : Int32).toNatClampNeg v2), M.2) := ⟨_, rfl⟩
        have hF := nm_use hF eM4
        have hP : va_P D vwCl (wMd cI b M4) H := by rw [eM4]; exact hP
        obtain ⟨v5, ev5⟩ : ∃ z : Int32, z = x1 + 1 := ⟨_, rfl⟩
        refine lv_iinc (v := v5) (lv' := [(1, .int v5), (0, .ref (b 0))]) hx hb dX9_lets_21 hl (k := 1) rfl (by rw [ev5]; rfl) (by decide) rfl (fun ls hl => ?_)
        have hF := nm_use hF ev5
        refine lv_goto (tgt := 2) hx hb dX9_lets_24 (by decide) ?_
        exact ihn M4 v5 _ _ _ hF hP hS (lv_sub hl [1, 0] rfl)
  refine lv_iconst (v := 0) hx hb dX9_lets_0 (by decide) ?_
  refine lv_istore_n (lv' := [(1, .int 0), (0, .ref (b 0))]) hx hb dX9_lets_1 rfl hl (by decide) rfl (fun ls hl => ?_)
  refine l2   _ M 0 _ _ _ hF hP hS (lv_sub hl [1, 0] rfl)
noncomputable def fX9_ends_l57  (x1 : Int32) : Nat → Md → Int32 → Option (Int32 × Md) := fun fu => Nat.rec (motive := fun _ => Md → Int32 → Option (Int32 × Md)) (fun _ _ => none) (fun _ ih => fun M x2 => if 1553 ≤ x2 then (nm ((M.2.2.2.1) + 1) fun v4 => nm ((M.1, M.2.1, M.2.2.1, v4, M.2.2.2.2)) fun M5 => some (x1, M5)) else (Rd (M.2.2.1) 1553 x2 fun v6 => Wr (M.2.1) 7765 ((1553 * (M.2.2.2.1)) + x2) v6 fun f7 => nm ((M.1, f7, M.2.2)) fun M8 => nm (x2 + 1) fun v9 => ih M8 v9)) fu
theorem fX9_ends_l57_s  (x1 : Int32) (fu : Nat) (M : Md) (x2 : Int32) : fX9_ends_l57 x1 (fu + 1) M x2 = (if 1553 ≤ x2 then (nm ((M.2.2.2.1) + 1) fun v4 => nm ((M.1, M.2.1, M.2.2.1, v4, M.2.2.2.2)) fun M5 => some (x1, M5)) else (Rd (M.2.2.1) 1553 x2 fun v6 => Wr (M.2.1) 7765 ((1553 * (M.2.2.2.1)) + x2) v6 fun f7 => nm ((M.1, f7, M.2.2)) fun M8 => nm (x2 + 1) fun v9 => (fX9_ends_l57 x1 fu) M8 v9)) := rfl
theorem fX9_ends_l57_z  (x1 : Int32) (M : Md) (x2 : Int32) : fX9_ends_l57 x1 0 M x2 = none := rfl
noncomputable def fX9_ends_j55  (M : Md) (x1 : Int32) : Option (Int32 × Md) := fX9_ends_l57 x1 FU M 0
noncomputable def fX9_ends_l16  (x1 : Int32) (kk : Md → Option (Int32 × Md)) : Nat → Md → Int32 → Option (Int32 × Md) := fun fu => Nat.rec (motive := fun _ => Md → Int32 → Option (Int32 × Md)) (fun _ _ => none) (fun _ ih => fun M x2 => if 6212 ≤ x2 then (kk M) else (Rd (M.2.1) 7765 (x2 + 1553) fun v11 => Wr (M.2.1) 7765 x2 v11 fun f12 => nm ((M.1, f12, M.2.2)) fun M13 => nm (x2 + 1) fun v14 => ih M13 v14)) fu
theorem fX9_ends_l16_s  (x1 : Int32) (kk : Md → Option (Int32 × Md)) (fu : Nat) (M : Md) (x2 : Int32) : fX9_ends_l16 x1 kk (fu + 1) M x2 = (if 6212 ≤ x2 then (kk M) else (Rd (M.2.1) 7765 (x2 + 1553) fun v11 => Wr (M.2.1) 7765 x2 v11 fun f12 => nm ((M.1, f12, M.2.2)) fun M13 => nm (x2 + 1) fun v14 => (fX9_ends_l16 x1 kk fu) M13 v14)) := rfl
theorem fX9_ends_l16_z  (x1 : Int32) (kk : Md → Option (Int32 × Md)) (M : Md) (x2 : Int32) : fX9_ends_l16 x1 kk 0 M x2 = none := rfl
noncomputable def fX9_ends  (M : Md) (x1 : Int32) : Option (Int32 × Md) := if 0 ≤ x1 then (if (M.2.2.2.1) = 5 then (fX9_ends_l16 x1 (fun M15 => nm ((M15.2.2.2.1) - 1) fun v16 => nm ((M15.1, M15.2.1, M15.2.2.1, v16, M15.2.2.2.2)) fun M17 => fX9_ends_j55 M17 x1) FU M 0) else (fX9_ends_j55 M x1)) else (some (x1, M))
abbrev vX9_ends : List Cond := Cond.code yX9_ends cX9_ends 3 (some .int) :: BIG
theorem gX9_ends {own : String} {idx : Nat} (h : (Cond.methodLink own idx yX9_ends) ∈ BIG) : GoodIn BIG (wsV own idx RX9 yX9_ends vX9_ends) := gdV h bw4_73 bs23 bw1_11 bw4_74
def rmX9_ends : Room := { frames := 0, cells := 0, slots := 0, locals := 0 }
theorem hdX9_ends : yX9_ends.cls = RX9 ∧ yX9_ends.cls ≠ "java/lang/invoke/MethodHandle" ∧ yX9_ends.cls ≠ "java/lang/invoke/VarHandle" ∧ (parseMethodDescriptor yX9_ends.desc).map (fun d => d.parameters.length) = some 1 := by decide +kernel
set_option maxHeartbeats 4000000 in
set_option maxRecDepth 100000 in
theorem kX9_ends (l : Launch) (D : va_G) (cS : ClassId) (g : Nat → Nat) (cI : ClassId) (b : Nat → Nat) (M : Md) (x1 : Int32) (r : Int32) (M' : Md) (hF : fX9_ends M x1 = some (r, M')) : mI l yX9_ends vX9_ends rmX9_ends D cI cS g [.ref (b 0), .int x1] (wMd cI b M) r (wMd cI b (M')) := by
  refine st_I rfl (by decide) (Nat.le_of_ble_eq_true rfl) ?_
  intro p e s m args below meth c A ls hx hb hr hml hlocks hown hts hA hK hD0 hG hP hS hl
  have hown : s.vm.findClass RX9 = some m.cls := hown
  have hDa : ∀ M, va_D A (wMd cI b M) := fun M => hD0.adr rfl
  have htb : ∀ w ∈ BIG, w.before args s = true := fun w h => hts w (List.mem_cons_of_mem _ h)
  have hl : lv_has ls 3 [(0, .ref (b 0)), (1, .int x1)] := hl
  have l57 : ∀ (x1 : Int32) (fu : Nat) (M : Md) (x2 : Int32) (H : Heap) (locs : List Loc) (ls : Array Slot), fX9_ends_l57 x1 fu M x2 = some (r, M') → va_P D vwCl (wMd cI b M) H → va_S A s.heap H locs → lv_has ls 3 [(0, .ref (b 0)), (1, .int x1), (2, .int x2)] → W p l e rmX9_ends s m args below meth c H locs 0 0 (MQ below (qI D r (wMd cI b (M')) A) args s 0 0 A) (F0 m 57 ls []) := by
    intro x1  fu
    induction fu with
    | zero => intro M x2 H locs ls hF; exact nn_use hF
    | succ fu ihn =>
      intro M x2 H locs ls hF hP hS hl 
      rw [fX9_ends_l57_s] at hF
      refine lv_iload_n hx hb dX9_ends_57 rfl (lv_at hl 2 rfl) ?_
      refine lv_sipush (v := 1553) hx hb dX9_ends_58 (by decide) ?_
      refine lv_icmp_ge (tgt := 91) hx hb dX9_ends_61 (by decide) (fun c3 => ?_) (fun c3 => ?_)
      · have hF := it_t hF c3
        refine lv_aload_n hx hb dX9_ends_91 rfl (lv_at hl 0 rfl) ?_
        refine lv_dup hx hb dX9_ends_92 rfl ?_
        refine va_get (ci := 9) (v := .int (M.2.2.2.1)) (C := RX9) (T := TX9) (N := 10) hx hb htb kin9 hown hK hP 0 (pMd_0 cI b M) rfl 3 (by decide) (htb _ bw4_28) (fun _ h9 => h9) rfl dX9_ends_93 ?_
        refine lv_iconst (v := 1) hx hb dX9_ends_96 (by decide) ?_
        refine lv_iadd hx hb dX9_ends_97 ?_
        refine lv_topi (fun v4 ev4 => ?_)
        have hF := nm_use hF ev4
        refine va_put (ci := 9) (v := .int v4) (ty := .int) (C := RX9) (T := TX9) (N := 10) hx hb htb kin9 tyX9 tyX9_ok nmX9 hown hK hP (hDa _) hS 0 (pMd_0 cI b M) rfl 3 (by decide) (htb _ bw4_28) (fun _ h9 => h9) rfl (by decide +kernel) rfl rfl (Nat.le_of_ble_eq_true rfl) dX9_ends_98 (fun H locs hP _ hS => ?_)
        obtain ⟨M5, eM5⟩ : ∃ z : Md, z = (M.1, M.2.1, M.2.2.1, v4, M.2.2.2.2) := ⟨_, rfl⟩
        have hF := nm_use hF eM5
        have hP : va_P D vwCl (wMd cI b M5) H := by rw [eM5]; exact hP
        refine lv_iload_n hx hb dX9_ends_101 rfl (lv_at hl 1 rfl) ?_
        obtain ⟨er, eM⟩ := pr_use hF
        exact rt_I hx hb hr hlocks hS (by rw [← eM]; exact hP) er dX9_ends_102
      · have hF := it_f hF c3
        refine lv_aload_n hx hb dX9_ends_64 rfl (lv_at hl 0 rfl) ?_
        refine va_get (ci := 9) (v := .ref (b 2)) (C := RX9) (T := TX9) (N := 10) hx hb htb kin9 hown hK hP 0 (pMd_0 cI b M) rfl 1 (by decide) (htb _ bw4_26) (fun _ h9 => h9) rfl dX9_ends_65 ?_
        refine lv_sipush (v := 1553) hx hb dX9_ends_68 (by decide) ?_
        refine lv_aload_n hx hb dX9_ends_71 rfl (lv_at hl 0 rfl) ?_
        refine va_get (ci := 9) (v := .int (M.2.2.2.1)) (C := RX9) (T := TX9) (N := 10) hx hb htb kin9 hown hK hP 0 (pMd_0 cI b M) rfl 3 (by decide) (htb _ bw4_28) (fun _ h9 => h9) rfl dX9_ends_72 ?_
        refine lv_imul hx hb dX9_ends_75 ?_
        refine lv_iload_n hx hb dX9_ends_76 rfl (lv_at hl 2 rfl) ?_
        refine lv_iadd hx hb dX9_ends_77 ?_
        refine lv_aload_n hx hb dX9_ends_78 rfl (lv_at hl 0 rfl) ?_
        refine va_get (ci := 9) (v := .ref (b 3)) (C := RX9) (T := TX9) (N := 10) hx hb htb kin9 hown hK hP 0 (pMd_0 cI b M) rfl 2 (by decide) (htb _ bw4_27) (fun _ h9 => h9) rfl dX9_ends_79 ?_
        refine lv_iload_n hx hb dX9_ends_82 rfl (lv_at hl 2 rfl) ?_
        obtain ⟨hi, hF⟩ := rd_use hF
        refine va_iald hx hb hK hP 3 0 (pMd_3 cI b M) rfl hi dX9_ends_83 ?_
        refine lv_topi (fun v6 ev6 => ?_)
        have hF := hF v6 ev6
        obtain ⟨hi, hF⟩ := wr_use hF
        refine va_iast hx hb hK hP (hDa _) hS 2 0 (pMd_2 cI b M) rfl hi dX9_ends_84 (fun H locs hP _ hS => ?_)
        obtain ⟨M8, eM8⟩ : ∃ z : Md, z = (M.1, (upd (M.2.1) ((1553 * (M.2.2.2.1)) + x2 : Int32).toNatClampNeg v6), M.2.2) := ⟨_, rfl⟩
        have hF := nm_use hF eM8
        have hP : va_P D vwCl (wMd cI b M8) H := by rw [eM8]; exact hP
        obtain ⟨v9, ev9⟩ : ∃ z : Int32, z = x2 + 1 := ⟨_, rfl⟩
        refine lv_iinc (v := v9) (lv' := [(2, .int v9), (0, .ref (b 0)), (1, .int x1)]) hx hb dX9_ends_85 hl (k := 2) rfl (by rw [ev9]; rfl) (by decide) rfl (fun ls hl => ?_)
        have hF := nm_use hF ev9
        refine lv_goto (tgt := 57) hx hb dX9_ends_88 (by decide) ?_
        exact ihn M8 v9 _ _ _ hF hP hS (lv_sub hl [1, 2, 0] rfl)
  have j55 : ∀ (M : Md) (x1 : Int32) (H : Heap) (locs : List Loc) (ls : Array Slot), fX9_ends_j55 M x1 = some (r, M') → va_P D vwCl (wMd cI b M) H → va_S A s.heap H locs → lv_has ls 3 [(0, .ref (b 0)), (1, .int x1)] → W p l e rmX9_ends s m args below meth c H locs 0 0 (MQ below (qI D r (wMd cI b (M')) A) args s 0 0 A) (F0 m 55 ls []) := by
    intro M x1 H locs ls hF hP hS hl
    refine lv_iconst (v := 0) hx hb dX9_ends_55 (by decide) ?_
    refine lv_istore_n (lv' := [(2, .int 0), (0, .ref (b 0)), (1, .int x1)]) hx hb dX9_ends_56 rfl hl (by decide) rfl (fun ls hl => ?_)
    refine l57 x1  _ M 0 _ _ _ hF hP hS (lv_sub hl [1, 2, 0] rfl)
  have l16 : ∀ (x1 : Int32) (kk : Md → Option (Int32 × Md)) (fu : Nat) (M : Md) (x2 : Int32) (H : Heap) (locs : List Loc) (ls : Array Slot), fX9_ends_l16 x1 kk fu M x2 = some (r, M') → va_P D vwCl (wMd cI b M) H → va_S A s.heap H locs → lv_has ls 3 [(0, .ref (b 0)), (1, .int x1), (2, .int x2)] → (∀ (M : Md) (H : Heap) (locs : List Loc) (ls : Array Slot), kk M = some (r, M') → va_P D vwCl (wMd cI b M) H → va_S A s.heap H locs → lv_has ls 3 [(0, .ref (b 0)), (1, .int x1)] → W p l e rmX9_ends s m args below meth c H locs 0 0 (MQ below (qI D r (wMd cI b (M')) A) args s 0 0 A) (F0 m 45 ls [])) → W p l e rmX9_ends s m args below meth c H locs 0 0 (MQ below (qI D r (wMd cI b (M')) A) args s 0 0 A) (F0 m 16 ls []) := by
    intro x1 kk fu
    induction fu with
    | zero => intro M x2 H locs ls hF; exact nn_use hF
    | succ fu ihn =>
      intro M x2 H locs ls hF hP hS hl after
      rw [fX9_ends_l16_s] at hF
      refine lv_iload_n hx hb dX9_ends_16 rfl (lv_at hl 2 rfl) ?_
      refine lv_sipush (v := 6212) hx hb dX9_ends_17 (by decide) ?_
      refine lv_icmp_ge (tgt := 45) hx hb dX9_ends_20 (by decide) (fun c10 => ?_) (fun c10 => ?_)
      · have hF := it_t hF c10
        exact after M _ _ _ hF hP hS (lv_sub hl [0, 1] rfl)
      · have hF := it_f hF c10
        refine lv_aload_n hx hb dX9_ends_23 rfl (lv_at hl 0 rfl) ?_
        refine va_get (ci := 9) (v := .ref (b 2)) (C := RX9) (T := TX9) (N := 10) hx hb htb kin9 hown hK hP 0 (pMd_0 cI b M) rfl 1 (by decide) (htb _ bw4_26) (fun _ h9 => h9) rfl dX9_ends_24 ?_
        refine lv_iload_n hx hb dX9_ends_27 rfl (lv_at hl 2 rfl) ?_
        refine lv_aload_n hx hb dX9_ends_28 rfl (lv_at hl 0 rfl) ?_
        refine va_get (ci := 9) (v := .ref (b 2)) (C := RX9) (T := TX9) (N := 10) hx hb htb kin9 hown hK hP 0 (pMd_0 cI b M) rfl 1 (by decide) (htb _ bw4_26) (fun _ h9 => h9) rfl dX9_ends_29 ?_
        refine lv_iload_n hx hb dX9_ends_32 rfl (lv_at hl 2 rfl) ?_
        refine lv_sipush (v := 1553) hx hb dX9_ends_33 (by decide) ?_
        refine lv_iadd hx hb dX9_ends_36 ?_
        obtain ⟨hi, hF⟩ := rd_use hF
        refine va_iald hx hb hK hP 2 0 (pMd_2 cI b M) rfl hi dX9_ends_37 ?_
        refine lv_topi (fun v11 ev11 => ?_)
        have hF := hF v11 ev11
        obtain ⟨hi, hF⟩ := wr_use hF
        refine va_iast hx hb hK hP (hDa _) hS 2 0 (pMd_2 cI b M) rfl hi dX9_ends_38 (fun H locs hP _ hS => ?_)
        obtain ⟨M13, eM13⟩ : ∃ z : Md, z = (M.1, (upd (M.2.1) (x2 : Int32).toNatClampNeg v11), M.2.2) := ⟨_, rfl⟩
        have hF := nm_use hF eM13
        have hP : va_P D vwCl (wMd cI b M13) H := by rw [eM13]; exact hP
        obtain ⟨v14, ev14⟩ : ∃ z : Int32, z = x2 + 1 := ⟨_, rfl⟩
        refine lv_iinc (v := v14) (lv' := [(2, .int v14), (0, .ref (b 0)), (1, .int x1)]) hx hb dX9_ends_39 hl (k := 2) rfl (by rw [ev14]; rfl) (by decide) rfl (fun ls hl => ?_)
        have hF := nm_use hF ev14
        refine lv_goto (tgt := 16) hx hb dX9_ends_42 (by decide) ?_
        exact ihn M13 v14 _ _ _ hF hP hS (lv_sub hl [1, 2, 0] rfl) after
  refine lv_iload_n hx hb dX9_ends_0 rfl (lv_at hl 1 rfl) ?_
  refine lv_if_ge (tgt := 6) hx hb dX9_ends_1 (by decide) (fun c1 => ?_) (fun c1 => ?_)
  · have hF := it_t hF c1
    refine lv_aload_n hx hb dX9_ends_6 rfl (lv_at hl 0 rfl) ?_
    refine va_get (ci := 9) (v := .int (M.2.2.2.1)) (C := RX9) (T := TX9) (N := 10) hx hb htb kin9 hown hK hP 0 (pMd_0 cI b M) rfl 3 (by decide) (htb _ bw4_28) (fun _ h9 => h9) rfl dX9_ends_7 ?_
    refine lv_iconst (v := 5) hx hb dX9_ends_10 (by decide) ?_
    refine lv_icmp_ne (tgt := 55) hx hb dX9_ends_11 (by decide) (fun c2 => ?_) (fun c2 => ?_)
    · have hF := it_f hF c2
      exact j55 M x1 _ _ _ hF hP hS (lv_sub hl [0, 1] rfl)
    · have hF := it_t hF c2
      refine lv_iconst (v := 0) hx hb dX9_ends_14 (by decide) ?_
      refine lv_istore_n (lv' := [(2, .int 0), (0, .ref (b 0)), (1, .int x1)]) hx hb dX9_ends_15 rfl hl (by decide) rfl (fun ls hl => ?_)
      refine l16 x1 _ _ M 0 _ _ _ hF hP hS (lv_sub hl [1, 2, 0] rfl) ?_
      · intro M15 H locs ls hF hP hS hl
        refine lv_aload_n hx hb dX9_ends_45 rfl (lv_at hl 0 rfl) ?_
        refine lv_dup hx hb dX9_ends_46 rfl ?_
        refine va_get (ci := 9) (v := .int (M15.2.2.2.1)) (C := RX9) (T := TX9) (N := 10) hx hb htb kin9 hown hK hP 0 (pMd_0 cI b M15) rfl 3 (by decide) (htb _ bw4_28) (fun _ h9 => h9) rfl dX9_ends_47 ?_
        refine lv_iconst (v := 1) hx hb dX9_ends_50 (by decide) ?_
        refine lv_isub hx hb dX9_ends_51 ?_
        refine lv_topi (fun v16 ev16 => ?_)
        have hF := nm_use hF ev16
        refine va_put (ci := 9) (v := .int v16) (ty := .int) (C := RX9) (T := TX9) (N := 10) hx hb htb kin9 tyX9 tyX9_ok nmX9 hown hK hP (hDa _) hS 0 (pMd_0 cI b M15) rfl 3 (by decide) (htb _ bw4_28) (fun _ h9 => h9) rfl (by decide +kernel) rfl rfl (Nat.le_of_ble_eq_true rfl) dX9_ends_52 (fun H locs hP _ hS => ?_)
        obtain ⟨M17, eM17⟩ : ∃ z : Md, z = (M15.1, M15.2.1, M15.2.2.1, v16, M15.2.2.2.2) := ⟨_, rfl⟩
        have hF := nm_use hF eM17
        have hP : va_P D vwCl (wMd cI b M17) H := by rw [eM17]; exact hP
        exact j55 M17 x1 _ _ _ hF hP hS (lv_sub hl [0, 1] rfl)
  · have hF := it_f hF c1
    refine lv_iload_n hx hb dX9_ends_4 rfl (lv_at hl 1 rfl) ?_
    obtain ⟨er, eM⟩ := pr_use hF
    exact rt_I hx hb hr hlocks hS (by rw [← eM]; exact hP) er dX9_ends_5
noncomputable def fX9_lays  (M : Md) (x1 : Int32) (x2 : Int32) (x3 : Int32) : Option (Md) := Wr (M.1) 1553 ((53 + (9 * x1)) + x2) x3 fun f1 => nm ((f1, M.2)) fun M2 => some M2
abbrev vX9_lays : List Cond := Cond.code yX9_lays cX9_lays 4 none :: BIG
theorem gX9_lays {own : String} {idx : Nat} (h : (Cond.methodLink own idx yX9_lays) ∈ BIG) : GoodIn BIG (wsV own idx RX9 yX9_lays vX9_lays) := gdV h bw4_127 bs31 bw1_11 bw4_128
def rmX9_lays : Room := { frames := 0, cells := 0, slots := 0, locals := 0 }
theorem hdX9_lays : yX9_lays.cls = RX9 ∧ yX9_lays.cls ≠ "java/lang/invoke/MethodHandle" ∧ yX9_lays.cls ≠ "java/lang/invoke/VarHandle" ∧ (parseMethodDescriptor yX9_lays.desc).map (fun d => d.parameters.length) = some 3 := by decide +kernel
set_option maxHeartbeats 4000000 in
set_option maxRecDepth 100000 in
theorem kX9_lays (l : Launch) (D : va_G) (cS : ClassId) (g : Nat → Nat) (cI : ClassId) (b : Nat → Nat) (M : Md) (x1 : Int32) (x2 : Int32) (x3 : Int32) (M' : Md) (hF : fX9_lays M x1 x2 x3 = some M') : mV l yX9_lays vX9_lays rmX9_lays D cI cS g [.ref (b 0), .int x1, .int x2, .int x3] (wMd cI b M) (wMd cI b (M')) := by
  refine st_V rfl (by decide) (Nat.le_of_ble_eq_true rfl) ?_
  intro p e s m args below meth c A ls hx hb hr hml hlocks hown hts hA hK hD0 hG hP hS hl
  have hown : s.vm.findClass RX9 = some m.cls := hown
  have hDa : ∀ M, va_D A (wMd cI b M) := fun M => hD0.adr rfl
  have htb : ∀ w ∈ BIG, w.before args s = true := fun w h => hts w (List.mem_cons_of_mem _ h)
  have hl : lv_has ls 4 [(0, .ref (b 0)), (1, .int x1), (2, .int x2), (3, .int x3)] := hl
  refine lv_aload_n hx hb dX9_lays_0 rfl (lv_at hl 0 rfl) ?_
  refine va_get (ci := 9) (v := .ref (b 1)) (C := RX9) (T := TX9) (N := 10) hx hb htb kin9 hown hK hP 0 (pMd_0 cI b M) rfl 0 (by decide) (htb _ bw4_25) (fun _ h9 => h9) rfl dX9_lays_1 ?_
  refine lv_bipush (v := 53) hx hb dX9_lays_4 (by decide) ?_
  refine lv_bipush (v := 9) hx hb dX9_lays_6 (by decide) ?_
  refine lv_iload_n hx hb dX9_lays_8 rfl (lv_at hl 1 rfl) ?_
  refine lv_imul hx hb dX9_lays_9 ?_
  refine lv_iadd hx hb dX9_lays_10 ?_
  refine lv_iload_n hx hb dX9_lays_11 rfl (lv_at hl 2 rfl) ?_
  refine lv_iadd hx hb dX9_lays_12 ?_
  refine lv_iload_n hx hb dX9_lays_13 rfl (lv_at hl 3 rfl) ?_
  obtain ⟨hi, hF⟩ := wr_use hF
  refine va_iast hx hb hK hP (hDa _) hS 1 0 (pMd_1 cI b M) rfl hi dX9_lays_14 (fun H locs hP _ hS => ?_)
  obtain ⟨M2, eM2⟩ : ∃ z : Md, z = ((upd (M.1) ((53 + (9 * x1)) + x2 : Int32).toNatClampNeg x3), M.2) := ⟨_, rfl⟩
  have hF := nm_use hF eM2
  have hP : va_P D vwCl (wMd cI b M2) H := by rw [eM2]; exact hP
  exact rt_V hx hb hr hlocks hS (by rw [← so_use hF]; exact hP) dX9_lays_15
noncomputable def fX9_adds  (M : Md) (x1 : Int32) (x2 : Int32) (x3 : Int32) : Option (Md) := nm ((53 + (9 * x1)) + x2) fun v1 => Rd (M.1) 1553 v1 fun v2 => Wr (M.1) 1553 v1 (v2 + x3) fun f3 => nm ((f3, M.2)) fun M4 => some M4
abbrev vX9_adds : List Cond := Cond.code yX9_adds cX9_adds 4 none :: BIG
theorem gX9_adds {own : String} {idx : Nat} (h : (Cond.methodLink own idx yX9_adds) ∈ BIG) : GoodIn BIG (wsV own idx RX9 yX9_adds vX9_adds) := gdV h bw4_166 bs38 bw1_11 bw4_167
def rmX9_adds : Room := { frames := 0, cells := 0, slots := 0, locals := 0 }
theorem hdX9_adds : yX9_adds.cls = RX9 ∧ yX9_adds.cls ≠ "java/lang/invoke/MethodHandle" ∧ yX9_adds.cls ≠ "java/lang/invoke/VarHandle" ∧ (parseMethodDescriptor yX9_adds.desc).map (fun d => d.parameters.length) = some 3 := by decide +kernel
set_option maxHeartbeats 4000000 in
set_option maxRecDepth 100000 in
theorem kX9_adds (l : Launch) (D : va_G) (cS : ClassId) (g : Nat → Nat) (cI : ClassId) (b : Nat → Nat) (M : Md) (x1 : Int32) (x2 : Int32) (x3 : Int32) (M' : Md) (hF : fX9_adds M x1 x2 x3 = some M') : mV l yX9_adds vX9_adds rmX9_adds D cI cS g [.ref (b 0), .int x1, .int x2, .int x3] (wMd cI b M) (wMd cI b (M')) := by
  refine st_V rfl (by decide) (Nat.le_of_ble_eq_true rfl) ?_
  intro p e s m args below meth c A ls hx hb hr hml hlocks hown hts hA hK hD0 hG hP hS hl
  have hown : s.vm.findClass RX9 = some m.cls := hown
  have hDa : ∀ M, va_D A (wMd cI b M) := fun M => hD0.adr rfl
  have htb : ∀ w ∈ BIG, w.before args s = true := fun w h => hts w (List.mem_cons_of_mem _ h)
  have hl : lv_has ls 4 [(0, .ref (b 0)), (1, .int x1), (2, .int x2), (3, .int x3)] := hl
  refine lv_aload_n hx hb dX9_adds_0 rfl (lv_at hl 0 rfl) ?_
  refine va_get (ci := 9) (v := .ref (b 1)) (C := RX9) (T := TX9) (N := 10) hx hb htb kin9 hown hK hP 0 (pMd_0 cI b M) rfl 0 (by decide) (htb _ bw4_25) (fun _ h9 => h9) rfl dX9_adds_1 ?_
  refine lv_bipush (v := 53) hx hb dX9_adds_4 (by decide) ?_
  refine lv_bipush (v := 9) hx hb dX9_adds_6 (by decide) ?_
  refine lv_iload_n hx hb dX9_adds_8 rfl (lv_at hl 1 rfl) ?_
  refine lv_imul hx hb dX9_adds_9 ?_
  refine lv_iadd hx hb dX9_adds_10 ?_
  refine lv_iload_n hx hb dX9_adds_11 rfl (lv_at hl 2 rfl) ?_
  refine lv_iadd hx hb dX9_adds_12 ?_
  refine lv_topi (fun v1 ev1 => ?_)
  have hF := nm_use hF ev1
  refine lv_dup2_11 hx hb dX9_adds_13 rfl rfl ?_
  obtain ⟨hi, hF⟩ := rd_use hF
  refine va_iald hx hb hK hP 1 0 (pMd_1 cI b M) rfl hi dX9_adds_14 ?_
  refine lv_topi (fun v2 ev2 => ?_)
  have hF := hF v2 ev2
  refine lv_iload_n hx hb dX9_adds_15 rfl (lv_at hl 3 rfl) ?_
  refine lv_iadd hx hb dX9_adds_16 ?_
  obtain ⟨hi, hF⟩ := wr_use hF
  refine va_iast hx hb hK hP (hDa _) hS 1 0 (pMd_1 cI b M) rfl hi dX9_adds_17 (fun H locs hP _ hS => ?_)
  obtain ⟨M4, eM4⟩ : ∃ z : Md, z = ((upd (M.1) (v1 : Int32).toNatClampNeg (v2 + x3)), M.2) := ⟨_, rfl⟩
  have hF := nm_use hF eM4
  have hP : va_P D vwCl (wMd cI b M4) H := by rw [eM4]; exact hP
  exact rt_V hx hb hr hlocks hS (by rw [← so_use hF]; exact hP) dX9_adds_18

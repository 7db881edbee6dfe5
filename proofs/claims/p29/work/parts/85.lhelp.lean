noncomputable def fL_cell (g : Nat → Nat) (x1 : Int32) : Option (Int32) := if (Int32.ofNat (g 3)) ≤ x1 then (some (40503 * (x1 + 3))) else (Rd (scX g) (g 3) x1 fun v2 => some v2)
abbrev vL_cell : List Cond := Cond.code yL_cell cL_cell 2 (some .int) :: BIG
theorem gL_cell {own : String} {idx : Nat} (h : (Cond.methodLink own idx yL_cell) ∈ BIG) : GoodIn BIG (va_wsS own idx yL_cell vL_cell) := gdS h bw2_30 bw1_0 bw2_31
theorem gL_cell_n : GoodIn BIG vL_cell := gdN bw2_31
def rmL_cell : Room := { frames := 0, cells := 0, slots := 0, locals := 0 }
theorem hdL_cell : yL_cell.cls ≠ "java/lang/invoke/MethodHandle" ∧ yL_cell.cls ≠ "java/lang/invoke/VarHandle" ∧ (parseMethodDescriptor yL_cell.desc).map (fun d => d.parameters.length) = some 2 := by decide +kernel
set_option maxHeartbeats 4000000 in
set_option maxRecDepth 100000 in
theorem kL_cell (l : Launch) (D : va_G) (cS : ClassId) (g : Nat → Nat) (cI : ClassId) (x1 : Int32) (r : Int32) (hF : fL_cell g x1 = some r) : mI l yL_cell vL_cell rmL_cell D cI cS g [.ref (g 2), .int x1] [] r [] := by
  refine st_I rfl (by decide) (Nat.le_of_ble_eq_true rfl) ?_
  intro p e s m args below meth c A ls hx hb hr hml hlocks hown hts hA hK hD0 hG hP hS hl
  have hown : s.vm.findClass RL = some m.cls := hown
  have hDa : ∀ u : Unit, va_D A [] := fun _ => hD0
  have htb : ∀ w ∈ BIG, w.before args s = true := fun w h => hts w (List.mem_cons_of_mem _ h)
  have hl : lv_has ls 2 [(0, .ref (g 2)), (1, .int x1)] := hl
  refine lv_iload_n hx hb dL_cell_0 rfl (lv_at hl 1 rfl) ?_
  refine lv_aload_n hx hb dL_cell_1 rfl (lv_at hl 0 rfl) ?_
  refine va_tlen (v := Int32.ofNat (g 3)) hx hb hG.2.2.1 hS rfl dL_cell_2 ?_
  refine lv_icmp_ge (tgt := 12) hx hb dL_cell_3 (by decide) (fun c1 => ?_) (fun c1 => ?_)
  · have hF := it_t hF c1
    refine lv_ldc hx hb hown (htb _ bw2_32) dL_cell_12 ?_
    refine lv_iload_n hx hb dL_cell_14 rfl (lv_at hl 1 rfl) ?_
    refine lv_iconst (v := 3) hx hb dL_cell_15 (by decide) ?_
    refine lv_iadd hx hb dL_cell_16 ?_
    refine lv_imul hx hb dL_cell_17 ?_
    exact rt_I hx hb hr hlocks hS hP (so_use hF) dL_cell_18
  · have hF := it_f hF c1
    refine lv_aload_n hx hb dL_cell_6 rfl (lv_at hl 0 rfl) ?_
    refine lv_iload_n hx hb dL_cell_7 rfl (lv_at hl 1 rfl) ?_
    obtain ⟨hi, hF⟩ := rd_use hF
    refine va_ti hx hb hG.2.2.1 hS hi rfl dL_cell_8 ?_
    refine lv_topi (x := scX g (x1 : Int32).toNatClampNeg) (fun v2 ev2 => ?_)
    have hF := hF v2 ev2
    refine lv_goto (tgt := 18) hx hb dL_cell_9 (by decide) ?_
    exact rt_I hx hb hr hlocks hS hP (so_use hF) dL_cell_18
noncomputable def fL_low  (x0 : Int32) (x1 : Int32) : Option (Int32) := Mo (x0 &&& 2147483647) x1 fun v1 => some v1
abbrev vL_low : List Cond := Cond.code yL_low cL_low 2 (some .int) :: BIG
theorem gL_low {own : String} {idx : Nat} (h : (Cond.methodLink own idx yL_low) ∈ BIG) : GoodIn BIG (va_wsS own idx yL_low vL_low) := gdS h bw2_34 bw1_0 bw2_35
theorem gL_low_n : GoodIn BIG vL_low := gdN bw2_35
def rmL_low : Room := { frames := 0, cells := 0, slots := 0, locals := 0 }
theorem hdL_low : yL_low.cls ≠ "java/lang/invoke/MethodHandle" ∧ yL_low.cls ≠ "java/lang/invoke/VarHandle" ∧ (parseMethodDescriptor yL_low.desc).map (fun d => d.parameters.length) = some 2 := by decide +kernel
set_option maxHeartbeats 4000000 in
set_option maxRecDepth 100000 in
theorem kL_low (l : Launch) (D : va_G) (cS : ClassId) (g : Nat → Nat) (cI : ClassId) (x0 : Int32) (x1 : Int32) (r : Int32) (hF : fL_low x0 x1 = some r) : mI l yL_low vL_low rmL_low D cI cS g [.int x0, .int x1] [] r [] := by
  refine st_I rfl (by decide) (Nat.le_of_ble_eq_true rfl) ?_
  intro p e s m args below meth c A ls hx hb hr hml hlocks hown hts hA hK hD0 hG hP hS hl
  have hown : s.vm.findClass RL = some m.cls := hown
  have hDa : ∀ u : Unit, va_D A [] := fun _ => hD0
  have htb : ∀ w ∈ BIG, w.before args s = true := fun w h => hts w (List.mem_cons_of_mem _ h)
  have hl : lv_has ls 2 [(0, .int x0), (1, .int x1)] := hl
  refine lv_iload_n hx hb dL_low_0 rfl (lv_at hl 0 rfl) ?_
  refine lv_ldc hx hb hown (htb _ bw2_36) dL_low_1 ?_
  refine lv_iand hx hb dL_low_3 ?_
  refine lv_iload_n hx hb dL_low_4 rfl (lv_at hl 1 rfl) ?_
  obtain ⟨hd, hF⟩ := mo_use hF
  refine lv_irem hx hb dL_low_5 hd ?_
  refine lv_topi (fun v1 ev1 => ?_)
  have hF := hF v1 ev1
  exact rt_I hx hb hr hlocks hS hP (so_use hF) dL_low_6
noncomputable def fL_may_j134  (x3 : Int32) (x4 : Int32) (x5 : Int32) (x7 : Int32) (ih : Int32 → Int32 → Option (Int32)) (L : La) (x8 : Int32) (s0 : Int32) : Option (Int32) := nm (x8 + 1) fun v9 => ih s0 v9
noncomputable def fL_may_j133  (x3 : Int32) (x4 : Int32) (x5 : Int32) (x7 : Int32) (ih : Int32 → Int32 → Option (Int32)) (L : La) (x8 : Int32) : Option (Int32) := fL_may_j134 x3 x4 x5 x7 ih L x8 0
noncomputable def fL_may_j129  (x3 : Int32) (x4 : Int32) (x5 : Int32) (x7 : Int32) (ih : Int32 → Int32 → Option (Int32)) (L : La) (x8 : Int32) : Option (Int32) := fL_may_j134 x3 x4 x5 x7 ih L x8 1
noncomputable def fL_may_j110  (x3 : Int32) (x4 : Int32) (x5 : Int32) (x7 : Int32) (ih : Int32 → Int32 → Option (Int32)) (L : La) (x8 : Int32) (x9 : Int32) : Option (Int32) := Rd (L.2.2.2.1) 63 ((9 * x8) + 3) fun v12 => if v12 = 0 then (fL_may_j129 x3 x4 x5 x7 ih L x8) else (if x4 ≤ x9 then (fL_may_j133 x3 x4 x5 x7 ih L x8) else (fL_may_j129 x3 x4 x5 x7 ih L x8))
noncomputable def fL_may_j78  (x3 : Int32) (x4 : Int32) (x5 : Int32) (x7 : Int32) (ih : Int32 → Int32 → Option (Int32)) (L : La) (x6 : Int32) (x8 : Int32) (x9 : Int32) (s0 : Int32) : Option (Int32) := if x6 = 0 then (fL_may_j133 x3 x4 x5 x7 ih L x8) else (if s0 = 0 then (fL_may_j129 x3 x4 x5 x7 ih L x8) else (if (x9 + x7) ≤ x4 then (fL_may_j110 x3 x4 x5 x7 ih L x8 x9) else (if x9 < (x4 + x7) then (fL_may_j133 x3 x4 x5 x7 ih L x8) else (fL_may_j110 x3 x4 x5 x7 ih L x8 x9))))
noncomputable def fL_may_j77  (x3 : Int32) (x4 : Int32) (x5 : Int32) (x7 : Int32) (ih : Int32 → Int32 → Option (Int32)) (L : La) (x6 : Int32) (x8 : Int32) (x9 : Int32) : Option (Int32) := fL_may_j78 x3 x4 x5 x7 ih L x6 x8 x9 0
noncomputable def fL_may_l23  (L : La) (x3 : Int32) (x4 : Int32) (x5 : Int32) (x7 : Int32) : Nat → Int32 → Int32 → Option (Int32) := fun fu => Nat.rec (motive := fun _ => Int32 → Int32 → Option (Int32)) (fun _ _ => none) (fun _ ih => fun x6 x8 => Rd (L.1) 5 1 fun v4 => if v4 ≤ x8 then (Zb x6 (some x6)) else (Rd (L.2.2.2.1) 63 ((9 * x8) + 1) fun v6 => if x8 = x5 then (fL_may_j77 x3 x4 x5 x7 ih L x6 x8 v6) else (Rd (L.2.2.2.1) 63 (9 * x8) fun v16 => if v16 = x3 then (Rd (L.2.2.2.1) 63 ((9 * x8) + 3) fun v18 => if 2 ≤ v18 then (fL_may_j77 x3 x4 x5 x7 ih L x6 x8 v6) else (fL_may_j78 x3 x4 x5 x7 ih L x6 x8 v6 1)) else (fL_may_j77 x3 x4 x5 x7 ih L x6 x8 v6)))) fu
theorem fL_may_l23_s  (L : La) (x3 : Int32) (x4 : Int32) (x5 : Int32) (x7 : Int32) (fu : Nat) (x6 : Int32) (x8 : Int32) : fL_may_l23 L x3 x4 x5 x7 (fu + 1) x6 x8 = (Rd (L.1) 5 1 fun v4 => if v4 ≤ x8 then (Zb x6 (some x6)) else (Rd (L.2.2.2.1) 63 ((9 * x8) + 1) fun v6 => if x8 = x5 then (fL_may_j77 x3 x4 x5 x7 (fL_may_l23 L x3 x4 x5 x7 fu) L x6 x8 v6) else (Rd (L.2.2.2.1) 63 (9 * x8) fun v16 => if v16 = x3 then (Rd (L.2.2.2.1) 63 ((9 * x8) + 3) fun v18 => if 2 ≤ v18 then (fL_may_j77 x3 x4 x5 x7 (fL_may_l23 L x3 x4 x5 x7 fu) L x6 x8 v6) else (fL_may_j78 x3 x4 x5 x7 (fL_may_l23 L x3 x4 x5 x7 fu) L x6 x8 v6 1)) else (fL_may_j77 x3 x4 x5 x7 (fL_may_l23 L x3 x4 x5 x7 fu) L x6 x8 v6)))) := rfl
theorem fL_may_l23_z  (L : La) (x3 : Int32) (x4 : Int32) (x5 : Int32) (x7 : Int32) (x6 : Int32) (x8 : Int32) : fL_may_l23 L x3 x4 x5 x7 0 x6 x8 = none := rfl
noncomputable def fL_may  (L : La) (x3 : Int32) (x4 : Int32) (x5 : Int32) : Option (Int32) := Rd (L.2.2.1) 33 (11 * x3) fun v1 => Rd (L.2.2.1) 33 ((11 * x3) + 1) fun v2 => nm (v1 + v2) fun v3 => fL_may_l23 L x3 x4 x5 v3 FU 1 0
abbrev vL_may : List Cond := Cond.code yL_may cL_may 11 (some .boolean) :: BIG
theorem gL_may {own : String} {idx : Nat} (h : (Cond.methodLink own idx yL_may) ∈ BIG) : GoodIn BIG (va_wsS own idx yL_may vL_may) := gdS h bw2_101 bw1_0 bw2_102
theorem gL_may_n : GoodIn BIG vL_may := gdN bw2_102
def rmL_may : Room := { frames := 0, cells := 0, slots := 0, locals := 0 }
theorem hdL_may : yL_may.cls ≠ "java/lang/invoke/MethodHandle" ∧ yL_may.cls ≠ "java/lang/invoke/VarHandle" ∧ (parseMethodDescriptor yL_may.desc).map (fun d => d.parameters.length) = some 6 := by decide +kernel
set_option maxHeartbeats 4000000 in
set_option maxRecDepth 100000 in
theorem kL_may (l : Launch) (D : va_G) (cS : ClassId) (g : Nat → Nat) (cI : ClassId) (la : Nat → Nat) (L : La) (x3 : Int32) (x4 : Int32) (x5 : Int32) (r : Int32) (hF : fL_may L x3 x4 x5 = some r) : mI l yL_may vL_may rmL_may D cI cS g [.ref (la 0), .ref (la 2), .ref (la 3), .int x3, .int x4, .int x5] (wLA cI la L) r (wLA cI la L) := by
  refine st_I rfl (by decide) (Nat.le_of_ble_eq_true rfl) ?_
  intro p e s m args below meth c A ls hx hb hr hml hlocks hown hts hA hK hD0 hG hP hS hl
  have hown : s.vm.findClass RL = some m.cls := hown
  have hDa : ∀ L, va_D A (wLA cI la L) := fun L => hD0.adr rfl
  have htb : ∀ w ∈ BIG, w.before args s = true := fun w h => hts w (List.mem_cons_of_mem _ h)
  have hl : lv_has ls 11 [(0, .ref (la 0)), (1, .ref (la 2)), (2, .ref (la 3)), (3, .int x3), (4, .int x4), (5, .int x5)] := hl
  have l23 : ∀ (x3 : Int32) (x4 : Int32) (x5 : Int32) (x7 : Int32) (fu : Nat) (x6 : Int32) (x8 : Int32) (H : Heap) (locs : List Loc) (ls : Array Slot), fL_may_l23 L x3 x4 x5 x7 fu x6 x8 = some r → va_P D vwCl (wLA cI la L) H → va_S A s.heap H locs → lv_has ls 11 [(0, .ref (la 0)), (2, .ref (la 3)), (3, .int x3), (4, .int x4), (5, .int x5), (6, .int x6), (7, .int x7), (8, .int x8)] → W p l e rmL_may s m args below meth c H locs 0 0 (MQ below (qI D r (wLA cI la L) A) args s 0 0 A) (F0 m 23 ls []) := by
    intro x3 x4 x5 x7  fu
    induction fu with
    | zero => intro x6 x8 H locs ls hF; exact nn_use hF
    | succ fu ihn =>
      intro x6 x8 H locs ls hF hP hS hl 
      rw [fL_may_l23_s] at hF
      have j134 : ∀ (x8 : Int32) (s0 : Int32) (H : Heap) (locs : List Loc) (ls : Array Slot), fL_may_j134 x3 x4 x5 x7  (fL_may_l23 L x3 x4 x5 x7 fu) L x8 s0 = some r → va_P D vwCl (wLA cI la L) H → va_S A s.heap H locs → lv_has ls 11 [(0, .ref (la 0)), (2, .ref (la 3)), (3, .int x3), (4, .int x4), (5, .int x5), (7, .int x7), (8, .int x8)] → W p l e rmL_may s m args below meth c H locs 0 0 (MQ below (qI D r (wLA cI la L) A) args s 0 0 A) (F0 m 134 ls [.int s0]) := by
        intro x8 s0 H locs ls hF hP hS hl
        refine lv_istore (lv' := [(6, .int s0), (0, .ref (la 0)), (2, .ref (la 3)), (3, .int x3), (4, .int x4), (5, .int x5), (7, .int x7), (8, .int x8)]) hx hb dL_may_134 hl (by decide) rfl (fun ls hl => ?_)
        obtain ⟨v9, ev9⟩ : ∃ z : Int32, z = x8 + 1 := ⟨_, rfl⟩
        refine lv_iinc (v := v9) (lv' := [(8, .int v9), (6, .int s0), (0, .ref (la 0)), (2, .ref (la 3)), (3, .int x3), (4, .int x4), (5, .int x5), (7, .int x7)]) hx hb dL_may_136 hl (k := 7) rfl (by rw [ev9]; rfl) (by decide) rfl (fun ls hl => ?_)
        have hF := nm_use hF ev9
        refine lv_goto (tgt := 23) hx hb dL_may_139 (by decide) ?_
        exact ihn s0 v9 _ _ _ hF hP hS (lv_sub hl [2, 3, 4, 5, 6, 1, 7, 0] rfl)
      have j133 : ∀ (x8 : Int32) (H : Heap) (locs : List Loc) (ls : Array Slot), fL_may_j133 x3 x4 x5 x7  (fL_may_l23 L x3 x4 x5 x7 fu) L x8 = some r → va_P D vwCl (wLA cI la L) H → va_S A s.heap H locs → lv_has ls 11 [(0, .ref (la 0)), (2, .ref (la 3)), (3, .int x3), (4, .int x4), (5, .int x5), (7, .int x7), (8, .int x8)] → W p l e rmL_may s m args below meth c H locs 0 0 (MQ below (qI D r (wLA cI la L) A) args s 0 0 A) (F0 m 133 ls []) := by
        intro x8 H locs ls hF hP hS hl
        refine lv_iconst (v := 0) hx hb dL_may_133 (by decide) ?_
        exact j134 x8 0 _ _ _ hF hP hS (lv_sub hl [0, 1, 2, 3, 4, 5, 6] rfl)
      have j129 : ∀ (x8 : Int32) (H : Heap) (locs : List Loc) (ls : Array Slot), fL_may_j129 x3 x4 x5 x7  (fL_may_l23 L x3 x4 x5 x7 fu) L x8 = some r → va_P D vwCl (wLA cI la L) H → va_S A s.heap H locs → lv_has ls 11 [(0, .ref (la 0)), (2, .ref (la 3)), (3, .int x3), (4, .int x4), (5, .int x5), (7, .int x7), (8, .int x8)] → W p l e rmL_may s m args below meth c H locs 0 0 (MQ below (qI D r (wLA cI la L) A) args s 0 0 A) (F0 m 129 ls []) := by
        intro x8 H locs ls hF hP hS hl
        refine lv_iconst (v := 1) hx hb dL_may_129 (by decide) ?_
        refine lv_goto (tgt := 134) hx hb dL_may_130 (by decide) ?_
        exact j134 x8 1 _ _ _ hF hP hS (lv_sub hl [0, 1, 2, 3, 4, 5, 6] rfl)
      have j110 : ∀ (x8 : Int32) (x9 : Int32) (H : Heap) (locs : List Loc) (ls : Array Slot), fL_may_j110 x3 x4 x5 x7  (fL_may_l23 L x3 x4 x5 x7 fu) L x8 x9 = some r → va_P D vwCl (wLA cI la L) H → va_S A s.heap H locs → lv_has ls 11 [(0, .ref (la 0)), (2, .ref (la 3)), (3, .int x3), (4, .int x4), (5, .int x5), (7, .int x7), (8, .int x8), (9, .int x9)] → W p l e rmL_may s m args below meth c H locs 0 0 (MQ below (qI D r (wLA cI la L) A) args s 0 0 A) (F0 m 110 ls []) := by
        intro x8 x9 H locs ls hF hP hS hl
        refine lv_aload_n hx hb dL_may_110 rfl (lv_at hl 1 rfl) ?_
        refine lv_bipush (v := 9) hx hb dL_may_111 (by decide) ?_
        refine lv_iload hx hb dL_may_113 (lv_at hl 6 rfl) ?_
        refine lv_imul hx hb dL_may_115 ?_
        refine lv_iconst (v := 3) hx hb dL_may_116 (by decide) ?_
        refine lv_iadd hx hb dL_may_117 ?_
        obtain ⟨hi, hF⟩ := rd_use hF
        refine va_iald hx hb hK hP 3 0 (pLA_3 cI la L) rfl hi dL_may_118 ?_
        refine lv_topi (fun v12 ev12 => ?_)
        have hF := hF v12 ev12
        refine lv_if_eq (tgt := 129) hx hb dL_may_119 (by decide) (fun c13 => ?_) (fun c13 => ?_)
        · have hF := it_t hF c13
          exact j129 x8 _ _ _ hF hP hS (lv_sub hl [0, 1, 2, 3, 4, 5, 6] rfl)
        · have hF := it_f hF c13
          refine lv_iload hx hb dL_may_122 (lv_at hl 3 rfl) ?_
          refine lv_iload hx hb dL_may_124 (lv_at hl 7 rfl) ?_
          refine lv_icmp_le (tgt := 133) hx hb dL_may_126 (by decide) (fun c14 => ?_) (fun c14 => ?_)
          · have hF := it_t hF c14
            exact j133 x8 _ _ _ hF hP hS (lv_sub hl [0, 1, 2, 3, 4, 5, 6] rfl)
          · have hF := it_f hF c14
            exact j129 x8 _ _ _ hF hP hS (lv_sub hl [0, 1, 2, 3, 4, 5, 6] rfl)
      have j78 : ∀ (x6 : Int32) (x8 : Int32) (x9 : Int32) (s0 : Int32) (H : Heap) (locs : List Loc) (ls : Array Slot), fL_may_j78 x3 x4 x5 x7  (fL_may_l23 L x3 x4 x5 x7 fu) L x6 x8 x9 s0 = some r → va_P D vwCl (wLA cI la L) H → va_S A s.heap H locs → lv_has ls 11 [(0, .ref (la 0)), (2, .ref (la 3)), (3, .int x3), (4, .int x4), (5, .int x5), (6, .int x6), (7, .int x7), (8, .int x8), (9, .int x9)] → W p l e rmL_may s m args below meth c H locs 0 0 (MQ below (qI D r (wLA cI la L) A) args s 0 0 A) (F0 m 78 ls [.int s0]) := by
        intro x6 x8 x9 s0 H locs ls hF hP hS hl
        refine lv_istore (lv' := [(10, .int s0), (0, .ref (la 0)), (2, .ref (la 3)), (3, .int x3), (4, .int x4), (5, .int x5), (6, .int x6), (7, .int x7), (8, .int x8), (9, .int x9)]) hx hb dL_may_78 hl (by decide) rfl (fun ls hl => ?_)
        refine lv_iload hx hb dL_may_80 (lv_at hl 6 rfl) ?_
        refine lv_if_eq (tgt := 133) hx hb dL_may_82 (by decide) (fun c8 => ?_) (fun c8 => ?_)
        · have hF := it_t hF c8
          exact j133 x8 _ _ _ hF hP hS (lv_sub hl [1, 2, 3, 4, 5, 7, 8] rfl)
        · have hF := it_f hF c8
          refine lv_iload hx hb dL_may_85 (lv_at hl 0 rfl) ?_
          refine lv_if_eq (tgt := 129) hx hb dL_may_87 (by decide) (fun c10 => ?_) (fun c10 => ?_)
          · have hF := it_t hF c10
            exact j129 x8 _ _ _ hF hP hS (lv_sub hl [1, 2, 3, 4, 5, 7, 8] rfl)
          · have hF := it_f hF c10
            refine lv_iload hx hb dL_may_90 (lv_at hl 4 rfl) ?_
            refine lv_iload hx hb dL_may_92 (lv_at hl 9 rfl) ?_
            refine lv_iload hx hb dL_may_94 (lv_at hl 7 rfl) ?_
            refine lv_iadd hx hb dL_may_96 ?_
            refine lv_icmp_ge (tgt := 110) hx hb dL_may_97 (by decide) (fun c11 => ?_) (fun c11 => ?_)
            · have hF := it_t hF c11
              exact j110 x8 x9 _ _ _ hF hP hS (lv_sub hl [1, 2, 3, 4, 5, 7, 8, 9] rfl)
            · have hF := it_f hF c11
              refine lv_iload hx hb dL_may_100 (lv_at hl 4 rfl) ?_
              refine lv_iload hx hb dL_may_102 (lv_at hl 7 rfl) ?_
              refine lv_iadd hx hb dL_may_104 ?_
              refine lv_iload hx hb dL_may_105 (lv_at hl 9 rfl) ?_
              refine lv_icmp_gt (tgt := 133) hx hb dL_may_107 (by decide) (fun c15 => ?_) (fun c15 => ?_)
              · have hF := it_t hF c15
                exact j133 x8 _ _ _ hF hP hS (lv_sub hl [1, 2, 3, 4, 5, 7, 8] rfl)
              · have hF := it_f hF c15
                exact j110 x8 x9 _ _ _ hF hP hS (lv_sub hl [1, 2, 3, 4, 5, 7, 8, 9] rfl)
      have j77 : ∀ (x6 : Int32) (x8 : Int32) (x9 : Int32) (H : Heap) (locs : List Loc) (ls : Array Slot), fL_may_j77 x3 x4 x5 x7  (fL_may_l23 L x3 x4 x5 x7 fu) L x6 x8 x9 = some r → va_P D vwCl (wLA cI la L) H → va_S A s.heap H locs → lv_has ls 11 [(0, .ref (la 0)), (2, .ref (la 3)), (3, .int x3), (4, .int x4), (5, .int x5), (6, .int x6), (7, .int x7), (8, .int x8), (9, .int x9)] → W p l e rmL_may s m args below meth c H locs 0 0 (MQ below (qI D r (wLA cI la L) A) args s 0 0 A) (F0 m 77 ls []) := by
        intro x6 x8 x9 H locs ls hF hP hS hl
        refine lv_iconst (v := 0) hx hb dL_may_77 (by decide) ?_
        exact j78 x6 x8 x9 0 _ _ _ hF hP hS (lv_sub hl [0, 1, 2, 3, 4, 5, 6, 7, 8] rfl)
      refine lv_iload hx hb dL_may_23 (lv_at hl 7 rfl) ?_
      refine lv_aload_n hx hb dL_may_25 rfl (lv_at hl 0 rfl) ?_
      refine lv_iconst (v := 1) hx hb dL_may_26 (by decide) ?_
      obtain ⟨hi, hF⟩ := rd_use hF
      refine va_iald hx hb hK hP 0 0 (pLA_0 cI la L) rfl hi dL_may_27 ?_
      refine lv_topi (fun v4 ev4 => ?_)
      have hF := hF v4 ev4
      refine lv_icmp_ge (tgt := 142) hx hb dL_may_28 (by decide) (fun c5 => ?_) (fun c5 => ?_)
      · have hF := it_t hF c5
        refine lv_iload hx hb dL_may_142 (lv_at hl 5 rfl) ?_
        obtain ⟨hz, hF⟩ := zb_use hF
        exact rt_Z hx hb hr hlocks hS hP hz (so_use hF) dL_may_144
      · have hF := it_f hF c5
        refine lv_aload_n hx hb dL_may_31 rfl (lv_at hl 1 rfl) ?_
        refine lv_bipush (v := 9) hx hb dL_may_32 (by decide) ?_
        refine lv_iload hx hb dL_may_34 (lv_at hl 7 rfl) ?_
        refine lv_imul hx hb dL_may_36 ?_
        refine lv_iconst (v := 1) hx hb dL_may_37 (by decide) ?_
        refine lv_iadd hx hb dL_may_38 ?_
        obtain ⟨hi, hF⟩ := rd_use hF
        refine va_iald hx hb hK hP 3 0 (pLA_3 cI la L) rfl hi dL_may_39 ?_
        refine lv_topi (fun v6 ev6 => ?_)
        have hF := hF v6 ev6
        refine lv_istore (lv' := [(9, .int v6), (0, .ref (la 0)), (2, .ref (la 3)), (3, .int x3), (4, .int x4), (5, .int x5), (6, .int x6), (7, .int x7), (8, .int x8)]) hx hb dL_may_40 hl (by decide) rfl (fun ls hl => ?_)
        refine lv_iload hx hb dL_may_42 (lv_at hl 8 rfl) ?_
        refine lv_iload hx hb dL_may_44 (lv_at hl 5 rfl) ?_
        refine lv_icmp_eq (tgt := 77) hx hb dL_may_46 (by decide) (fun c7 => ?_) (fun c7 => ?_)
        · have hF := it_t hF c7
          exact j77 x6 x8 v6 _ _ _ hF hP hS (lv_sub hl [1, 2, 3, 4, 5, 6, 7, 8, 0] rfl)
        · have hF := it_f hF c7
          refine lv_aload_n hx hb dL_may_49 rfl (lv_at hl 2 rfl) ?_
          refine lv_bipush (v := 9) hx hb dL_may_50 (by decide) ?_
          refine lv_iload hx hb dL_may_52 (lv_at hl 8 rfl) ?_
          refine lv_imul hx hb dL_may_54 ?_
          obtain ⟨hi, hF⟩ := rd_use hF
          refine va_iald hx hb hK hP 3 0 (pLA_3 cI la L) rfl hi dL_may_55 ?_
          refine lv_topi (fun v16 ev16 => ?_)
          have hF := hF v16 ev16
          refine lv_iload_n hx hb dL_may_56 rfl (lv_at hl 3 rfl) ?_
          refine lv_icmp_ne (tgt := 77) hx hb dL_may_57 (by decide) (fun c17 => ?_) (fun c17 => ?_)
          · have hF := it_f hF c17
            exact j77 x6 x8 v6 _ _ _ hF hP hS (lv_sub hl [1, 2, 3, 4, 5, 6, 7, 8, 0] rfl)
          · have hF := it_t hF c17
            refine lv_aload_n hx hb dL_may_60 rfl (lv_at hl 2 rfl) ?_
            refine lv_bipush (v := 9) hx hb dL_may_61 (by decide) ?_
            refine lv_iload hx hb dL_may_63 (lv_at hl 8 rfl) ?_
            refine lv_imul hx hb dL_may_65 ?_
            refine lv_iconst (v := 3) hx hb dL_may_66 (by decide) ?_
            refine lv_iadd hx hb dL_may_67 ?_
            obtain ⟨hi, hF⟩ := rd_use hF
            refine va_iald hx hb hK hP 3 0 (pLA_3 cI la L) rfl hi dL_may_68 ?_
            refine lv_topi (fun v18 ev18 => ?_)
            have hF := hF v18 ev18
            refine lv_iconst (v := 2) hx hb dL_may_69 (by decide) ?_
            refine lv_icmp_ge (tgt := 77) hx hb dL_may_70 (by decide) (fun c19 => ?_) (fun c19 => ?_)
            · have hF := it_t hF c19
              exact j77 x6 x8 v6 _ _ _ hF hP hS (lv_sub hl [1, 2, 3, 4, 5, 6, 7, 8, 0] rfl)
            · have hF := it_f hF c19
              refine lv_iconst (v := 1) hx hb dL_may_73 (by decide) ?_
              refine lv_goto (tgt := 78) hx hb dL_may_74 (by decide) ?_
              exact j78 x6 x8 v6 1 _ _ _ hF hP hS (lv_sub hl [1, 2, 3, 4, 5, 6, 7, 8, 0] rfl)
  refine lv_iconst (v := 1) hx hb dL_may_0 (by decide) ?_
  refine lv_istore (lv' := [(6, .int 1), (0, .ref (la 0)), (1, .ref (la 2)), (2, .ref (la 3)), (3, .int x3), (4, .int x4), (5, .int x5)]) hx hb dL_may_1 hl (by decide) rfl (fun ls hl => ?_)
  refine lv_aload_n hx hb dL_may_3 rfl (lv_at hl 2 rfl) ?_
  refine lv_bipush (v := 11) hx hb dL_may_4 (by decide) ?_
  refine lv_iload_n hx hb dL_may_6 rfl (lv_at hl 4 rfl) ?_
  refine lv_imul hx hb dL_may_7 ?_
  obtain ⟨hi, hF⟩ := rd_use hF
  refine va_iald hx hb hK hP 2 0 (pLA_2 cI la L) rfl hi dL_may_8 ?_
  refine lv_topi (fun v1 ev1 => ?_)
  have hF := hF v1 ev1
  refine lv_aload_n hx hb dL_may_9 rfl (lv_at hl 2 rfl) ?_
  refine lv_bipush (v := 11) hx hb dL_may_10 (by decide) ?_
  refine lv_iload_n hx hb dL_may_12 rfl (lv_at hl 4 rfl) ?_
  refine lv_imul hx hb dL_may_13 ?_
  refine lv_iconst (v := 1) hx hb dL_may_14 (by decide) ?_
  refine lv_iadd hx hb dL_may_15 ?_
  obtain ⟨hi, hF⟩ := rd_use hF
  refine va_iald hx hb hK hP 2 0 (pLA_2 cI la L) rfl hi dL_may_16 ?_
  refine lv_topi (fun v2 ev2 => ?_)
  have hF := hF v2 ev2
  refine lv_iadd hx hb dL_may_17 ?_
  refine lv_topi (fun v3 ev3 => ?_)
  have hF := nm_use hF ev3
  refine lv_istore (lv' := [(7, .int v3), (6, .int 1), (0, .ref (la 0)), (1, .ref (la 2)), (2, .ref (la 3)), (3, .int x3), (4, .int x4), (5, .int x5)]) hx hb dL_may_18 hl (by decide) rfl (fun ls hl => ?_)
  refine lv_iconst (v := 0) hx hb dL_may_20 (by decide) ?_
  refine lv_istore (lv' := [(8, .int 0), (7, .int v3), (6, .int 1), (0, .ref (la 0)), (1, .ref (la 2)), (2, .ref (la 3)), (3, .int x3), (4, .int x4), (5, .int x5)]) hx hb dL_may_21 hl (by decide) rfl (fun ls hl => ?_)
  refine l23 x3 x4 x5 v3  _ 1 0 _ _ _ hF hP hS (lv_sub hl [3, 5, 6, 7, 8, 2, 1, 0] rfl)
noncomputable def fL_next_j96  (x2 : Int32) (x3 : Int32) (ih : Int32 → Int32 → Option (Int32)) (L : La) (x5 : Int32) (s0 : Int32) : Option (Int32) := nm (x5 + (-1)) fun v7 => ih s0 v7
noncomputable def fL_next_j94  (x2 : Int32) (x3 : Int32) (ih : Int32 → Int32 → Option (Int32)) (L : La) (x4 : Int32) (x5 : Int32) : Option (Int32) := fL_next_j96 x2 x3 ih L x5 x4
noncomputable def fL_next_j89  (x2 : Int32) (x3 : Int32) (ih : Int32 → Int32 → Option (Int32)) (L : La) (x5 : Int32) : Option (Int32) := fL_next_j96 x2 x3 ih L x5 x5
noncomputable def fL_next_j56  (x2 : Int32) (x3 : Int32) (ih : Int32 → Int32 → Option (Int32)) (L : La) (x4 : Int32) (x5 : Int32) (s0 : Int32) : Option (Int32) := if s0 = 0 then (fL_next_j94 x2 x3 ih L x4 x5) else (if x4 < 0 then (fL_next_j89 x2 x3 ih L x5) else (Rd (L.2.2.2.1) 63 ((9 * x5) + 1) fun v9 => Rd (L.2.2.2.1) 63 ((9 * x4) + 1) fun v10 => if v10 ≤ v9 then (fL_next_j94 x2 x3 ih L x4 x5) else (fL_next_j89 x2 x3 ih L x5)))
noncomputable def fL_next_j55  (x2 : Int32) (x3 : Int32) (ih : Int32 → Int32 → Option (Int32)) (L : La) (x4 : Int32) (x5 : Int32) : Option (Int32) := fL_next_j56 x2 x3 ih L x4 x5 0
noncomputable def fL_next_l10  (L : La) (x2 : Int32) (x3 : Int32) : Nat → Int32 → Int32 → Option (Int32) := fun fu => Nat.rec (motive := fun _ => Int32 → Int32 → Option (Int32)) (fun _ _ => none) (fun _ ih => fun x4 x5 => if x5 < 0 then (some x4) else (Rd (L.2.2.2.1) 63 (9 * x5) fun v4 => if v4 = x2 then (Rd (L.2.2.2.1) 63 ((9 * x5) + 3) fun v12 => if v12 = 0 then (Rd (L.2.2.2.1) 63 ((9 * x5) + 1) fun v14 => if v14 < x3 then (fL_next_j55 x2 x3 ih L x4 x5) else (fL_next_j56 x2 x3 ih L x4 x5 1)) else (fL_next_j55 x2 x3 ih L x4 x5)) else (fL_next_j55 x2 x3 ih L x4 x5))) fu
theorem fL_next_l10_s  (L : La) (x2 : Int32) (x3 : Int32) (fu : Nat) (x4 : Int32) (x5 : Int32) : fL_next_l10 L x2 x3 (fu + 1) x4 x5 = (if x5 < 0 then (some x4) else (Rd (L.2.2.2.1) 63 (9 * x5) fun v4 => if v4 = x2 then (Rd (L.2.2.2.1) 63 ((9 * x5) + 3) fun v12 => if v12 = 0 then (Rd (L.2.2.2.1) 63 ((9 * x5) + 1) fun v14 => if v14 < x3 then (fL_next_j55 x2 x3 (fL_next_l10 L x2 x3 fu) L x4 x5) else (fL_next_j56 x2 x3 (fL_next_l10 L x2 x3 fu) L x4 x5 1)) else (fL_next_j55 x2 x3 (fL_next_l10 L x2 x3 fu) L x4 x5)) else (fL_next_j55 x2 x3 (fL_next_l10 L x2 x3 fu) L x4 x5))) := rfl
theorem fL_next_l10_z  (L : La) (x2 : Int32) (x3 : Int32) (x4 : Int32) (x5 : Int32) : fL_next_l10 L x2 x3 0 x4 x5 = none := rfl
noncomputable def fL_next  (L : La) (x2 : Int32) (x3 : Int32) : Option (Int32) := Rd (L.1) 5 1 fun v1 => nm (v1 - 1) fun v2 => fL_next_l10 L x2 x3 FU (-1) v2
abbrev vL_next : List Cond := Cond.code yL_next cL_next 7 (some .int) :: BIG
theorem gL_next {own : String} {idx : Nat} (h : (Cond.methodLink own idx yL_next) ∈ BIG) : GoodIn BIG (va_wsS own idx yL_next vL_next) := gdS h bw3_17 bw1_0 bw3_18
theorem gL_next_n : GoodIn BIG vL_next := gdN bw3_18
def rmL_next : Room := { frames := 0, cells := 0, slots := 0, locals := 0 }
theorem hdL_next : yL_next.cls ≠ "java/lang/invoke/MethodHandle" ∧ yL_next.cls ≠ "java/lang/invoke/VarHandle" ∧ (parseMethodDescriptor yL_next.desc).map (fun d => d.parameters.length) = some 4 := by decide +kernel
set_option maxHeartbeats 4000000 in
set_option maxRecDepth 100000 in
theorem kL_next (l : Launch) (D : va_G) (cS : ClassId) (g : Nat → Nat) (cI : ClassId) (la : Nat → Nat) (L : La) (x2 : Int32) (x3 : Int32) (r : Int32) (hF : fL_next L x2 x3 = some r) : mI l yL_next vL_next rmL_next D cI cS g [.ref (la 0), .ref (la 3), .int x2, .int x3] (wLA cI la L) r (wLA cI la L) := by
  refine st_I rfl (by decide) (Nat.le_of_ble_eq_true rfl) ?_
  intro p e s m args below meth c A ls hx hb hr hml hlocks hown hts hA hK hD0 hG hP hS hl
  have hown : s.vm.findClass RL = some m.cls := hown
  have hDa : ∀ L, va_D A (wLA cI la L) := fun L => hD0.adr rfl
  have htb : ∀ w ∈ BIG, w.before args s = true := fun w h => hts w (List.mem_cons_of_mem _ h)
  have hl : lv_has ls 7 [(0, .ref (la 0)), (1, .ref (la 3)), (2, .int x2), (3, .int x3)] := hl
  have l10 : ∀ (x2 : Int32) (x3 : Int32) (fu : Nat) (x4 : Int32) (x5 : Int32) (H : Heap) (locs : List Loc) (ls : Array Slot), fL_next_l10 L x2 x3 fu x4 x5 = some r → va_P D vwCl (wLA cI la L) H → va_S A s.heap H locs → lv_has ls 7 [(1, .ref (la 3)), (2, .int x2), (3, .int x3), (4, .int x4), (5, .int x5)] → W p l e rmL_next s m args below meth c H locs 0 0 (MQ below (qI D r (wLA cI la L) A) args s 0 0 A) (F0 m 10 ls []) := by
    intro x2 x3  fu
    induction fu with
    | zero => intro x4 x5 H locs ls hF; exact nn_use hF
    | succ fu ihn =>
      intro x4 x5 H locs ls hF hP hS hl 
      rw [fL_next_l10_s] at hF
      have j96 : ∀ (x5 : Int32) (s0 : Int32) (H : Heap) (locs : List Loc) (ls : Array Slot), fL_next_j96 x2 x3  (fL_next_l10 L x2 x3 fu) L x5 s0 = some r → va_P D vwCl (wLA cI la L) H → va_S A s.heap H locs → lv_has ls 7 [(1, .ref (la 3)), (2, .int x2), (3, .int x3), (5, .int x5)] → W p l e rmL_next s m args below meth c H locs 0 0 (MQ below (qI D r (wLA cI la L) A) args s 0 0 A) (F0 m 96 ls [.int s0]) := by
        intro x5 s0 H locs ls hF hP hS hl
        refine lv_istore (lv' := [(4, .int s0), (1, .ref (la 3)), (2, .int x2), (3, .int x3), (5, .int x5)]) hx hb dL_next_96 hl (by decide) rfl (fun ls hl => ?_)
        obtain ⟨v7, ev7⟩ : ∃ z : Int32, z = x5 + (-1) := ⟨_, rfl⟩
        refine lv_iinc (v := v7) (lv' := [(5, .int v7), (4, .int s0), (1, .ref (la 3)), (2, .int x2), (3, .int x3)]) hx hb dL_next_98 hl (k := 4) rfl (by rw [ev7]; rfl) (by decide) rfl (fun ls hl => ?_)
        have hF := nm_use hF ev7
        refine lv_goto (tgt := 10) hx hb dL_next_101 (by decide) ?_
        exact ihn s0 v7 _ _ _ hF hP hS (lv_sub hl [2, 3, 4, 1, 0] rfl)
      have j94 : ∀ (x4 : Int32) (x5 : Int32) (H : Heap) (locs : List Loc) (ls : Array Slot), fL_next_j94 x2 x3  (fL_next_l10 L x2 x3 fu) L x4 x5 = some r → va_P D vwCl (wLA cI la L) H → va_S A s.heap H locs → lv_has ls 7 [(1, .ref (la 3)), (2, .int x2), (3, .int x3), (4, .int x4), (5, .int x5)] → W p l e rmL_next s m args below meth c H locs 0 0 (MQ below (qI D r (wLA cI la L) A) args s 0 0 A) (F0 m 94 ls []) := by
        intro x4 x5 H locs ls hF hP hS hl
        refine lv_iload hx hb dL_next_94 (lv_at hl 3 rfl) ?_
        exact j96 x5 x4 _ _ _ hF hP hS (lv_sub hl [0, 1, 2, 4] rfl)
      have j89 : ∀ (x5 : Int32) (H : Heap) (locs : List Loc) (ls : Array Slot), fL_next_j89 x2 x3  (fL_next_l10 L x2 x3 fu) L x5 = some r → va_P D vwCl (wLA cI la L) H → va_S A s.heap H locs → lv_has ls 7 [(1, .ref (la 3)), (2, .int x2), (3, .int x3), (5, .int x5)] → W p l e rmL_next s m args below meth c H locs 0 0 (MQ below (qI D r (wLA cI la L) A) args s 0 0 A) (F0 m 89 ls []) := by
        intro x5 H locs ls hF hP hS hl
        refine lv_iload hx hb dL_next_89 (lv_at hl 3 rfl) ?_
        refine lv_goto (tgt := 96) hx hb dL_next_91 (by decide) ?_
        exact j96 x5 x5 _ _ _ hF hP hS (lv_sub hl [0, 1, 2, 3] rfl)
      have j56 : ∀ (x4 : Int32) (x5 : Int32) (s0 : Int32) (H : Heap) (locs : List Loc) (ls : Array Slot), fL_next_j56 x2 x3  (fL_next_l10 L x2 x3 fu) L x4 x5 s0 = some r → va_P D vwCl (wLA cI la L) H → va_S A s.heap H locs → lv_has ls 7 [(1, .ref (la 3)), (2, .int x2), (3, .int x3), (4, .int x4), (5, .int x5)] → W p l e rmL_next s m args below meth c H locs 0 0 (MQ below (qI D r (wLA cI la L) A) args s 0 0 A) (F0 m 56 ls [.int s0]) := by
        intro x4 x5 s0 H locs ls hF hP hS hl
        refine lv_istore (lv' := [(6, .int s0), (1, .ref (la 3)), (2, .int x2), (3, .int x3), (4, .int x4), (5, .int x5)]) hx hb dL_next_56 hl (by decide) rfl (fun ls hl => ?_)
        refine lv_iload hx hb dL_next_58 (lv_at hl 0 rfl) ?_
        refine lv_if_eq (tgt := 94) hx hb dL_next_60 (by decide) (fun c6 => ?_) (fun c6 => ?_)
        · have hF := it_t hF c6
          exact j94 x4 x5 _ _ _ hF hP hS (lv_sub hl [1, 2, 3, 4, 5] rfl)
        · have hF := it_f hF c6
          refine lv_iload hx hb dL_next_63 (lv_at hl 4 rfl) ?_
          refine lv_if_lt (tgt := 89) hx hb dL_next_65 (by decide) (fun c8 => ?_) (fun c8 => ?_)
          · have hF := it_t hF c8
            exact j89 x5 _ _ _ hF hP hS (lv_sub hl [1, 2, 3, 5] rfl)
          · have hF := it_f hF c8
            refine lv_aload_n hx hb dL_next_68 rfl (lv_at hl 1 rfl) ?_
            refine lv_bipush (v := 9) hx hb dL_next_69 (by decide) ?_
            refine lv_iload hx hb dL_next_71 (lv_at hl 5 rfl) ?_
            refine lv_imul hx hb dL_next_73 ?_
            refine lv_iconst (v := 1) hx hb dL_next_74 (by decide) ?_
            refine lv_iadd hx hb dL_next_75 ?_
            obtain ⟨hi, hF⟩ := rd_use hF
            refine va_iald hx hb hK hP 3 0 (pLA_3 cI la L) rfl hi dL_next_76 ?_
            refine lv_topi (fun v9 ev9 => ?_)
            have hF := hF v9 ev9
            refine lv_aload_n hx hb dL_next_77 rfl (lv_at hl 1 rfl) ?_
            refine lv_bipush (v := 9) hx hb dL_next_78 (by decide) ?_
            refine lv_iload hx hb dL_next_80 (lv_at hl 4 rfl) ?_
            refine lv_imul hx hb dL_next_82 ?_
            refine lv_iconst (v := 1) hx hb dL_next_83 (by decide) ?_
            refine lv_iadd hx hb dL_next_84 ?_
            obtain ⟨hi, hF⟩ := rd_use hF
            refine va_iald hx hb hK hP 3 0 (pLA_3 cI la L) rfl hi dL_next_85 ?_
            refine lv_topi (fun v10 ev10 => ?_)
            have hF := hF v10 ev10
            refine lv_icmp_ge (tgt := 94) hx hb dL_next_86 (by decide) (fun c11 => ?_) (fun c11 => ?_)
            · have hF := it_t hF c11
              exact j94 x4 x5 _ _ _ hF hP hS (lv_sub hl [1, 2, 3, 4, 5] rfl)
            · have hF := it_f hF c11
              exact j89 x5 _ _ _ hF hP hS (lv_sub hl [1, 2, 3, 5] rfl)
      have j55 : ∀ (x4 : Int32) (x5 : Int32) (H : Heap) (locs : List Loc) (ls : Array Slot), fL_next_j55 x2 x3  (fL_next_l10 L x2 x3 fu) L x4 x5 = some r → va_P D vwCl (wLA cI la L) H → va_S A s.heap H locs → lv_has ls 7 [(1, .ref (la 3)), (2, .int x2), (3, .int x3), (4, .int x4), (5, .int x5)] → W p l e rmL_next s m args below meth c H locs 0 0 (MQ below (qI D r (wLA cI la L) A) args s 0 0 A) (F0 m 55 ls []) := by
        intro x4 x5 H locs ls hF hP hS hl
        refine lv_iconst (v := 0) hx hb dL_next_55 (by decide) ?_
        exact j56 x4 x5 0 _ _ _ hF hP hS (lv_sub hl [0, 1, 2, 3, 4] rfl)
      refine lv_iload hx hb dL_next_10 (lv_at hl 4 rfl) ?_
      refine lv_if_lt (tgt := 104) hx hb dL_next_12 (by decide) (fun c3 => ?_) (fun c3 => ?_)
      · have hF := it_t hF c3
        refine lv_iload hx hb dL_next_104 (lv_at hl 3 rfl) ?_
        exact rt_I hx hb hr hlocks hS hP (so_use hF) dL_next_106
      · have hF := it_f hF c3
        refine lv_aload_n hx hb dL_next_15 rfl (lv_at hl 0 rfl) ?_
        refine lv_bipush (v := 9) hx hb dL_next_16 (by decide) ?_
        refine lv_iload hx hb dL_next_18 (lv_at hl 4 rfl) ?_
        refine lv_imul hx hb dL_next_20 ?_
        obtain ⟨hi, hF⟩ := rd_use hF
        refine va_iald hx hb hK hP 3 0 (pLA_3 cI la L) rfl hi dL_next_21 ?_
        refine lv_topi (fun v4 ev4 => ?_)
        have hF := hF v4 ev4
        refine lv_iload_n hx hb dL_next_22 rfl (lv_at hl 1 rfl) ?_
        refine lv_icmp_ne (tgt := 55) hx hb dL_next_23 (by decide) (fun c5 => ?_) (fun c5 => ?_)
        · have hF := it_f hF c5
          exact j55 x4 x5 _ _ _ hF hP hS (lv_sub hl [0, 1, 2, 3, 4] rfl)
        · have hF := it_t hF c5
          refine lv_aload_n hx hb dL_next_26 rfl (lv_at hl 0 rfl) ?_
          refine lv_bipush (v := 9) hx hb dL_next_27 (by decide) ?_
          refine lv_iload hx hb dL_next_29 (lv_at hl 4 rfl) ?_
          refine lv_imul hx hb dL_next_31 ?_
          refine lv_iconst (v := 3) hx hb dL_next_32 (by decide) ?_
          refine lv_iadd hx hb dL_next_33 ?_
          obtain ⟨hi, hF⟩ := rd_use hF
          refine va_iald hx hb hK hP 3 0 (pLA_3 cI la L) rfl hi dL_next_34 ?_
          refine lv_topi (fun v12 ev12 => ?_)
          have hF := hF v12 ev12
          refine lv_if_ne (tgt := 55) hx hb dL_next_35 (by decide) (fun c13 => ?_) (fun c13 => ?_)
          · have hF := it_f hF c13
            exact j55 x4 x5 _ _ _ hF hP hS (lv_sub hl [0, 1, 2, 3, 4] rfl)
          · have hF := it_t hF c13
            refine lv_aload_n hx hb dL_next_38 rfl (lv_at hl 0 rfl) ?_
            refine lv_bipush (v := 9) hx hb dL_next_39 (by decide) ?_
            refine lv_iload hx hb dL_next_41 (lv_at hl 4 rfl) ?_
            refine lv_imul hx hb dL_next_43 ?_
            refine lv_iconst (v := 1) hx hb dL_next_44 (by decide) ?_
            refine lv_iadd hx hb dL_next_45 ?_
            obtain ⟨hi, hF⟩ := rd_use hF
            refine va_iald hx hb hK hP 3 0 (pLA_3 cI la L) rfl hi dL_next_46 ?_
            refine lv_topi (fun v14 ev14 => ?_)
            have hF := hF v14 ev14
            refine lv_iload_n hx hb dL_next_47 rfl (lv_at hl 2 rfl) ?_
            refine lv_icmp_lt (tgt := 55) hx hb dL_next_48 (by decide) (fun c15 => ?_) (fun c15 => ?_)
            · have hF := it_t hF c15
              exact j55 x4 x5 _ _ _ hF hP hS (lv_sub hl [0, 1, 2, 3, 4] rfl)
            · have hF := it_f hF c15
              refine lv_iconst (v := 1) hx hb dL_next_51 (by decide) ?_
              refine lv_goto (tgt := 56) hx hb dL_next_52 (by decide) ?_
              exact j56 x4 x5 1 _ _ _ hF hP hS (lv_sub hl [0, 1, 2, 3, 4] rfl)
  refine lv_iconst (v := (-1)) hx hb dL_next_0 (by decide) ?_
  refine lv_istore (lv' := [(4, .int (-1)), (0, .ref (la 0)), (1, .ref (la 3)), (2, .int x2), (3, .int x3)]) hx hb dL_next_1 hl (by decide) rfl (fun ls hl => ?_)
  refine lv_aload_n hx hb dL_next_3 rfl (lv_at hl 1 rfl) ?_
  refine lv_iconst (v := 1) hx hb dL_next_4 (by decide) ?_
  obtain ⟨hi, hF⟩ := rd_use hF
  refine va_iald hx hb hK hP 0 0 (pLA_0 cI la L) rfl hi dL_next_5 ?_
  refine lv_topi (fun v1 ev1 => ?_)
  have hF := hF v1 ev1
  refine lv_iconst (v := 1) hx hb dL_next_6 (by decide) ?_
  refine lv_isub hx hb dL_next_7 ?_
  refine lv_topi (fun v2 ev2 => ?_)
  have hF := nm_use hF ev2
  refine lv_istore (lv' := [(5, .int v2), (4, .int (-1)), (0, .ref (la 0)), (1, .ref (la 3)), (2, .int x2), (3, .int x3)]) hx hb dL_next_8 hl (by decide) rfl (fun ls hl => ?_)
  refine l10 x2 x3  _ (-1) v2 _ _ _ hF hP hS (lv_sub hl [3, 4, 5, 1, 0] rfl)
noncomputable def fL_late_j138  (x3 : Int32) (x5 : Int32) (ih : Int32 → Int32 → Int32 → Int32 → Option (Int32)) (L : La) (x6 : Int32) (x7 : Int32) (x8 : Int32) (s0 : Int32) : Option (Int32) := ih x6 x7 x8 s0
noncomputable def fL_late_j108  (x3 : Int32) (x5 : Int32) (ih : Int32 → Int32 → Int32 → Int32 → Option (Int32)) (L : La) (x6 : Int32) (x7 : Int32) (x9 : Int32) (s0 : Int32) : Option (Int32) := if s0 = 0 then (fL_late_j138 x3 x5 ih L x6 x7 s0 x9) else (Rd (L.2.2.2.1) 63 ((9 * x9) + 1) fun v13 => (fL_next L x5 (v13 + 1)).bind fun r14 => fL_late_j138 x3 x5 ih L x6 x7 s0 r14)
noncomputable def fL_late_j70  (x3 : Int32) (x5 : Int32) (ih : Int32 → Int32 → Int32 → Int32 → Option (Int32)) (L : La) (x9 : Int32) (x10 : Int32) (s0 : Int32) : Option (Int32) := Rd (L.2.2.1) 33 (11 * x5) fun v8 => Rd (L.2.2.1) 33 ((11 * x5) + 1) fun v9 => nm (((x10 + s0) + v8) + v9) fun v10 => if x9 = x3 then (fL_late_j108 x3 x5 ih L v10 s0 x9 0) else (fL_late_j108 x3 x5 ih L v10 s0 x9 1)
noncomputable def fL_late_l38  (L : La) (x3 : Int32) (x5 : Int32) : Nat → Int32 → Int32 → Int32 → Int32 → Option (Int32) := fun fu => Nat.rec (motive := fun _ => Int32 → Int32 → Int32 → Int32 → Option (Int32)) (fun _ _ _ _ => none) (fun _ ih => fun x6 x7 x8 x9 => if x8 = 0 then (some x7) else (Rd (L.2.2.2.1) 63 ((9 * x9) + 1) fun v6 => if x6 ≤ v6 then (fL_late_j70 x3 x5 ih L x9 v6 0) else (fL_late_j70 x3 x5 ih L x9 v6 (x6 - v6)))) fu
theorem fL_late_l38_s  (L : La) (x3 : Int32) (x5 : Int32) (fu : Nat) (x6 : Int32) (x7 : Int32) (x8 : Int32) (x9 : Int32) : fL_late_l38 L x3 x5 (fu + 1) x6 x7 x8 x9 = (if x8 = 0 then (some x7) else (Rd (L.2.2.2.1) 63 ((9 * x9) + 1) fun v6 => if x6 ≤ v6 then (fL_late_j70 x3 x5 (fL_late_l38 L x3 x5 fu) L x9 v6 0) else (fL_late_j70 x3 x5 (fL_late_l38 L x3 x5 fu) L x9 v6 (x6 - v6)))) := rfl
theorem fL_late_l38_z  (L : La) (x3 : Int32) (x5 : Int32) (x6 : Int32) (x7 : Int32) (x8 : Int32) (x9 : Int32) : fL_late_l38 L x3 x5 0 x6 x7 x8 x9 = none := rfl
noncomputable def fL_late  (L : La) (x3 : Int32) (x4 : Int32) : Option (Int32) := Rd (L.2.2.2.1) 63 (9 * x3) fun v1 => Rd (L.2.2.1) 33 ((11 * v1) + 4) fun v2 => nm (v2 + x4) fun v3 => (fL_next L v1 0).bind fun r4 => fL_late_l38 L x3 v1 FU v3 0 1 r4
abbrev vL_late : List Cond := Cond.code yL_late cL_late 11 (some .int) :: BIG
theorem gL_late {own : String} {idx : Nat} (h : (Cond.methodLink own idx yL_late) ∈ BIG) : GoodIn BIG (va_wsS own idx yL_late vL_late) := gdS h bw3_14 bw1_0 bw3_15
theorem gL_late_n : GoodIn BIG vL_late := gdN bw3_15
def rmL_late : Room := { frames := 1, cells := 0, slots := 0, locals := 26 }
theorem hdL_late : yL_late.cls ≠ "java/lang/invoke/MethodHandle" ∧ yL_late.cls ≠ "java/lang/invoke/VarHandle" ∧ (parseMethodDescriptor yL_late.desc).map (fun d => d.parameters.length) = some 5 := by decide +kernel
set_option maxHeartbeats 4000000 in
set_option maxRecDepth 100000 in
theorem kL_late (l : Launch) (D : va_G) (cS : ClassId) (g : Nat → Nat) (cI : ClassId) (la : Nat → Nat) (L : La) (x3 : Int32) (x4 : Int32) (r : Int32) (hF : fL_late L x3 x4 = some r) : mI l yL_late vL_late rmL_late D cI cS g [.ref (la 0), .ref (la 2), .ref (la 3), .int x3, .int x4] (wLA cI la L) r (wLA cI la L) := by
  refine st_I rfl (by decide) (Nat.le_of_ble_eq_true rfl) ?_
  intro p e s m args below meth c A ls hx hb hr hml hlocks hown hts hA hK hD0 hG hP hS hl
  have hown : s.vm.findClass RL = some m.cls := hown
  have hDa : ∀ L, va_D A (wLA cI la L) := fun L => hD0.adr rfl
  have htb : ∀ w ∈ BIG, w.before args s = true := fun w h => hts w (List.mem_cons_of_mem _ h)
  have hl : lv_has ls 11 [(0, .ref (la 0)), (1, .ref (la 2)), (2, .ref (la 3)), (3, .int x3), (4, .int x4)] := hl
  have l38 : ∀ (x3 : Int32) (x5 : Int32) (fu : Nat) (x6 : Int32) (x7 : Int32) (x8 : Int32) (x9 : Int32) (H : Heap) (locs : List Loc) (ls : Array Slot), fL_late_l38 L x3 x5 fu x6 x7 x8 x9 = some r → va_P D vwCl (wLA cI la L) H → va_S A s.heap H locs → lv_has ls 11 [(0, .ref (la 0)), (1, .ref (la 2)), (2, .ref (la 3)), (3, .int x3), (5, .int x5), (6, .int x6), (7, .int x7), (8, .int x8), (9, .int x9)] → W p l e rmL_late s m args below meth c H locs 0 0 (MQ below (qI D r (wLA cI la L) A) args s 0 0 A) (F0 m 38 ls []) := by
    intro x3 x5  fu
    induction fu with
    | zero => intro x6 x7 x8 x9 H locs ls hF; exact nn_use hF
    | succ fu ihn =>
      intro x6 x7 x8 x9 H locs ls hF hP hS hl 
      rw [fL_late_l38_s] at hF
      have j138 : ∀ (x6 : Int32) (x7 : Int32) (x8 : Int32) (s0 : Int32) (H : Heap) (locs : List Loc) (ls : Array Slot), fL_late_j138 x3 x5  (fL_late_l38 L x3 x5 fu) L x6 x7 x8 s0 = some r → va_P D vwCl (wLA cI la L) H → va_S A s.heap H locs → lv_has ls 11 [(0, .ref (la 0)), (1, .ref (la 2)), (2, .ref (la 3)), (3, .int x3), (5, .int x5), (6, .int x6), (7, .int x7), (8, .int x8)] → W p l e rmL_late s m args below meth c H locs 0 0 (MQ below (qI D r (wLA cI la L) A) args s 0 0 A) (F0 m 138 ls [.int s0]) := by
        intro x6 x7 x8 s0 H locs ls hF hP hS hl
        refine lv_istore (lv' := [(9, .int s0), (0, .ref (la 0)), (1, .ref (la 2)), (2, .ref (la 3)), (3, .int x3), (5, .int x5), (6, .int x6), (7, .int x7), (8, .int x8)]) hx hb dL_late_138 hl (by decide) rfl (fun ls hl => ?_)
        refine lv_goto (tgt := 38) hx hb dL_late_140 (by decide) ?_
        exact ihn x6 x7 x8 s0 _ _ _ hF hP hS (lv_sub hl [1, 2, 3, 4, 5, 6, 7, 8, 0] rfl)
      have j108 : ∀ (x6 : Int32) (x7 : Int32) (x9 : Int32) (s0 : Int32) (H : Heap) (locs : List Loc) (ls : Array Slot), fL_late_j108 x3 x5  (fL_late_l38 L x3 x5 fu) L x6 x7 x9 s0 = some r → va_P D vwCl (wLA cI la L) H → va_S A s.heap H locs → lv_has ls 11 [(0, .ref (la 0)), (1, .ref (la 2)), (2, .ref (la 3)), (3, .int x3), (5, .int x5), (6, .int x6), (7, .int x7), (9, .int x9)] → W p l e rmL_late s m args below meth c H locs 0 0 (MQ below (qI D r (wLA cI la L) A) args s 0 0 A) (F0 m 108 ls [.int s0]) := by
        intro x6 x7 x9 s0 H locs ls hF hP hS hl
        refine lv_istore (lv' := [(8, .int s0), (0, .ref (la 0)), (1, .ref (la 2)), (2, .ref (la 3)), (3, .int x3), (5, .int x5), (6, .int x6), (7, .int x7), (9, .int x9)]) hx hb dL_late_108 hl (by decide) rfl (fun ls hl => ?_)
        refine lv_iload hx hb dL_late_110 (lv_at hl 0 rfl) ?_
        refine lv_if_eq (tgt := 136) hx hb dL_late_112 (by decide) (fun c12 => ?_) (fun c12 => ?_)
        · have hF := it_t hF c12
          refine lv_iload hx hb dL_late_136 (lv_at hl 8 rfl) ?_
          exact j138 x6 x7 s0 x9 _ _ _ hF hP hS (lv_sub hl [1, 2, 3, 4, 5, 6, 7, 0] rfl)
        · have hF := it_f hF c12
          refine lv_aload_n hx hb dL_late_115 rfl (lv_at hl 1 rfl) ?_
          refine lv_aload_n hx hb dL_late_116 rfl (lv_at hl 3 rfl) ?_
          refine lv_iload hx hb dL_late_117 (lv_at hl 5 rfl) ?_
          refine lv_aload_n hx hb dL_late_119 rfl (lv_at hl 3 rfl) ?_
          refine lv_bipush (v := 9) hx hb dL_late_120 (by decide) ?_
          refine lv_iload hx hb dL_late_122 (lv_at hl 8 rfl) ?_
          refine lv_imul hx hb dL_late_124 ?_
          refine lv_iconst (v := 1) hx hb dL_late_125 (by decide) ?_
          refine lv_iadd hx hb dL_late_126 ?_
          obtain ⟨hi, hF⟩ := rd_use hF
          refine va_iald hx hb hK hP 3 0 (pLA_3 cI la L) rfl hi dL_late_127 ?_
          refine lv_topi (fun v13 ev13 => ?_)
          have hF := hF v13 ev13
          refine lv_iconst (v := 1) hx hb dL_late_128 (by decide) ?_
          refine lv_iadd hx hb dL_late_129 ?_
          obtain ⟨r14, hr14, hF⟩ := bd_use hF
          refine cl_SI ⟨hx, hb, hml, hown, htb⟩ (kL_next l D cS g cI la L x5 (v13 + 1) _ hr14) (va_cwS 4 htb (gL_next bw3_16) rfl rfl rfl hdL_next ⟨Nat.le_of_ble_eq_true rfl, Nat.le_of_ble_eq_true rfl⟩) hK (hDa _) hG hA hP hS sg_all hl.1 rfl rfl (Nat.le_of_ble_eq_true rfl) dL_late_130 (fun H locs hP hS => ?_)
          refine lv_goto (tgt := 138) hx hb dL_late_133 (by decide) ?_
          exact j138 x6 x7 s0 r14 _ _ _ hF hP hS (lv_sub hl [1, 2, 3, 4, 5, 6, 7, 0] rfl)
      have j70 : ∀ (x9 : Int32) (x10 : Int32) (s0 : Int32) (H : Heap) (locs : List Loc) (ls : Array Slot), fL_late_j70 x3 x5  (fL_late_l38 L x3 x5 fu) L x9 x10 s0 = some r → va_P D vwCl (wLA cI la L) H → va_S A s.heap H locs → lv_has ls 11 [(0, .ref (la 0)), (1, .ref (la 2)), (2, .ref (la 3)), (3, .int x3), (5, .int x5), (9, .int x9), (10, .int x10)] → W p l e rmL_late s m args below meth c H locs 0 0 (MQ below (qI D r (wLA cI la L) A) args s 0 0 A) (F0 m 70 ls [.int s0]) := by
        intro x9 x10 s0 H locs ls hF hP hS hl
        refine lv_istore (lv' := [(7, .int s0), (0, .ref (la 0)), (1, .ref (la 2)), (2, .ref (la 3)), (3, .int x3), (5, .int x5), (9, .int x9), (10, .int x10)]) hx hb dL_late_70 hl (by decide) rfl (fun ls hl => ?_)
        refine lv_iload hx hb dL_late_72 (lv_at hl 7 rfl) ?_
        refine lv_iload hx hb dL_late_74 (lv_at hl 0 rfl) ?_
        refine lv_iadd hx hb dL_late_76 ?_
        refine lv_aload_n hx hb dL_late_77 rfl (lv_at hl 2 rfl) ?_
        refine lv_bipush (v := 11) hx hb dL_late_78 (by decide) ?_
        refine lv_iload hx hb dL_late_80 (lv_at hl 5 rfl) ?_
        refine lv_imul hx hb dL_late_82 ?_
        obtain ⟨hi, hF⟩ := rd_use hF
        refine va_iald hx hb hK hP 2 0 (pLA_2 cI la L) rfl hi dL_late_83 ?_
        refine lv_topi (fun v8 ev8 => ?_)
        have hF := hF v8 ev8
        refine lv_iadd hx hb dL_late_84 ?_
        refine lv_aload_n hx hb dL_late_85 rfl (lv_at hl 2 rfl) ?_
        refine lv_bipush (v := 11) hx hb dL_late_86 (by decide) ?_
        refine lv_iload hx hb dL_late_88 (lv_at hl 5 rfl) ?_
        refine lv_imul hx hb dL_late_90 ?_
        refine lv_iconst (v := 1) hx hb dL_late_91 (by decide) ?_
        refine lv_iadd hx hb dL_late_92 ?_
        obtain ⟨hi, hF⟩ := rd_use hF
        refine va_iald hx hb hK hP 2 0 (pLA_2 cI la L) rfl hi dL_late_93 ?_
        refine lv_topi (fun v9 ev9 => ?_)
        have hF := hF v9 ev9
        refine lv_iadd hx hb dL_late_94 ?_
        refine lv_topi (fun v10 ev10 => ?_)
        have hF := nm_use hF ev10
        refine lv_istore (lv' := [(6, .int v10), (7, .int s0), (0, .ref (la 0)), (1, .ref (la 2)), (2, .ref (la 3)), (3, .int x3), (5, .int x5), (9, .int x9), (10, .int x10)]) hx hb dL_late_95 hl (by decide) rfl (fun ls hl => ?_)
        refine lv_iload hx hb dL_late_97 (lv_at hl 7 rfl) ?_
        refine lv_iload_n hx hb dL_late_99 rfl (lv_at hl 5 rfl) ?_
        refine lv_icmp_eq (tgt := 107) hx hb dL_late_100 (by decide) (fun c11 => ?_) (fun c11 => ?_)
        · have hF := it_t hF c11
          refine lv_iconst (v := 0) hx hb dL_late_107 (by decide) ?_
          exact j108 v10 s0 x9 0 _ _ _ hF hP hS (lv_sub hl [2, 3, 4, 5, 6, 0, 1, 7] rfl)
        · have hF := it_f hF c11
          refine lv_iconst (v := 1) hx hb dL_late_103 (by decide) ?_
          refine lv_goto (tgt := 108) hx hb dL_late_104 (by decide) ?_
          exact j108 v10 s0 x9 1 _ _ _ hF hP hS (lv_sub hl [2, 3, 4, 5, 6, 0, 1, 7] rfl)
      refine lv_iload hx hb dL_late_38 (lv_at hl 7 rfl) ?_
      refine lv_if_eq (tgt := 143) hx hb dL_late_40 (by decide) (fun c5 => ?_) (fun c5 => ?_)
      · have hF := it_t hF c5
        refine lv_iload hx hb dL_late_143 (lv_at hl 6 rfl) ?_
        exact rt_I hx hb hr hlocks hS hP (so_use hF) dL_late_145
      · have hF := it_f hF c5
        refine lv_aload_n hx hb dL_late_43 rfl (lv_at hl 2 rfl) ?_
        refine lv_bipush (v := 9) hx hb dL_late_44 (by decide) ?_
        refine lv_iload hx hb dL_late_46 (lv_at hl 8 rfl) ?_
        refine lv_imul hx hb dL_late_48 ?_
        refine lv_iconst (v := 1) hx hb dL_late_49 (by decide) ?_
        refine lv_iadd hx hb dL_late_50 ?_
        obtain ⟨hi, hF⟩ := rd_use hF
        refine va_iald hx hb hK hP 3 0 (pLA_3 cI la L) rfl hi dL_late_51 ?_
        refine lv_topi (fun v6 ev6 => ?_)
        have hF := hF v6 ev6
        refine lv_istore (lv' := [(10, .int v6), (0, .ref (la 0)), (1, .ref (la 2)), (2, .ref (la 3)), (3, .int x3), (5, .int x5), (6, .int x6), (7, .int x7), (8, .int x8), (9, .int x9)]) hx hb dL_late_52 hl (by decide) rfl (fun ls hl => ?_)
        refine lv_iload hx hb dL_late_54 (lv_at hl 6 rfl) ?_
        refine lv_iload hx hb dL_late_56 (lv_at hl 0 rfl) ?_
        refine lv_icmp_le (tgt := 69) hx hb dL_late_58 (by decide) (fun c7 => ?_) (fun c7 => ?_)
        · have hF := it_t hF c7
          refine lv_iconst (v := 0) hx hb dL_late_69 (by decide) ?_
          exact j70 x9 v6 0 _ _ _ hF hP hS (lv_sub hl [1, 2, 3, 4, 5, 9, 0] rfl)
        · have hF := it_f hF c7
          refine lv_iload hx hb dL_late_61 (lv_at hl 6 rfl) ?_
          refine lv_iload hx hb dL_late_63 (lv_at hl 0 rfl) ?_
          refine lv_isub hx hb dL_late_65 ?_
          refine lv_goto (tgt := 70) hx hb dL_late_66 (by decide) ?_
          exact j70 x9 v6 (x6 - v6) _ _ _ hF hP hS (lv_sub hl [1, 2, 3, 4, 5, 9, 0] rfl)
  refine lv_aload_n hx hb dL_late_0 rfl (lv_at hl 2 rfl) ?_
  refine lv_bipush (v := 9) hx hb dL_late_1 (by decide) ?_
  refine lv_iload_n hx hb dL_late_3 rfl (lv_at hl 3 rfl) ?_
  refine lv_imul hx hb dL_late_4 ?_
  obtain ⟨hi, hF⟩ := rd_use hF
  refine va_iald hx hb hK hP 3 0 (pLA_3 cI la L) rfl hi dL_late_5 ?_
  refine lv_topi (fun v1 ev1 => ?_)
  have hF := hF v1 ev1
  refine lv_istore (lv' := [(5, .int v1), (0, .ref (la 0)), (1, .ref (la 2)), (2, .ref (la 3)), (3, .int x3), (4, .int x4)]) hx hb dL_late_6 hl (by decide) rfl (fun ls hl => ?_)
  refine lv_aload_n hx hb dL_late_8 rfl (lv_at hl 2 rfl) ?_
  refine lv_bipush (v := 11) hx hb dL_late_9 (by decide) ?_
  refine lv_iload hx hb dL_late_11 (lv_at hl 0 rfl) ?_
  refine lv_imul hx hb dL_late_13 ?_
  refine lv_iconst (v := 4) hx hb dL_late_14 (by decide) ?_
  refine lv_iadd hx hb dL_late_15 ?_
  obtain ⟨hi, hF⟩ := rd_use hF
  refine va_iald hx hb hK hP 2 0 (pLA_2 cI la L) rfl hi dL_late_16 ?_
  refine lv_topi (fun v2 ev2 => ?_)
  have hF := hF v2 ev2
  refine lv_iload hx hb dL_late_17 (lv_at hl 5 rfl) ?_
  refine lv_iadd hx hb dL_late_19 ?_
  refine lv_topi (fun v3 ev3 => ?_)
  have hF := nm_use hF ev3
  refine lv_istore (lv' := [(6, .int v3), (5, .int v1), (0, .ref (la 0)), (1, .ref (la 2)), (2, .ref (la 3)), (3, .int x3), (4, .int x4)]) hx hb dL_late_20 hl (by decide) rfl (fun ls hl => ?_)
  refine lv_iconst (v := 0) hx hb dL_late_22 (by decide) ?_
  refine lv_istore (lv' := [(7, .int 0), (6, .int v3), (5, .int v1), (0, .ref (la 0)), (1, .ref (la 2)), (2, .ref (la 3)), (3, .int x3), (4, .int x4)]) hx hb dL_late_23 hl (by decide) rfl (fun ls hl => ?_)
  refine lv_iconst (v := 1) hx hb dL_late_25 (by decide) ?_
  refine lv_istore (lv' := [(8, .int 1), (7, .int 0), (6, .int v3), (5, .int v1), (0, .ref (la 0)), (1, .ref (la 2)), (2, .ref (la 3)), (3, .int x3), (4, .int x4)]) hx hb dL_late_26 hl (by decide) rfl (fun ls hl => ?_)
  refine lv_aload_n hx hb dL_late_28 rfl (lv_at hl 4 rfl) ?_
  refine lv_aload_n hx hb dL_late_29 rfl (lv_at hl 6 rfl) ?_
  refine lv_iload hx hb dL_late_30 (lv_at hl 3 rfl) ?_
  refine lv_iconst (v := 0) hx hb dL_late_32 (by decide) ?_
  obtain ⟨r4, hr4, hF⟩ := bd_use hF
  refine cl_SI ⟨hx, hb, hml, hown, htb⟩ (kL_next l D cS g cI la L v1 0 _ hr4) (va_cwS 4 htb (gL_next bw3_16) rfl rfl rfl hdL_next ⟨Nat.le_of_ble_eq_true rfl, Nat.le_of_ble_eq_true rfl⟩) hK (hDa _) hG hA hP hS sg_all hl.1 rfl rfl (Nat.le_of_ble_eq_true rfl) dL_late_33 (fun H locs hP hS => ?_)
  refine lv_istore (lv' := [(9, .int r4), (8, .int 1), (7, .int 0), (6, .int v3), (5, .int v1), (0, .ref (la 0)), (1, .ref (la 2)), (2, .ref (la 3)), (3, .int x3), (4, .int x4)]) hx hb dL_late_36 hl (by decide) rfl (fun ls hl => ?_)
  refine l38 x3 v1  _ v3 0 1 r4 _ _ _ hF hP hS (lv_sub hl [5, 6, 7, 8, 4, 3, 2, 1, 0] rfl)
noncomputable def fL_share_l9  (L : La) (x1 : Int32) (kk : Int32 → Option (Int32)) : Nat → Int32 → Int32 → Option (Int32) := fun fu => Nat.rec (motive := fun _ => Int32 → Int32 → Option (Int32)) (fun _ _ => none) (fun _ ih => fun x3 x4 => if x4 ≤ 0 then (kk x3) else (nm (x3 + 1) fun v4 => nm (x4 + (-10)) fun v5 => ih v4 v5)) fu
theorem fL_share_l9_s  (L : La) (x1 : Int32) (kk : Int32 → Option (Int32)) (fu : Nat) (x3 : Int32) (x4 : Int32) : fL_share_l9 L x1 kk (fu + 1) x3 x4 = (if x4 ≤ 0 then (kk x3) else (nm (x3 + 1) fun v4 => nm (x4 + (-10)) fun v5 => (fL_share_l9 L x1 kk fu) v4 v5)) := rfl
theorem fL_share_l9_z  (L : La) (x1 : Int32) (kk : Int32 → Option (Int32)) (x3 : Int32) (x4 : Int32) : fL_share_l9 L x1 kk 0 x3 x4 = none := rfl
noncomputable def fL_share_j43  (L : La) (x1 : Int32) (s0 : Int32) : Option (Int32) := Dv (x1 * s0) 100 fun v10 => some v10
noncomputable def fL_share  (L : La) (x1 : Int32) (x2 : Int32) : Option (Int32) := Rd (L.2.1) 5 3 fun v1 => nm (x2 - v1) fun v2 => fL_share_l9 L x1 (fun y6 => Rd (L.2.1) 5 4 fun v7 => if (y6 * v7) ≤ 100 then (Rd (L.2.1) 5 4 fun v9 => fL_share_j43 L x1 (y6 * v9)) else (fL_share_j43 L x1 100)) FU 0 v2
abbrev vL_share : List Cond := Cond.code yL_share cL_share 5 (some .int) :: BIG
theorem gL_share {own : String} {idx : Nat} (h : (Cond.methodLink own idx yL_share) ∈ BIG) : GoodIn BIG (va_wsS own idx yL_share vL_share) := gdS h bw3_23 bw1_0 bw3_24
theorem gL_share_n : GoodIn BIG vL_share := gdN bw3_24
def rmL_share : Room := { frames := 0, cells := 0, slots := 0, locals := 0 }
theorem hdL_share : yL_share.cls ≠ "java/lang/invoke/MethodHandle" ∧ yL_share.cls ≠ "java/lang/invoke/VarHandle" ∧ (parseMethodDescriptor yL_share.desc).map (fun d => d.parameters.length) = some 3 := by decide +kernel
set_option maxHeartbeats 4000000 in
set_option maxRecDepth 100000 in
theorem kL_share (l : Launch) (D : va_G) (cS : ClassId) (g : Nat → Nat) (cI : ClassId) (la : Nat → Nat) (L : La) (x1 : Int32) (x2 : Int32) (r : Int32) (hF : fL_share L x1 x2 = some r) : mI l yL_share vL_share rmL_share D cI cS g [.ref (la 1), .int x1, .int x2] (wLA cI la L) r (wLA cI la L) := by
  refine st_I rfl (by decide) (Nat.le_of_ble_eq_true rfl) ?_
  intro p e s m args below meth c A ls hx hb hr hml hlocks hown hts hA hK hD0 hG hP hS hl
  have hown : s.vm.findClass RL = some m.cls := hown
  have hDa : ∀ L, va_D A (wLA cI la L) := fun L => hD0.adr rfl
  have htb : ∀ w ∈ BIG, w.before args s = true := fun w h => hts w (List.mem_cons_of_mem _ h)
  have hl : lv_has ls 5 [(0, .ref (la 1)), (1, .int x1), (2, .int x2)] := hl
  have l9 : ∀ (x1 : Int32) (kk : Int32 → Option (Int32)) (fu : Nat) (x3 : Int32) (x4 : Int32) (H : Heap) (locs : List Loc) (ls : Array Slot), fL_share_l9 L x1 kk fu x3 x4 = some r → va_P D vwCl (wLA cI la L) H → va_S A s.heap H locs → lv_has ls 5 [(0, .ref (la 1)), (1, .int x1), (3, .int x3), (4, .int x4)] → (∀ (x3 : Int32) (H : Heap) (locs : List Loc) (ls : Array Slot), kk x3 = some r → va_P D vwCl (wLA cI la L) H → va_S A s.heap H locs → lv_has ls 5 [(0, .ref (la 1)), (1, .int x1), (3, .int x3)] → W p l e rmL_share s m args below meth c H locs 0 0 (MQ below (qI D r (wLA cI la L) A) args s 0 0 A) (F0 m 23 ls [])) → W p l e rmL_share s m args below meth c H locs 0 0 (MQ below (qI D r (wLA cI la L) A) args s 0 0 A) (F0 m 9 ls []) := by
    intro x1 kk fu
    induction fu with
    | zero => intro x3 x4 H locs ls hF; exact nn_use hF
    | succ fu ihn =>
      intro x3 x4 H locs ls hF hP hS hl after
      rw [fL_share_l9_s] at hF
      refine lv_iload hx hb dL_share_9 (lv_at hl 3 rfl) ?_
      refine lv_if_le (tgt := 23) hx hb dL_share_11 (by decide) (fun c3 => ?_) (fun c3 => ?_)
      · have hF := it_t hF c3
        exact after x3 _ _ _ hF hP hS (lv_sub hl [0, 1, 2] rfl)
      · have hF := it_f hF c3
        obtain ⟨v4, ev4⟩ : ∃ z : Int32, z = x3 + 1 := ⟨_, rfl⟩
        refine lv_iinc (v := v4) (lv' := [(3, .int v4), (0, .ref (la 1)), (1, .int x1), (4, .int x4)]) hx hb dL_share_14 hl (k := 2) rfl (by rw [ev4]; rfl) (by decide) rfl (fun ls hl => ?_)
        have hF := nm_use hF ev4
        obtain ⟨v5, ev5⟩ : ∃ z : Int32, z = x4 + (-10) := ⟨_, rfl⟩
        refine lv_iinc (v := v5) (lv' := [(4, .int v5), (3, .int v4), (0, .ref (la 1)), (1, .int x1)]) hx hb dL_share_17 hl (k := 3) rfl (by rw [ev5]; rfl) (by decide) rfl (fun ls hl => ?_)
        have hF := nm_use hF ev5
        refine lv_goto (tgt := 9) hx hb dL_share_20 (by decide) ?_
        exact ihn v4 v5 _ _ _ hF hP hS (lv_sub hl [2, 3, 1, 0] rfl) after
  have j43 : ∀ (x1 : Int32) (s0 : Int32) (H : Heap) (locs : List Loc) (ls : Array Slot), fL_share_j43 L x1 s0 = some r → va_P D vwCl (wLA cI la L) H → va_S A s.heap H locs → lv_has ls 5 [(1, .int x1)] → W p l e rmL_share s m args below meth c H locs 0 0 (MQ below (qI D r (wLA cI la L) A) args s 0 0 A) (F0 m 43 ls [.int s0]) := by
    intro x1 s0 H locs ls hF hP hS hl
    refine lv_istore (lv' := [(4, .int s0), (1, .int x1)]) hx hb dL_share_43 hl (by decide) rfl (fun ls hl => ?_)
    refine lv_iload_n hx hb dL_share_45 rfl (lv_at hl 1 rfl) ?_
    refine lv_iload hx hb dL_share_46 (lv_at hl 0 rfl) ?_
    refine lv_imul hx hb dL_share_48 ?_
    refine lv_bipush (v := 100) hx hb dL_share_49 (by decide) ?_
    obtain ⟨hd, hF⟩ := dv_use hF
    refine lv_idiv hx hb dL_share_51 hd ?_
    refine lv_topi (fun v10 ev10 => ?_)
    have hF := hF v10 ev10
    exact rt_I hx hb hr hlocks hS hP (so_use hF) dL_share_52
  refine lv_iconst (v := 0) hx hb dL_share_0 (by decide) ?_
  refine lv_istore_n (lv' := [(3, .int 0), (0, .ref (la 1)), (1, .int x1), (2, .int x2)]) hx hb dL_share_1 rfl hl (by decide) rfl (fun ls hl => ?_)
  refine lv_iload_n hx hb dL_share_2 rfl (lv_at hl 3 rfl) ?_
  refine lv_aload_n hx hb dL_share_3 rfl (lv_at hl 1 rfl) ?_
  refine lv_iconst (v := 3) hx hb dL_share_4 (by decide) ?_
  obtain ⟨hi, hF⟩ := rd_use hF
  refine va_iald hx hb hK hP 1 0 (pLA_1 cI la L) rfl hi dL_share_5 ?_
  refine lv_topi (fun v1 ev1 => ?_)
  have hF := hF v1 ev1
  refine lv_isub hx hb dL_share_6 ?_
  refine lv_topi (fun v2 ev2 => ?_)
  have hF := nm_use hF ev2
  refine lv_istore (lv' := [(4, .int v2), (3, .int 0), (0, .ref (la 1)), (1, .int x1), (2, .int x2)]) hx hb dL_share_7 hl (by decide) rfl (fun ls hl => ?_)
  refine l9 x1 _ _ 0 v2 _ _ _ hF hP hS (lv_sub hl [2, 3, 1, 0] rfl) ?_
  · intro y6 H locs ls hF hP hS hl
    refine lv_iload_n hx hb dL_share_23 rfl (lv_at hl 2 rfl) ?_
    refine lv_aload_n hx hb dL_share_24 rfl (lv_at hl 0 rfl) ?_
    refine lv_iconst (v := 4) hx hb dL_share_25 (by decide) ?_
    obtain ⟨hi, hF⟩ := rd_use hF
    refine va_iald hx hb hK hP 1 0 (pLA_1 cI la L) rfl hi dL_share_26 ?_
    refine lv_topi (fun v7 ev7 => ?_)
    have hF := hF v7 ev7
    refine lv_imul hx hb dL_share_27 ?_
    refine lv_bipush (v := 100) hx hb dL_share_28 (by decide) ?_
    refine lv_icmp_le (tgt := 38) hx hb dL_share_30 (by decide) (fun c8 => ?_) (fun c8 => ?_)
    · have hF := it_t hF c8
      refine lv_iload_n hx hb dL_share_38 rfl (lv_at hl 2 rfl) ?_
      refine lv_aload_n hx hb dL_share_39 rfl (lv_at hl 0 rfl) ?_
      refine lv_iconst (v := 4) hx hb dL_share_40 (by decide) ?_
      obtain ⟨hi, hF⟩ := rd_use hF
      refine va_iald hx hb hK hP 1 0 (pLA_1 cI la L) rfl hi dL_share_41 ?_
      refine lv_topi (fun v9 ev9 => ?_)
      have hF := hF v9 ev9
      refine lv_imul hx hb dL_share_42 ?_
      exact j43 x1 (y6 * v9) _ _ _ hF hP hS (lv_sub hl [1] rfl)
    · have hF := it_f hF c8
      refine lv_bipush (v := 100) hx hb dL_share_33 (by decide) ?_
      refine lv_goto (tgt := 43) hx hb dL_share_35 (by decide) ?_
      exact j43 x1 100 _ _ _ hF hP hS (lv_sub hl [1] rfl)
noncomputable def fL_paid_j47  (x3 : Int32) (ih : Int32 → Int32 → Option (Int32)) (L : La) (x5 : Int32) (s0 : Int32) (s1 : Int32) : Option (Int32) := nm (s0 + s1) fun v6 => nm (x5 + 1) fun v7 => ih v6 v7
noncomputable def fL_paid_l13  (L : La) (x3 : Int32) : Nat → Int32 → Int32 → Option (Int32) := fun fu => Nat.rec (motive := fun _ => Int32 → Int32 → Option (Int32)) (fun _ _ => none) (fun _ ih => fun x4 x5 => Rd (L.1) 5 1 fun v2 => if v2 ≤ x5 then (some x4) else (Rd (L.2.2.2.2.1) 28 ((4 * x5) + 2) fun v4 => if v4 = x3 then (Rd (L.2.2.2.2.1) 28 ((4 * x5) + 1) fun v8 => fL_paid_j47 x3 ih L x5 x4 v8) else (fL_paid_j47 x3 ih L x5 x4 0))) fu
theorem fL_paid_l13_s  (L : La) (x3 : Int32) (fu : Nat) (x4 : Int32) (x5 : Int32) : fL_paid_l13 L x3 (fu + 1) x4 x5 = (Rd (L.1) 5 1 fun v2 => if v2 ≤ x5 then (some x4) else (Rd (L.2.2.2.2.1) 28 ((4 * x5) + 2) fun v4 => if v4 = x3 then (Rd (L.2.2.2.2.1) 28 ((4 * x5) + 1) fun v8 => fL_paid_j47 x3 (fL_paid_l13 L x3 fu) L x5 x4 v8) else (fL_paid_j47 x3 (fL_paid_l13 L x3 fu) L x5 x4 0))) := rfl
theorem fL_paid_l13_z  (L : La) (x3 : Int32) (x4 : Int32) (x5 : Int32) : fL_paid_l13 L x3 0 x4 x5 = none := rfl
noncomputable def fL_paid  (L : La) (x3 : Int32) : Option (Int32) := Rd (L.2.2.2.1) 63 ((9 * x3) + 5) fun v1 => fL_paid_l13 L x3 FU v1 0
abbrev vL_paid : List Cond := Cond.code yL_paid cL_paid 6 (some .int) :: BIG
theorem gL_paid {own : String} {idx : Nat} (h : (Cond.methodLink own idx yL_paid) ∈ BIG) : GoodIn BIG (va_wsS own idx yL_paid vL_paid) := gdS h bw3_11 bw1_0 bw3_12
theorem gL_paid_n : GoodIn BIG vL_paid := gdN bw3_12
def rmL_paid : Room := { frames := 0, cells := 0, slots := 0, locals := 0 }
theorem hdL_paid : yL_paid.cls ≠ "java/lang/invoke/MethodHandle" ∧ yL_paid.cls ≠ "java/lang/invoke/VarHandle" ∧ (parseMethodDescriptor yL_paid.desc).map (fun d => d.parameters.length) = some 4 := by decide +kernel
set_option maxHeartbeats 4000000 in
set_option maxRecDepth 100000 in
theorem kL_paid (l : Launch) (D : va_G) (cS : ClassId) (g : Nat → Nat) (cI : ClassId) (la : Nat → Nat) (L : La) (x3 : Int32) (r : Int32) (hF : fL_paid L x3 = some r) : mI l yL_paid vL_paid rmL_paid D cI cS g [.ref (la 0), .ref (la 3), .ref (la 4), .int x3] (wLA cI la L) r (wLA cI la L) := by
  refine st_I rfl (by decide) (Nat.le_of_ble_eq_true rfl) ?_
  intro p e s m args below meth c A ls hx hb hr hml hlocks hown hts hA hK hD0 hG hP hS hl
  have hown : s.vm.findClass RL = some m.cls := hown
  have hDa : ∀ L, va_D A (wLA cI la L) := fun L => hD0.adr rfl
  have htb : ∀ w ∈ BIG, w.before args s = true := fun w h => hts w (List.mem_cons_of_mem _ h)
  have hl : lv_has ls 6 [(0, .ref (la 0)), (1, .ref (la 3)), (2, .ref (la 4)), (3, .int x3)] := hl
  have l13 : ∀ (x3 : Int32) (fu : Nat) (x4 : Int32) (x5 : Int32) (H : Heap) (locs : List Loc) (ls : Array Slot), fL_paid_l13 L x3 fu x4 x5 = some r → va_P D vwCl (wLA cI la L) H → va_S A s.heap H locs → lv_has ls 6 [(0, .ref (la 0)), (2, .ref (la 4)), (3, .int x3), (4, .int x4), (5, .int x5)] → W p l e rmL_paid s m args below meth c H locs 0 0 (MQ below (qI D r (wLA cI la L) A) args s 0 0 A) (F0 m 13 ls []) := by
    intro x3  fu
    induction fu with
    | zero => intro x4 x5 H locs ls hF; exact nn_use hF
    | succ fu ihn =>
      intro x4 x5 H locs ls hF hP hS hl 
      rw [fL_paid_l13_s] at hF
      have j47 : ∀ (x5 : Int32) (s0 : Int32) (s1 : Int32) (H : Heap) (locs : List Loc) (ls : Array Slot), fL_paid_j47 x3  (fL_paid_l13 L x3 fu) L x5 s0 s1 = some r → va_P D vwCl (wLA cI la L) H → va_S A s.heap H locs → lv_has ls 6 [(0, .ref (la 0)), (2, .ref (la 4)), (3, .int x3), (5, .int x5)] → W p l e rmL_paid s m args below meth c H locs 0 0 (MQ below (qI D r (wLA cI la L) A) args s 0 0 A) (F0 m 47 ls [.int s1, .int s0]) := by
        intro x5 s0 s1 H locs ls hF hP hS hl
        refine lv_iadd hx hb dL_paid_47 ?_
        refine lv_topi (fun v6 ev6 => ?_)
        have hF := nm_use hF ev6
        refine lv_istore (lv' := [(4, .int v6), (0, .ref (la 0)), (2, .ref (la 4)), (3, .int x3), (5, .int x5)]) hx hb dL_paid_48 hl (by decide) rfl (fun ls hl => ?_)
        obtain ⟨v7, ev7⟩ : ∃ z : Int32, z = x5 + 1 := ⟨_, rfl⟩
        refine lv_iinc (v := v7) (lv' := [(5, .int v7), (4, .int v6), (0, .ref (la 0)), (2, .ref (la 4)), (3, .int x3)]) hx hb dL_paid_50 hl (k := 4) rfl (by rw [ev7]; rfl) (by decide) rfl (fun ls hl => ?_)
        have hF := nm_use hF ev7
        refine lv_goto (tgt := 13) hx hb dL_paid_53 (by decide) ?_
        exact ihn v6 v7 _ _ _ hF hP hS (lv_sub hl [2, 3, 4, 1, 0] rfl)
      refine lv_iload hx hb dL_paid_13 (lv_at hl 4 rfl) ?_
      refine lv_aload_n hx hb dL_paid_15 rfl (lv_at hl 0 rfl) ?_
      refine lv_iconst (v := 1) hx hb dL_paid_16 (by decide) ?_
      obtain ⟨hi, hF⟩ := rd_use hF
      refine va_iald hx hb hK hP 0 0 (pLA_0 cI la L) rfl hi dL_paid_17 ?_
      refine lv_topi (fun v2 ev2 => ?_)
      have hF := hF v2 ev2
      refine lv_icmp_ge (tgt := 56) hx hb dL_paid_18 (by decide) (fun c3 => ?_) (fun c3 => ?_)
      · have hF := it_t hF c3
        refine lv_iload hx hb dL_paid_56 (lv_at hl 3 rfl) ?_
        exact rt_I hx hb hr hlocks hS hP (so_use hF) dL_paid_58
      · have hF := it_f hF c3
        refine lv_iload hx hb dL_paid_21 (lv_at hl 3 rfl) ?_
        refine lv_aload_n hx hb dL_paid_23 rfl (lv_at hl 1 rfl) ?_
        refine lv_iconst (v := 4) hx hb dL_paid_24 (by decide) ?_
        refine lv_iload hx hb dL_paid_25 (lv_at hl 4 rfl) ?_
        refine lv_imul hx hb dL_paid_27 ?_
        refine lv_iconst (v := 2) hx hb dL_paid_28 (by decide) ?_
        refine lv_iadd hx hb dL_paid_29 ?_
        obtain ⟨hi, hF⟩ := rd_use hF
        refine va_iald hx hb hK hP 4 0 (pLA_4 cI la L) rfl hi dL_paid_30 ?_
        refine lv_topi (fun v4 ev4 => ?_)
        have hF := hF v4 ev4
        refine lv_iload_n hx hb dL_paid_31 rfl (lv_at hl 2 rfl) ?_
        refine lv_icmp_ne (tgt := 46) hx hb dL_paid_32 (by decide) (fun c5 => ?_) (fun c5 => ?_)
        · have hF := it_f hF c5
          refine lv_iconst (v := 0) hx hb dL_paid_46 (by decide) ?_
          exact j47 x5 x4 0 _ _ _ hF hP hS (lv_sub hl [0, 1, 2, 4] rfl)
        · have hF := it_t hF c5
          refine lv_aload_n hx hb dL_paid_35 rfl (lv_at hl 1 rfl) ?_
          refine lv_iconst (v := 4) hx hb dL_paid_36 (by decide) ?_
          refine lv_iload hx hb dL_paid_37 (lv_at hl 4 rfl) ?_
          refine lv_imul hx hb dL_paid_39 ?_
          refine lv_iconst (v := 1) hx hb dL_paid_40 (by decide) ?_
          refine lv_iadd hx hb dL_paid_41 ?_
          obtain ⟨hi, hF⟩ := rd_use hF
          refine va_iald hx hb hK hP 4 0 (pLA_4 cI la L) rfl hi dL_paid_42 ?_
          refine lv_topi (fun v8 ev8 => ?_)
          have hF := hF v8 ev8
          refine lv_goto (tgt := 47) hx hb dL_paid_43 (by decide) ?_
          exact j47 x5 x4 v8 _ _ _ hF hP hS (lv_sub hl [0, 1, 2, 4] rfl)
  refine lv_aload_n hx hb dL_paid_0 rfl (lv_at hl 1 rfl) ?_
  refine lv_bipush (v := 9) hx hb dL_paid_1 (by decide) ?_
  refine lv_iload_n hx hb dL_paid_3 rfl (lv_at hl 3 rfl) ?_
  refine lv_imul hx hb dL_paid_4 ?_
  refine lv_iconst (v := 5) hx hb dL_paid_5 (by decide) ?_
  refine lv_iadd hx hb dL_paid_6 ?_
  obtain ⟨hi, hF⟩ := rd_use hF
  refine va_iald hx hb hK hP 3 0 (pLA_3 cI la L) rfl hi dL_paid_7 ?_
  refine lv_topi (fun v1 ev1 => ?_)
  have hF := hF v1 ev1
  refine lv_istore (lv' := [(4, .int v1), (0, .ref (la 0)), (1, .ref (la 3)), (2, .ref (la 4)), (3, .int x3)]) hx hb dL_paid_8 hl (by decide) rfl (fun ls hl => ?_)
  refine lv_iconst (v := 0) hx hb dL_paid_10 (by decide) ?_
  refine lv_istore (lv' := [(5, .int 0), (4, .int v1), (0, .ref (la 0)), (1, .ref (la 3)), (2, .ref (la 4)), (3, .int x3)]) hx hb dL_paid_11 hl (by decide) rfl (fun ls hl => ?_)
  refine l13 x3  _ v1 0 _ _ _ hF hP hS (lv_sub hl [2, 4, 5, 1, 0] rfl)
noncomputable def fL_refunds_j190  (x4 : Int32) (x8 : Int32) (kk : La → Int32 → Option (La)) (ih : La → Int32 → Int32 → Option (La)) (L : La) (x6 : Int32) (x9 : Int32) : Option (La) := nm (x9 + 1) fun v21 => ih L x6 v21
noncomputable def fL_refunds_j151  (x4 : Int32) (x8 : Int32) (kk : La → Int32 → Option (La)) (ih : La → Int32 → Int32 → Option (La)) (L : La) (x6 : Int32) (x9 : Int32) (s0 : Int32) : Option (La) := nm ((4 * x9) + 1) fun v26 => Rd (L.2.2.2.2.1) 28 v26 fun v27 => Wr (L.2.2.2.2.1) 28 v26 (v27 - s0) fun f28 => nm ((L.1, L.2.1, L.2.2.1, L.2.2.2.1, f28, L.2.2.2.2.2)) fun M29 => Rd (M29.2.2.2.2.1) 28 (4 * x9) fun v30 => nm ((2 * v30) + 1) fun v31 => Rd (M29.2.2.2.2.2) 8 v31 fun v32 => Wr (M29.2.2.2.2.2) 8 v31 (v32 + s0) fun f33 => nm ((M29.1, M29.2.1, M29.2.2.1, M29.2.2.2.1, M29.2.2.2.2.1, f33)) fun M34 => nm (x6 - s0) fun v35 => fL_refunds_j190 x4 x8 kk ih M34 v35 x9
noncomputable def fL_refunds_l91  (x4 : Int32) (x8 : Int32) (kk : La → Int32 → Option (La)) : Nat → La → Int32 → Int32 → Option (La) := fun fu => Nat.rec (motive := fun _ => La → Int32 → Int32 → Option (La)) (fun _ _ _ => none) (fun _ ih => fun L x6 x9 => Rd (L.1) 5 1 fun v17 => if v17 ≤ x9 then (kk L x6) else (Rd (L.2.2.2.2.1) 28 ((4 * x9) + 2) fun v19 => if v19 = x4 then (Rd (L.2.2.2.2.1) 28 ((4 * x9) + 3) fun v22 => if v22 = x8 then (Rd (L.2.2.2.2.1) 28 ((4 * x9) + 1) fun v24 => if x6 ≤ v24 then (fL_refunds_j151 x4 x8 kk ih L x6 x9 x6) else (Rd (L.2.2.2.2.1) 28 ((4 * x9) + 1) fun v36 => fL_refunds_j151 x4 x8 kk ih L x6 x9 v36)) else (fL_refunds_j190 x4 x8 kk ih L x6 x9)) else (fL_refunds_j190 x4 x8 kk ih L x6 x9))) fu
theorem fL_refunds_l91_s  (x4 : Int32) (x8 : Int32) (kk : La → Int32 → Option (La)) (fu : Nat) (L : La) (x6 : Int32) (x9 : Int32) : fL_refunds_l91 x4 x8 kk (fu + 1) L x6 x9 = (Rd (L.1) 5 1 fun v17 => if v17 ≤ x9 then (kk L x6) else (Rd (L.2.2.2.2.1) 28 ((4 * x9) + 2) fun v19 => if v19 = x4 then (Rd (L.2.2.2.2.1) 28 ((4 * x9) + 3) fun v22 => if v22 = x8 then (Rd (L.2.2.2.2.1) 28 ((4 * x9) + 1) fun v24 => if x6 ≤ v24 then (fL_refunds_j151 x4 x8 kk (fL_refunds_l91 x4 x8 kk fu) L x6 x9 x6) else (Rd (L.2.2.2.2.1) 28 ((4 * x9) + 1) fun v36 => fL_refunds_j151 x4 x8 kk (fL_refunds_l91 x4 x8 kk fu) L x6 x9 v36)) else (fL_refunds_j190 x4 x8 kk (fL_refunds_l91 x4 x8 kk fu) L x6 x9)) else (fL_refunds_j190 x4 x8 kk (fL_refunds_l91 x4 x8 kk fu) L x6 x9))) := rfl
theorem fL_refunds_l91_z  (x4 : Int32) (x8 : Int32) (kk : La → Int32 → Option (La)) (L : La) (x6 : Int32) (x9 : Int32) : fL_refunds_l91 x4 x8 kk 0 L x6 x9 = none := rfl
noncomputable def fL_refunds_l83  (x4 : Int32) : Nat → La → Int32 → Int32 → Option (La) := fun fu => Nat.rec (motive := fun _ => La → Int32 → Int32 → Option (La)) (fun _ _ _ => none) (fun _ ih => fun L x6 x8 => if x8 < 0 then (some L) else (fL_refunds_l91 x4 x8 (fun M38 y37 => nm (x8 + (-1)) fun v39 => ih M38 y37 v39) FU L x6 0)) fu
theorem fL_refunds_l83_s  (x4 : Int32) (fu : Nat) (L : La) (x6 : Int32) (x8 : Int32) : fL_refunds_l83 x4 (fu + 1) L x6 x8 = (if x8 < 0 then (some L) else (fL_refunds_l91 x4 x8 (fun M38 y37 => nm (x8 + (-1)) fun v39 => (fL_refunds_l83 x4 fu) M38 y37 v39) FU L x6 0)) := rfl
theorem fL_refunds_l83_z  (x4 : Int32) (L : La) (x6 : Int32) (x8 : Int32) : fL_refunds_l83 x4 0 L x6 x8 = none := rfl
noncomputable def fL_refunds_j32  (L : La) (x4 : Int32) (x5 : Int32) (x6 : Int32) (s0 : Int32) : Option (La) := nm ((9 * x4) + 5) fun v3 => Rd (L.2.2.2.1) 63 v3 fun v4 => Wr (L.2.2.2.1) 63 v3 (v4 - s0) fun f5 => nm ((L.1, L.2.1, L.2.2.1, f5, L.2.2.2.2)) fun M6 => nm ((9 * x4) + 6) fun v7 => Rd (M6.2.2.2.1) 63 v7 fun v8 => Wr (M6.2.2.2.1) 63 v7 (v8 + x5) fun f9 => nm ((M6.1, M6.2.1, M6.2.2.1, f9, M6.2.2.2.2)) fun M10 => Rd (M10.1) 5 3 fun v11 => Wr (M10.1) 5 3 (v11 - s0) fun f12 => nm ((f12, M10.2)) fun M13 => nm (x6 - s0) fun v14 => Rd (M13.1) 5 4 fun v15 => fL_refunds_l83 x4 FU M13 v14 v15
noncomputable def fL_refunds  (L : La) (x4 : Int32) (x5 : Int32) : Option (La) := Rd (L.2.2.2.1) 63 ((9 * x4) + 5) fun v1 => if x5 ≤ v1 then (fL_refunds_j32 L x4 x5 x5 x5) else (Rd (L.2.2.2.1) 63 ((9 * x4) + 5) fun v40 => fL_refunds_j32 L x4 x5 x5 v40)
abbrev vL_refunds : List Cond := Cond.code yL_refunds cL_refunds 11 none :: BIG
theorem gL_refunds {own : String} {idx : Nat} (h : (Cond.methodLink own idx yL_refunds) ∈ BIG) : GoodIn BIG (va_wsS own idx yL_refunds vL_refunds) := gdS h bw3_20 bw1_0 bw3_21
theorem gL_refunds_n : GoodIn BIG vL_refunds := gdN bw3_21
def rmL_refunds : Room := { frames := 0, cells := 0, slots := 0, locals := 0 }
theorem hdL_refunds : yL_refunds.cls ≠ "java/lang/invoke/MethodHandle" ∧ yL_refunds.cls ≠ "java/lang/invoke/VarHandle" ∧ (parseMethodDescriptor yL_refunds.desc).map (fun d => d.parameters.length) = some 6 := by decide +kernel
set_option maxHeartbeats 4000000 in
set_option maxRecDepth 100000 in
theorem kL_refunds (l : Launch) (D : va_G) (cS : ClassId) (g : Nat → Nat) (cI : ClassId) (la : Nat → Nat) (L : La) (x4 : Int32) (x5 : Int32) (M' : La) (hF : fL_refunds L x4 x5 = some M') : mV l yL_refunds vL_refunds rmL_refunds D cI cS g [.ref (la 0), .ref (la 3), .ref (la 4), .ref (la 5), .int x4, .int x5] (wLA cI la L) (wLA cI la (M')) := by
  refine st_V rfl (by decide) (Nat.le_of_ble_eq_true rfl) ?_
  intro p e s m args below meth c A ls hx hb hr hml hlocks hown hts hA hK hD0 hG hP hS hl
  have hown : s.vm.findClass RL = some m.cls := hown
  have hDa : ∀ L, va_D A (wLA cI la L) := fun L => hD0.adr rfl
  have htb : ∀ w ∈ BIG, w.before args s = true := fun w h => hts w (List.mem_cons_of_mem _ h)
  have hl : lv_has ls 11 [(0, .ref (la 0)), (1, .ref (la 3)), (2, .ref (la 4)), (3, .ref (la 5)), (4, .int x4), (5, .int x5)] := hl
  have l91 : ∀ (x4 : Int32) (x8 : Int32) (kk : La → Int32 → Option (La)) (fu : Nat) (L : La) (x6 : Int32) (x9 : Int32) (H : Heap) (locs : List Loc) (ls : Array Slot), fL_refunds_l91 x4 x8 kk fu L x6 x9 = some M' → va_P D vwCl (wLA cI la L) H → va_S A s.heap H locs → lv_has ls 11 [(0, .ref (la 0)), (2, .ref (la 4)), (3, .ref (la 5)), (4, .int x4), (6, .int x6), (8, .int x8), (9, .int x9)] → (∀ (L : La) (x6 : Int32) (H : Heap) (locs : List Loc) (ls : Array Slot), kk L x6 = some M' → va_P D vwCl (wLA cI la L) H → va_S A s.heap H locs → lv_has ls 11 [(0, .ref (la 0)), (2, .ref (la 4)), (3, .ref (la 5)), (4, .int x4), (6, .int x6), (8, .int x8)] → W p l e rmL_refunds s m args below meth c H locs 0 0 (MQ below (qV D (wLA cI la (M')) A) args s 0 0 A) (F0 m 196 ls [])) → W p l e rmL_refunds s m args below meth c H locs 0 0 (MQ below (qV D (wLA cI la (M')) A) args s 0 0 A) (F0 m 91 ls []) := by
    intro x4 x8 kk fu
    induction fu with
    | zero => intro L x6 x9 H locs ls hF; exact nn_use hF
    | succ fu ihn =>
      intro L x6 x9 H locs ls hF hP hS hl after
      rw [fL_refunds_l91_s] at hF
      have j190 : ∀ (L : La) (x6 : Int32) (x9 : Int32) (H : Heap) (locs : List Loc) (ls : Array Slot), fL_refunds_j190 x4 x8 kk (fL_refunds_l91 x4 x8 kk fu) L x6 x9 = some M' → va_P D vwCl (wLA cI la L) H → va_S A s.heap H locs → lv_has ls 11 [(0, .ref (la 0)), (2, .ref (la 4)), (3, .ref (la 5)), (4, .int x4), (6, .int x6), (8, .int x8), (9, .int x9)] → W p l e rmL_refunds s m args below meth c H locs 0 0 (MQ below (qV D (wLA cI la (M')) A) args s 0 0 A) (F0 m 190 ls []) := by
        intro L x6 x9 H locs ls hF hP hS hl
        obtain ⟨v21, ev21⟩ : ∃ z : Int32, z = x9 + 1 := ⟨_, rfl⟩
        refine lv_iinc (v := v21) (lv' := [(9, .int v21), (0, .ref (la 0)), (2, .ref (la 4)), (3, .ref (la 5)), (4, .int x4), (6, .int x6), (8, .int x8)]) hx hb dL_refunds_190 hl (k := 6) rfl (by rw [ev21]; rfl) (by decide) rfl (fun ls hl => ?_)
        have hF := nm_use hF ev21
        refine lv_goto (tgt := 91) hx hb dL_refunds_193 (by decide) ?_
        exact ihn L x6 v21 _ _ _ hF hP hS (lv_sub hl [1, 2, 3, 4, 5, 6, 0] rfl) after
      have j151 : ∀ (L : La) (x6 : Int32) (x9 : Int32) (s0 : Int32) (H : Heap) (locs : List Loc) (ls : Array Slot), fL_refunds_j151 x4 x8 kk (fL_refunds_l91 x4 x8 kk fu) L x6 x9 s0 = some M' → va_P D vwCl (wLA cI la L) H → va_S A s.heap H locs → lv_has ls 11 [(0, .ref (la 0)), (2, .ref (la 4)), (3, .ref (la 5)), (4, .int x4), (6, .int x6), (8, .int x8), (9, .int x9)] → W p l e rmL_refunds s m args below meth c H locs 0 0 (MQ below (qV D (wLA cI la (M')) A) args s 0 0 A) (F0 m 151 ls [.int s0]) := by
        intro L x6 x9 s0 H locs ls hF hP hS hl
        refine lv_istore (lv' := [(10, .int s0), (0, .ref (la 0)), (2, .ref (la 4)), (3, .ref (la 5)), (4, .int x4), (6, .int x6), (8, .int x8), (9, .int x9)]) hx hb dL_refunds_151 hl (by decide) rfl (fun ls hl => ?_)
        refine lv_aload_n hx hb dL_refunds_153 rfl (lv_at hl 2 rfl) ?_
        refine lv_iconst (v := 4) hx hb dL_refunds_154 (by decide) ?_
        refine lv_iload hx hb dL_refunds_155 (lv_at hl 7 rfl) ?_
        refine lv_imul hx hb dL_refunds_157 ?_
        refine lv_iconst (v := 1) hx hb dL_refunds_158 (by decide) ?_
        refine lv_iadd hx hb dL_refunds_159 ?_
        refine lv_topi (fun v26 ev26 => ?_)
        have hF := nm_use hF ev26
        refine lv_dup2_11 hx hb dL_refunds_160 rfl rfl ?_
        obtain ⟨hi, hF⟩ := rd_use hF
        refine va_iald hx hb hK hP 4 0 (pLA_4 cI la L) rfl hi dL_refunds_161 ?_
        refine lv_topi (fun v27 ev27 => ?_)
        have hF := hF v27 ev27
        refine lv_iload hx hb dL_refunds_162 (lv_at hl 0 rfl) ?_
        refine lv_isub hx hb dL_refunds_164 ?_
        obtain ⟨hi, hF⟩ := wr_use hF
        refine va_iast hx hb hK hP (hDa _) hS 4 0 (pLA_4 cI la L) rfl hi dL_refunds_165 (fun H locs hP _ hS => ?_)
        obtain ⟨M29, eM29⟩ : ∃ z : La, z = (L.1, L.2.1, L.2.2.1, L.2.2.2.1, (upd (L.2.2.2.2.1) (v26 : Int32).toNatClampNeg (v27 - s0)), L.2.2.2.2.2) := ⟨_, rfl⟩
        have hF := nm_use hF eM29
        have hP : va_P D vwCl (wLA cI la M29) H := by rw [eM29]; exact hP
        refine lv_aload_n hx hb dL_refunds_166 rfl (lv_at hl 3 rfl) ?_
        refine lv_iconst (v := 2) hx hb dL_refunds_167 (by decide) ?_
        refine lv_aload_n hx hb dL_refunds_168 rfl (lv_at hl 2 rfl) ?_
        refine lv_iconst (v := 4) hx hb dL_refunds_169 (by decide) ?_
        refine lv_iload hx hb dL_refunds_170 (lv_at hl 7 rfl) ?_
        refine lv_imul hx hb dL_refunds_172 ?_
        obtain ⟨hi, hF⟩ := rd_use hF
        refine va_iald hx hb hK hP 4 0 (pLA_4 cI la M29) rfl hi dL_refunds_173 ?_
        refine lv_topi (fun v30 ev30 => ?_)
        have hF := hF v30 ev30
        refine lv_imul hx hb dL_refunds_174 ?_
        refine lv_iconst (v := 1) hx hb dL_refunds_175 (by decide) ?_
        refine lv_iadd hx hb dL_refunds_176 ?_
        refine lv_topi (fun v31 ev31 => ?_)
        have hF := nm_use hF ev31
        refine lv_dup2_11 hx hb dL_refunds_177 rfl rfl ?_
        obtain ⟨hi, hF⟩ := rd_use hF
        refine va_iald hx hb hK hP 5 0 (pLA_5 cI la M29) rfl hi dL_refunds_178 ?_
        refine lv_topi (fun v32 ev32 => ?_)
        have hF := hF v32 ev32
        refine lv_iload hx hb dL_refunds_179 (lv_at hl 0 rfl) ?_
        refine lv_iadd hx hb dL_refunds_181 ?_
        obtain ⟨hi, hF⟩ := wr_use hF
        refine va_iast hx hb hK hP (hDa _) hS 5 0 (pLA_5 cI la M29) rfl hi dL_refunds_182 (fun H locs hP _ hS => ?_)
        obtain ⟨M34, eM34⟩ : ∃ z : La, z = (M29.1, M29.2.1, M29.2.2.1, M29.2.2.2.1, M29.2.2.2.2.1, (upd (M29.2.2.2.2.2) (v31 : Int32).toNatClampNeg (v32 + s0))) := ⟨_, rfl⟩
        have hF := nm_use hF eM34
        have hP : va_P D vwCl (wLA cI la M34) H := by rw [eM34]; exact hP
        refine lv_iload hx hb dL_refunds_183 (lv_at hl 5 rfl) ?_
        refine lv_iload hx hb dL_refunds_185 (lv_at hl 0 rfl) ?_
        refine lv_isub hx hb dL_refunds_187 ?_
        refine lv_topi (fun v35 ev35 => ?_)
        have hF := nm_use hF ev35
        refine lv_istore (lv' := [(6, .int v35), (10, .int s0), (0, .ref (la 0)), (2, .ref (la 4)), (3, .ref (la 5)), (4, .int x4), (8, .int x8), (9, .int x9)]) hx hb dL_refunds_188 hl (by decide) rfl (fun ls hl => ?_)
        exact j190 M34 v35 x9 _ _ _ hF hP hS (lv_sub hl [2, 3, 4, 5, 0, 6, 7] rfl)
      refine lv_iload hx hb dL_refunds_91 (lv_at hl 6 rfl) ?_
      refine lv_aload_n hx hb dL_refunds_93 rfl (lv_at hl 0 rfl) ?_
      refine lv_iconst (v := 1) hx hb dL_refunds_94 (by decide) ?_
      obtain ⟨hi, hF⟩ := rd_use hF
      refine va_iald hx hb hK hP 0 0 (pLA_0 cI la L) rfl hi dL_refunds_95 ?_
      refine lv_topi (fun v17 ev17 => ?_)
      have hF := hF v17 ev17
      refine lv_icmp_ge (tgt := 196) hx hb dL_refunds_96 (by decide) (fun c18 => ?_) (fun c18 => ?_)
      · have hF := it_t hF c18
        exact after L x6 _ _ _ hF hP hS (lv_sub hl [0, 1, 2, 3, 4, 5] rfl)
      · have hF := it_f hF c18
        refine lv_aload_n hx hb dL_refunds_99 rfl (lv_at hl 1 rfl) ?_
        refine lv_iconst (v := 4) hx hb dL_refunds_100 (by decide) ?_
        refine lv_iload hx hb dL_refunds_101 (lv_at hl 6 rfl) ?_
        refine lv_imul hx hb dL_refunds_103 ?_
        refine lv_iconst (v := 2) hx hb dL_refunds_104 (by decide) ?_
        refine lv_iadd hx hb dL_refunds_105 ?_
        obtain ⟨hi, hF⟩ := rd_use hF
        refine va_iald hx hb hK hP 4 0 (pLA_4 cI la L) rfl hi dL_refunds_106 ?_
        refine lv_topi (fun v19 ev19 => ?_)
        have hF := hF v19 ev19
        refine lv_iload hx hb dL_refunds_107 (lv_at hl 3 rfl) ?_
        refine lv_icmp_ne (tgt := 190) hx hb dL_refunds_109 (by decide) (fun c20 => ?_) (fun c20 => ?_)
        · have hF := it_f hF c20
          exact j190 L x6 x9 _ _ _ hF hP hS (lv_sub hl [0, 1, 2, 3, 4, 5, 6] rfl)
        · have hF := it_t hF c20
          refine lv_aload_n hx hb dL_refunds_112 rfl (lv_at hl 1 rfl) ?_
          refine lv_iconst (v := 4) hx hb dL_refunds_113 (by decide) ?_
          refine lv_iload hx hb dL_refunds_114 (lv_at hl 6 rfl) ?_
          refine lv_imul hx hb dL_refunds_116 ?_
          refine lv_iconst (v := 3) hx hb dL_refunds_117 (by decide) ?_
          refine lv_iadd hx hb dL_refunds_118 ?_
          obtain ⟨hi, hF⟩ := rd_use hF
          refine va_iald hx hb hK hP 4 0 (pLA_4 cI la L) rfl hi dL_refunds_119 ?_
          refine lv_topi (fun v22 ev22 => ?_)
          have hF := hF v22 ev22
          refine lv_iload hx hb dL_refunds_120 (lv_at hl 5 rfl) ?_
          refine lv_icmp_ne (tgt := 190) hx hb dL_refunds_122 (by decide) (fun c23 => ?_) (fun c23 => ?_)
          · have hF := it_f hF c23
            exact j190 L x6 x9 _ _ _ hF hP hS (lv_sub hl [0, 1, 2, 3, 4, 5, 6] rfl)
          · have hF := it_t hF c23
            refine lv_aload_n hx hb dL_refunds_125 rfl (lv_at hl 1 rfl) ?_
            refine lv_iconst (v := 4) hx hb dL_refunds_126 (by decide) ?_
            refine lv_iload hx hb dL_refunds_127 (lv_at hl 6 rfl) ?_
            refine lv_imul hx hb dL_refunds_129 ?_
            refine lv_iconst (v := 1) hx hb dL_refunds_130 (by decide) ?_
            refine lv_iadd hx hb dL_refunds_131 ?_
            obtain ⟨hi, hF⟩ := rd_use hF
            refine va_iald hx hb hK hP 4 0 (pLA_4 cI la L) rfl hi dL_refunds_132 ?_
            refine lv_topi (fun v24 ev24 => ?_)
            have hF := hF v24 ev24
            refine lv_iload hx hb dL_refunds_133 (lv_at hl 4 rfl) ?_
            refine lv_icmp_ge (tgt := 149) hx hb dL_refunds_135 (by decide) (fun c25 => ?_) (fun c25 => ?_)
            · have hF := it_t hF c25
              refine lv_iload hx hb dL_refunds_149 (lv_at hl 4 rfl) ?_
              exact j151 L x6 x9 x6 _ _ _ hF hP hS (lv_sub hl [0, 1, 2, 3, 4, 5, 6] rfl)
            · have hF := it_f hF c25
              refine lv_aload_n hx hb dL_refunds_138 rfl (lv_at hl 1 rfl) ?_
              refine lv_iconst (v := 4) hx hb dL_refunds_139 (by decide) ?_
              refine lv_iload hx hb dL_refunds_140 (lv_at hl 6 rfl) ?_
              refine lv_imul hx hb dL_refunds_142 ?_
              refine lv_iconst (v := 1) hx hb dL_refunds_143 (by decide) ?_
              refine lv_iadd hx hb dL_refunds_144 ?_
              obtain ⟨hi, hF⟩ := rd_use hF
              refine va_iald hx hb hK hP 4 0 (pLA_4 cI la L) rfl hi dL_refunds_145 ?_
              refine lv_topi (fun v36 ev36 => ?_)
              have hF := hF v36 ev36
              refine lv_goto (tgt := 151) hx hb dL_refunds_146 (by decide) ?_
              exact j151 L x6 x9 v36 _ _ _ hF hP hS (lv_sub hl [0, 1, 2, 3, 4, 5, 6] rfl)
  have l83 : ∀ (x4 : Int32) (fu : Nat) (L : La) (x6 : Int32) (x8 : Int32) (H : Heap) (locs : List Loc) (ls : Array Slot), fL_refunds_l83 x4 fu L x6 x8 = some M' → va_P D vwCl (wLA cI la L) H → va_S A s.heap H locs → lv_has ls 11 [(0, .ref (la 0)), (2, .ref (la 4)), (3, .ref (la 5)), (4, .int x4), (6, .int x6), (8, .int x8)] → W p l e rmL_refunds s m args below meth c H locs 0 0 (MQ below (qV D (wLA cI la (M')) A) args s 0 0 A) (F0 m 83 ls []) := by
    intro x4  fu
    induction fu with
    | zero => intro L x6 x8 H locs ls hF; exact nn_use hF
    | succ fu ihn =>
      intro L x6 x8 H locs ls hF hP hS hl 
      rw [fL_refunds_l83_s] at hF
      refine lv_iload hx hb dL_refunds_83 (lv_at hl 5 rfl) ?_
      refine lv_if_lt (tgt := 202) hx hb dL_refunds_85 (by decide) (fun c16 => ?_) (fun c16 => ?_)
      · have hF := it_t hF c16
        exact rt_V hx hb hr hlocks hS (by rw [← so_use hF]; exact hP) dL_refunds_202
      · have hF := it_f hF c16
        refine lv_iconst (v := 0) hx hb dL_refunds_88 (by decide) ?_
        refine lv_istore (lv' := [(9, .int 0), (0, .ref (la 0)), (2, .ref (la 4)), (3, .ref (la 5)), (4, .int x4), (6, .int x6), (8, .int x8)]) hx hb dL_refunds_89 hl (by decide) rfl (fun ls hl => ?_)
        refine l91 x4 x8 _ _ L x6 0 _ _ _ hF hP hS (lv_sub hl [1, 2, 3, 4, 5, 6, 0] rfl) ?_
        · intro M38 y37 H locs ls hF hP hS hl
          obtain ⟨v39, ev39⟩ : ∃ z : Int32, z = x8 + (-1) := ⟨_, rfl⟩
          refine lv_iinc (v := v39) (lv' := [(8, .int v39), (0, .ref (la 0)), (2, .ref (la 4)), (3, .ref (la 5)), (4, .int x4), (6, .int y37)]) hx hb dL_refunds_196 hl (k := 5) rfl (by rw [ev39]; rfl) (by decide) rfl (fun ls hl => ?_)
          have hF := nm_use hF ev39
          refine lv_goto (tgt := 83) hx hb dL_refunds_199 (by decide) ?_
          exact ihn M38 y37 v39 _ _ _ hF hP hS (lv_sub hl [1, 2, 3, 4, 5, 0] rfl)
  have j32 : ∀ (L : La) (x4 : Int32) (x5 : Int32) (x6 : Int32) (s0 : Int32) (H : Heap) (locs : List Loc) (ls : Array Slot), fL_refunds_j32 L x4 x5 x6 s0 = some M' → va_P D vwCl (wLA cI la L) H → va_S A s.heap H locs → lv_has ls 11 [(0, .ref (la 0)), (1, .ref (la 3)), (2, .ref (la 4)), (3, .ref (la 5)), (4, .int x4), (5, .int x5), (6, .int x6)] → W p l e rmL_refunds s m args below meth c H locs 0 0 (MQ below (qV D (wLA cI la (M')) A) args s 0 0 A) (F0 m 32 ls [.int s0]) := by
    intro L x4 x5 x6 s0 H locs ls hF hP hS hl
    refine lv_istore (lv' := [(7, .int s0), (0, .ref (la 0)), (1, .ref (la 3)), (2, .ref (la 4)), (3, .ref (la 5)), (4, .int x4), (5, .int x5), (6, .int x6)]) hx hb dL_refunds_32 hl (by decide) rfl (fun ls hl => ?_)
    refine lv_aload_n hx hb dL_refunds_34 rfl (lv_at hl 2 rfl) ?_
    refine lv_bipush (v := 9) hx hb dL_refunds_35 (by decide) ?_
    refine lv_iload hx hb dL_refunds_37 (lv_at hl 5 rfl) ?_
    refine lv_imul hx hb dL_refunds_39 ?_
    refine lv_iconst (v := 5) hx hb dL_refunds_40 (by decide) ?_
    refine lv_iadd hx hb dL_refunds_41 ?_
    refine lv_topi (fun v3 ev3 => ?_)
    have hF := nm_use hF ev3
    refine lv_dup2_11 hx hb dL_refunds_42 rfl rfl ?_
    obtain ⟨hi, hF⟩ := rd_use hF
    refine va_iald hx hb hK hP 3 0 (pLA_3 cI la L) rfl hi dL_refunds_43 ?_
    refine lv_topi (fun v4 ev4 => ?_)
    have hF := hF v4 ev4
    refine lv_iload hx hb dL_refunds_44 (lv_at hl 0 rfl) ?_
    refine lv_isub hx hb dL_refunds_46 ?_
    obtain ⟨hi, hF⟩ := wr_use hF
    refine va_iast hx hb hK hP (hDa _) hS 3 0 (pLA_3 cI la L) rfl hi dL_refunds_47 (fun H locs hP _ hS => ?_)
    obtain ⟨M6, eM6⟩ : ∃ z : La, z = (L.1, L.2.1, L.2.2.1, (upd (L.2.2.2.1) (v3 : Int32).toNatClampNeg (v4 - s0)), L.2.2.2.2) := ⟨_, rfl⟩
    have hF := nm_use hF eM6
    have hP : va_P D vwCl (wLA cI la M6) H := by rw [eM6]; exact hP
    refine lv_aload_n hx hb dL_refunds_48 rfl (lv_at hl 2 rfl) ?_
    refine lv_bipush (v := 9) hx hb dL_refunds_49 (by decide) ?_
    refine lv_iload hx hb dL_refunds_51 (lv_at hl 5 rfl) ?_
    refine lv_imul hx hb dL_refunds_53 ?_
    refine lv_bipush (v := 6) hx hb dL_refunds_54 (by decide) ?_
    refine lv_iadd hx hb dL_refunds_56 ?_
    refine lv_topi (fun v7 ev7 => ?_)
    have hF := nm_use hF ev7
    refine lv_dup2_11 hx hb dL_refunds_57 rfl rfl ?_
    obtain ⟨hi, hF⟩ := rd_use hF
    refine va_iald hx hb hK hP 3 0 (pLA_3 cI la M6) rfl hi dL_refunds_58 ?_
    refine lv_topi (fun v8 ev8 => ?_)
    have hF := hF v8 ev8
    refine lv_iload hx hb dL_refunds_59 (lv_at hl 6 rfl) ?_
    refine lv_iadd hx hb dL_refunds_61 ?_
    obtain ⟨hi, hF⟩ := wr_use hF
    refine va_iast hx hb hK hP (hDa _) hS 3 0 (pLA_3 cI la M6) rfl hi dL_refunds_62 (fun H locs hP _ hS => ?_)
    obtain ⟨M10, eM10⟩ : ∃ z : La, z = (M6.1, M6.2.1, M6.2.2.1, (upd (M6.2.2.2.1) (v7 : Int32).toNatClampNeg (v8 + x5)), M6.2.2.2.2) := ⟨_, rfl⟩
    have hF := nm_use hF eM10
    have hP : va_P D vwCl (wLA cI la M10) H := by rw [eM10]; exact hP
    refine lv_aload_n hx hb dL_refunds_63 rfl (lv_at hl 1 rfl) ?_
    refine lv_iconst (v := 3) hx hb dL_refunds_64 (by decide) ?_
    refine lv_dup2_11 hx hb dL_refunds_65 rfl rfl ?_
    obtain ⟨hi, hF⟩ := rd_use hF
    refine va_iald hx hb hK hP 0 0 (pLA_0 cI la M10) rfl hi dL_refunds_66 ?_
    refine lv_topi (fun v11 ev11 => ?_)
    have hF := hF v11 ev11
    refine lv_iload hx hb dL_refunds_67 (lv_at hl 0 rfl) ?_
    refine lv_isub hx hb dL_refunds_69 ?_
    obtain ⟨hi, hF⟩ := wr_use hF
    refine va_iast hx hb hK hP (hDa _) hS 0 0 (pLA_0 cI la M10) rfl hi dL_refunds_70 (fun H locs hP _ hS => ?_)
    obtain ⟨M13, eM13⟩ : ∃ z : La, z = ((upd (M10.1) (3 : Int32).toNatClampNeg (v11 - s0)), M10.2) := ⟨_, rfl⟩
    have hF := nm_use hF eM13
    have hP : va_P D vwCl (wLA cI la M13) H := by rw [eM13]; exact hP
    refine lv_iload hx hb dL_refunds_71 (lv_at hl 7 rfl) ?_
    refine lv_iload hx hb dL_refunds_73 (lv_at hl 0 rfl) ?_
    refine lv_isub hx hb dL_refunds_75 ?_
    refine lv_topi (fun v14 ev14 => ?_)
    have hF := nm_use hF ev14
    refine lv_istore (lv' := [(6, .int v14), (7, .int s0), (0, .ref (la 0)), (1, .ref (la 3)), (2, .ref (la 4)), (3, .ref (la 5)), (4, .int x4), (5, .int x5)]) hx hb dL_refunds_76 hl (by decide) rfl (fun ls hl => ?_)
    refine lv_aload_n hx hb dL_refunds_78 rfl (lv_at hl 2 rfl) ?_
    refine lv_iconst (v := 4) hx hb dL_refunds_79 (by decide) ?_
    obtain ⟨hi, hF⟩ := rd_use hF
    refine va_iald hx hb hK hP 0 0 (pLA_0 cI la M13) rfl hi dL_refunds_80 ?_
    refine lv_topi (fun v15 ev15 => ?_)
    have hF := hF v15 ev15
    refine lv_istore (lv' := [(8, .int v15), (6, .int v14), (7, .int s0), (0, .ref (la 0)), (1, .ref (la 3)), (2, .ref (la 4)), (3, .ref (la 5)), (4, .int x4), (5, .int x5)]) hx hb dL_refunds_81 hl (by decide) rfl (fun ls hl => ?_)
    refine l83 x4  _ M13 v14 v15 _ _ _ hF hP hS (lv_sub hl [3, 5, 6, 7, 1, 0] rfl)
  refine lv_iload hx hb dL_refunds_0 (lv_at hl 5 rfl) ?_
  refine lv_istore (lv' := [(6, .int x5), (0, .ref (la 0)), (1, .ref (la 3)), (2, .ref (la 4)), (3, .ref (la 5)), (4, .int x4), (5, .int x5)]) hx hb dL_refunds_2 hl (by decide) rfl (fun ls hl => ?_)
  refine lv_aload_n hx hb dL_refunds_4 rfl (lv_at hl 2 rfl) ?_
  refine lv_bipush (v := 9) hx hb dL_refunds_5 (by decide) ?_
  refine lv_iload hx hb dL_refunds_7 (lv_at hl 5 rfl) ?_
  refine lv_imul hx hb dL_refunds_9 ?_
  refine lv_iconst (v := 5) hx hb dL_refunds_10 (by decide) ?_
  refine lv_iadd hx hb dL_refunds_11 ?_
  obtain ⟨hi, hF⟩ := rd_use hF
  refine va_iald hx hb hK hP 3 0 (pLA_3 cI la L) rfl hi dL_refunds_12 ?_
  refine lv_topi (fun v1 ev1 => ?_)
  have hF := hF v1 ev1
  refine lv_iload hx hb dL_refunds_13 (lv_at hl 0 rfl) ?_
  refine lv_icmp_ge (tgt := 30) hx hb dL_refunds_15 (by decide) (fun c2 => ?_) (fun c2 => ?_)
  · have hF := it_t hF c2
    refine lv_iload hx hb dL_refunds_30 (lv_at hl 0 rfl) ?_
    exact j32 L x4 x5 x5 x5 _ _ _ hF hP hS (lv_sub hl [1, 2, 3, 4, 5, 6, 0] rfl)
  · have hF := it_f hF c2
    refine lv_aload_n hx hb dL_refunds_18 rfl (lv_at hl 2 rfl) ?_
    refine lv_bipush (v := 9) hx hb dL_refunds_19 (by decide) ?_
    refine lv_iload hx hb dL_refunds_21 (lv_at hl 5 rfl) ?_
    refine lv_imul hx hb dL_refunds_23 ?_
    refine lv_iconst (v := 5) hx hb dL_refunds_24 (by decide) ?_
    refine lv_iadd hx hb dL_refunds_25 ?_
    obtain ⟨hi, hF⟩ := rd_use hF
    refine va_iald hx hb hK hP 3 0 (pLA_3 cI la L) rfl hi dL_refunds_26 ?_
    refine lv_topi (fun v40 ev40 => ?_)
    have hF := hF v40 ev40
    refine lv_goto (tgt := 32) hx hb dL_refunds_27 (by decide) ?_
    exact j32 L x4 x5 x5 v40 _ _ _ hF hP hS (lv_sub hl [1, 2, 3, 4, 5, 6, 0] rfl)

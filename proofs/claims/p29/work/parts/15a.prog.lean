noncomputable def fX3_size  (P : Pg) : Option (Int32) := some (P.2.2.1)
abbrev vX3_size : List Cond := Cond.code yX3_size cX3_size 1 (some .int) :: BIG
theorem gX3_size {own : String} {idx : Nat} (h : (Cond.methodLink own idx yX3_size) ∈ BIG) : GoodIn BIG (wsV own idx RX3 yX3_size vX3_size) := gdV h bw2_17 bw2_18 bw1_10 bw2_19
def rmX3_size : Room := { frames := 0, cells := 0, slots := 0, locals := 0 }
theorem hdX3_size : yX3_size.cls = RX3 ∧ yX3_size.cls ≠ "java/lang/invoke/MethodHandle" ∧ yX3_size.cls ≠ "java/lang/invoke/VarHandle" ∧ (parseMethodDescriptor yX3_size.desc).map (fun d => d.parameters.length) = some 0 := by decide +kernel
set_option maxHeartbeats 4000000 in
set_option maxRecDepth 100000 in
theorem kX3_size (l : Launch) (D : va_G) (cS : ClassId) (g : Nat → Nat) (cI : ClassId) (q : Nat → Nat) (P : Pg) (r : Int32) (hF : fX3_size P = some r) : mI l yX3_size vX3_size rmX3_size D cI cS g [.ref (q 0)] (wPg cI q P) r (wPg cI q P) := by
  refine st_I rfl (by decide) (Nat.le_of_ble_eq_true rfl) ?_
  intro p e s m args below meth c A ls hx hb hr hml hlocks hown hts hA hK hD0 hG hP hS hl
  have hown : s.vm.findClass RX3 = some m.cls := hown
  have hDa : ∀ P, va_D A (wPg cI q P) := fun P => hD0.adr rfl
  have htb : ∀ w ∈ BIG, w.before args s = true := fun w h => hts w (List.mem_cons_of_mem _ h)
  have hl : lv_has ls 1 [(0, .ref (q 0))] := hl
  refine lv_aload_n hx hb dX3_size_0 rfl (lv_at hl 0 rfl) ?_
  refine va_get (ci := 3) (v := .int (P.2.2.1)) (C := RX3) (T := TX3) (N := 6) hx hb htb kin3 hown hK hP 0 (pPg_0 cI q P) rfl 2 (by decide) (htb _ bw1_191) (fun _ h9 => h9) rfl dX3_size_1 ?_
  exact rt_I hx hb hr hlocks hS hP (so_use hF) dX3_size_4

abbrev vJ3_ci : List Cond := Cond.code yJ3_checkIndex_8e157 cJ3_checkIndex_8e157 3 (some .int) :: BIG
theorem gJ3_ci {own : String} {idx : Nat} (h : (Cond.methodLink own idx yJ3_checkIndex_8e157) ∈ BIG) : GoodIn BIG (va_wsS own idx yJ3_checkIndex_8e157 vJ3_ci) := gdS h bw3_77 bw1_15 bw3_78
theorem hdJ3_ci : yJ3_checkIndex_8e157.cls ≠ "java/lang/invoke/MethodHandle" ∧ yJ3_checkIndex_8e157.cls ≠ "java/lang/invoke/VarHandle" ∧ (parseMethodDescriptor yJ3_checkIndex_8e157.desc).map (fun d => d.parameters.length) = some 3 := by decide +kernel
def rmJ3_ci : Room := { frames := 0, cells := 0, slots := 0, locals := 0 }
set_option maxHeartbeats 4000000 in
set_option maxRecDepth 100000 in
theorem kJ3_ci (l : Launch) (D : va_G) (cS : ClassId) (g : Nat → Nat) (cI : ClassId) (x0 x1 : Int32) (v : Value) (hv : v = .null ∨ ∃ q, v = .ref q) (h0 : ¬ x0 < 0) (h1 : x0 < x1) : mI l yJ3_checkIndex_8e157 vJ3_ci rmJ3_ci D cI cS g [.int x0, .int x1, v] [] x0 [] := by
  rcases hv with rfl | ⟨q, rfl⟩
  · refine st_I rfl (by decide) (Nat.le_of_ble_eq_true rfl) ?_
    intro p e s m args below meth c A ls hx hb hr hml hlocks hown hts hA hK hD0 hG hP hS hl
    have hown : s.vm.findClass RJ3 = some m.cls := hown
    have htb : ∀ w ∈ BIG, w.before args s = true := fun w h => hts w (List.mem_cons_of_mem _ h)
    have hl : lv_has ls 3 [(0, .int x0), (1, .int x1), (2, .null)] := hl
    refine lv_iload_n hx hb dJ3_checkIndex_8e157_0 rfl (lv_at hl 0 rfl) ?_
    refine lv_if_lt (tgt := 9) hx hb dJ3_checkIndex_8e157_1 (by decide) (fun c => absurd c h0) (fun _ => ?_)
    refine lv_iload_n hx hb dJ3_checkIndex_8e157_4 rfl (lv_at hl 0 rfl) ?_
    refine lv_iload_n hx hb dJ3_checkIndex_8e157_5 rfl (lv_at hl 1 rfl) ?_
    refine lv_icmp_lt (tgt := 16) hx hb dJ3_checkIndex_8e157_6 (by decide) (fun _ => ?_) (fun c => absurd h1 c)
    refine lv_iload_n hx hb dJ3_checkIndex_8e157_16 rfl (lv_at hl 0 rfl) ?_
    exact rt_I hx hb hr hlocks hS hP rfl dJ3_checkIndex_8e157_17
  · refine st_I rfl (by decide) (Nat.le_of_ble_eq_true rfl) ?_
    intro p e s m args below meth c A ls hx hb hr hml hlocks hown hts hA hK hD0 hG hP hS hl
    have hown : s.vm.findClass RJ3 = some m.cls := hown
    have htb : ∀ w ∈ BIG, w.before args s = true := fun w h => hts w (List.mem_cons_of_mem _ h)
    have hl : lv_has ls 3 [(0, .int x0), (1, .int x1), (2, .ref q)] := hl
    refine lv_iload_n hx hb dJ3_checkIndex_8e157_0 rfl (lv_at hl 0 rfl) ?_
    refine lv_if_lt (tgt := 9) hx hb dJ3_checkIndex_8e157_1 (by decide) (fun c => absurd c h0) (fun _ => ?_)
    refine lv_iload_n hx hb dJ3_checkIndex_8e157_4 rfl (lv_at hl 0 rfl) ?_
    refine lv_iload_n hx hb dJ3_checkIndex_8e157_5 rfl (lv_at hl 1 rfl) ?_
    refine lv_icmp_lt (tgt := 16) hx hb dJ3_checkIndex_8e157_6 (by decide) (fun _ => ?_) (fun c => absurd h1 c)
    refine lv_iload_n hx hb dJ3_checkIndex_8e157_16 rfl (lv_at hl 0 rfl) ?_
    exact rt_I hx hb hr hlocks hS hP rfl dJ3_checkIndex_8e157_17
abbrev vJ0_ci : List Cond := Cond.code yJ0_checkIndex_df160 cJ0_checkIndex_df160 2 none :: BIG
theorem gJ0_ci {own : String} {idx : Nat} (h : (Cond.methodLink own idx yJ0_checkIndex_df160) ∈ BIG) : GoodIn BIG (va_wsS own idx yJ0_checkIndex_df160 vJ0_ci) := gdS h bw3_72 bw1_13 bw3_73
theorem hdJ0_ci : yJ0_checkIndex_df160.cls ≠ "java/lang/invoke/MethodHandle" ∧ yJ0_checkIndex_df160.cls ≠ "java/lang/invoke/VarHandle" ∧ (parseMethodDescriptor yJ0_checkIndex_df160.desc).map (fun d => d.parameters.length) = some 2 := by decide +kernel
def rmJ0_ci : Room := { frames := 1, cells := 0, slots := 0, locals := 22 }
set_option maxHeartbeats 4000000 in
set_option maxRecDepth 100000 in
theorem kJ0_ci (l : Launch) (D : va_G) (cS : ClassId) (g : Nat → Nat) (cI : ClassId) (x0 x1 : Int32) (h0 : ¬ x0 < 0) (h1 : x0 < x1) : mV l yJ0_checkIndex_df160 vJ0_ci rmJ0_ci D cI cS g [.int x0, .int x1] [] [] := by
  refine st_V rfl (by decide) (Nat.le_of_ble_eq_true rfl) ?_
  intro p e s m args below meth c A ls hx hb hr hml hlocks hown hts hA hK hD0 hG hP hS hl
  have hown : s.vm.findClass RJ0 = some m.cls := hown
  have htb : ∀ w ∈ BIG, w.before args s = true := fun w h => hts w (List.mem_cons_of_mem _ h)
  have hl : lv_has ls 2 [(0, .int x0), (1, .int x1)] := hl
  refine lv_iload_n hx hb dJ0_checkIndex_df160_0 rfl (lv_at hl 0 rfl) ?_
  refine lv_iload_n hx hb dJ0_checkIndex_df160_1 rfl (lv_at hl 1 rfl) ?_
  have key : ∀ v : Value, (v = .null ∨ ∃ q, v = .ref q) → v.category = 1 → va_Z "jdk/internal/util/Preconditions" "SIOOBE_FORMATTER" "Ljava/util/function/BiFunction;" v A s s.heap → W p l e rmJ0_ci s m args below meth c s.heap [] 0 0 (MQ below (qV D [] A) args s 0 0 A) (F0 m 2 ls [.int x1, .int x0]) := by
    intro v hv hc hZ
    refine va_gets hx hb hZ hS hown (htb _ bw3_74) (fun _ h9 => h9) dJ0_checkIndex_df160_2 ?_
    refine cl_SI ⟨hx, hb, hml, hown, htb⟩ (kJ3_ci l D cS g cI x0 x1 v hv h0 h1) (va_cwS 3 htb (gJ3_ci bw3_76) rfl rfl rfl hdJ3_ci ⟨Nat.le_of_ble_eq_true rfl, Nat.le_of_ble_eq_true rfl⟩) hK hD0 hG hA hP hS sg_nil hl.1 rfl rfl (Nat.le_of_ble_eq_true rfl) dJ0_checkIndex_df160_5 (fun H locs hP hS => ?_)
    refine lv_pop hx hb dJ0_checkIndex_df160_8 rfl ?_
    exact rt_V hx hb hr hlocks hS hP dJ0_checkIndex_df160_9
  rcases hG.2.2.2.1.2 with hZ | ⟨t, hZ⟩
  · exact key _ (Or.inl rfl) rfl hZ
  · exact key _ (Or.inr ⟨t, rfl⟩) rfl hZ
def chS (i j : Nat) : Int32 := (bytS.getD i []).getD j 0
theorem chS_ok : ∀ i, i < 7 → ∀ j, j < lenS.getD i 0 → (((chS i j) &&& 255).toUInt32 % 65536).toInt32 = chS i j ∧ narrow .char (.int (chS i j)) = .int (chS i j) := by decide +kernel
theorem lenS_ok : ∀ i, i < 7 → lenS.getD i 0 < 5 := by decide
abbrev vJ1_charAt : List Cond := Cond.code yJ1_charAt_3b067 cJ1_charAt_3b067 2 (some .char) :: BIG
theorem gJ1_charAt {own : String} {idx : Nat} (h : (Cond.methodLink own idx yJ1_charAt_3b067) ∈ BIG) : GoodIn BIG (va_wsS own idx yJ1_charAt_3b067 vJ1_charAt) := gdS h bw3_69 bw1_14 bw3_70
theorem hdJ1_charAt : yJ1_charAt_3b067.cls ≠ "java/lang/invoke/MethodHandle" ∧ yJ1_charAt_3b067.cls ≠ "java/lang/invoke/VarHandle" ∧ (parseMethodDescriptor yJ1_charAt_3b067.desc).map (fun d => d.parameters.length) = some 2 := by decide +kernel
def rmJ1_charAt : Room := { frames := 2, cells := 0, slots := 0, locals := 43 }
set_option maxHeartbeats 4000000 in
set_option maxRecDepth 100000 in
theorem kJ1_charAt (l : Launch) (D : va_G) (cS : ClassId) (g : Nat → Nat) (cI : ClassId) (i j : Nat) (hi : i < 7) (hj : j < lenS.getD i 0) : mI l yJ1_charAt_3b067 vJ1_charAt rmJ1_charAt D cI cS g [.ref (g (10 + i)), .int (nI j)] [] (chS i j) [] := by
  refine st_I rfl (by decide) (Nat.le_of_ble_eq_true rfl) ?_
  intro p e s m args below meth c A ls hx hb hr hml hlocks hown hts hA hK hD0 hG hP hS hl
  have hown : s.vm.findClass RJ1 = some m.cls := hown
  have htb : ∀ w ∈ BIG, w.before args s = true := fun w h => hts w (List.mem_cons_of_mem _ h)
  have hl : lv_has ls 2 [(0, .ref (g (10 + i))), (1, .int (nI j))] := hl
  have hlen := lenS_ok i hi
  refine lv_iload_n hx hb dJ1_charAt_3b067_0 rfl (lv_at hl 1 rfl) ?_
  refine lv_aload_n hx hb dJ1_charAt_3b067_1 rfl (lv_at hl 0 rfl) ?_
  refine va_tlen (v := nI (lenS.getD i 0)) hx hb ((hG.2.2.2.2.1.1 i hi).2.2.2) hS rfl dJ1_charAt_3b067_2 ?_
  refine cl_SV ⟨hx, hb, hml, hown, htb⟩ (kJ0_ci l D cS g cI (nI j) (nI (lenS.getD i 0)) (nI_pos (by omega)) (nI_lt hj (by omega))) (va_cwS 2 htb (gJ0_ci bw3_71) rfl rfl rfl hdJ0_ci ⟨Nat.le_of_ble_eq_true rfl, Nat.le_of_ble_eq_true rfl⟩) hK hD0 hG hA hP hS hl.1 rfl rfl (Nat.le_of_ble_eq_true rfl) dJ1_charAt_3b067_3 (fun H locs hP hS => ?_)
  refine lv_aload_n hx hb dJ1_charAt_3b067_6 rfl (lv_at hl 0 rfl) ?_
  refine lv_iload_n hx hb dJ1_charAt_3b067_7 rfl (lv_at hl 1 rfl) ?_
  refine va_tb (v := .int (chS i j)) hx hb ((hG.2.2.2.2.1.1 i hi).2.2.2) hS (nI_in hj (by omega)) (by rw [nI_clamp (by omega)]; rfl) dJ1_charAt_3b067_8 ?_
  refine lv_sipush (v := 255) hx hb dJ1_charAt_3b067_9 (by decide) ?_
  refine lv_iand hx hb dJ1_charAt_3b067_12 ?_
  refine lv_i2c (v := chS i j) hx hb dJ1_charAt_3b067_13 (chS_ok i hi j hj).1 ?_
  exact rt_T hx hb hr hlocks hS hP (chS_ok i hi j hj).2 rfl dJ1_charAt_3b067_14
abbrev vJ0_coder : List Cond := Cond.code yJ0_coder_7d493 cJ0_coder_7d493 1 (some .byte) :: BIG
theorem gJ0_coder {own : String} {idx : Nat} (h : (Cond.methodLink own idx yJ0_coder_7d493) ∈ BIG) : GoodIn BIG (wsV own idx RJ0 yJ0_coder_7d493 vJ0_coder) := gdV h bw3_55 bw3_56 bw1_13 bw3_57
theorem hdJ0_coder : yJ0_coder_7d493.cls = RJ0 ∧ yJ0_coder_7d493.cls ≠ "java/lang/invoke/MethodHandle" ∧ yJ0_coder_7d493.cls ≠ "java/lang/invoke/VarHandle" ∧ (parseMethodDescriptor yJ0_coder_7d493.desc).map (fun d => d.parameters.length) = some 0 := by decide +kernel
def rmJ0_coder : Room := { frames := 0, cells := 0, slots := 0, locals := 0 }
set_option maxHeartbeats 4000000 in
set_option maxRecDepth 100000 in
theorem kJ0_coder (l : Launch) (D : va_G) (cS : ClassId) (g : Nat → Nat) (cI : ClassId) (i : Nat) (hi : i < 7) : mI l yJ0_coder_7d493 vJ0_coder rmJ0_coder D cI cS g [.ref (g (3 + i))] [] 0 [] := by
  refine st_I rfl (by decide) (Nat.le_of_ble_eq_true rfl) ?_
  intro p e s m args below meth c A ls hx hb hr hml hlocks hown hts hA hK hD0 hG hP hS hl
  have hown : s.vm.findClass RJ0 = some m.cls := hown
  have htb : ∀ w ∈ BIG, w.before args s = true := fun w h => hts w (List.mem_cons_of_mem _ h)
  have hl : lv_has ls 1 [(0, .ref (g (3 + i)))] := hl
  refine va_gets hx hb hG.2.2.2.1.1 hS hown (htb _ bw3_58) (fun _ h9 => h9) dJ0_coder_7d493_0 ?_
  refine lv_if_eq (tgt := 13) hx hb dJ0_coder_7d493_3 (by decide) (fun c => absurd c (by decide)) (fun _ => ?_)
  refine lv_aload_n hx hb dJ0_coder_7d493_6 rfl (lv_at hl 0 rfl) ?_
  refine vk_getf hx hb ((hG.2.2.2.2.1.1 i hi).2.1) hS hown (htb _ bw5_87) (fun _ h9 => h9) dJ0_coder_7d493_7 ?_
  refine lv_goto (tgt := 14) hx hb dJ0_coder_7d493_10 (by decide) ?_
  exact rt_T hx hb hr hlocks hS hP rfl rfl dJ0_coder_7d493_14
abbrev vJ0_isLatin1 : List Cond := Cond.code yJ0_isLatin1_aae02 cJ0_isLatin1_aae02 1 (some .boolean) :: BIG
theorem gJ0_isLatin1 {own : String} {idx : Nat} (h : (Cond.methodLink own idx yJ0_isLatin1_aae02) ∈ BIG) : GoodIn BIG (wsV own idx RJ0 yJ0_isLatin1_aae02 vJ0_isLatin1) := gdV h bw3_65 bw3_66 bw1_13 bw3_67
theorem hdJ0_isLatin1 : yJ0_isLatin1_aae02.cls = RJ0 ∧ yJ0_isLatin1_aae02.cls ≠ "java/lang/invoke/MethodHandle" ∧ yJ0_isLatin1_aae02.cls ≠ "java/lang/invoke/VarHandle" ∧ (parseMethodDescriptor yJ0_isLatin1_aae02.desc).map (fun d => d.parameters.length) = some 0 := by decide +kernel
def rmJ0_isLatin1 : Room := { frames := 0, cells := 0, slots := 0, locals := 0 }
set_option maxHeartbeats 4000000 in
set_option maxRecDepth 100000 in
theorem kJ0_isLatin1 (l : Launch) (D : va_G) (cS : ClassId) (g : Nat → Nat) (cI : ClassId) (i : Nat) (hi : i < 7) : mI l yJ0_isLatin1_aae02 vJ0_isLatin1 rmJ0_isLatin1 D cI cS g [.ref (g (3 + i))] [] 1 [] := by
  refine st_I rfl (by decide) (Nat.le_of_ble_eq_true rfl) ?_
  intro p e s m args below meth c A ls hx hb hr hml hlocks hown hts hA hK hD0 hG hP hS hl
  have hown : s.vm.findClass RJ0 = some m.cls := hown
  have htb : ∀ w ∈ BIG, w.before args s = true := fun w h => hts w (List.mem_cons_of_mem _ h)
  have hl : lv_has ls 1 [(0, .ref (g (3 + i)))] := hl
  refine va_gets hx hb hG.2.2.2.1.1 hS hown (htb _ bw3_58) (fun _ h9 => h9) dJ0_isLatin1_aae02_0 ?_
  refine lv_if_eq (tgt := 17) hx hb dJ0_isLatin1_aae02_3 (by decide) (fun c => absurd c (by decide)) (fun _ => ?_)
  refine lv_aload_n hx hb dJ0_isLatin1_aae02_6 rfl (lv_at hl 0 rfl) ?_
  refine vk_getf hx hb ((hG.2.2.2.2.1.1 i hi).2.1) hS hown (htb _ bw5_87) (fun _ h9 => h9) dJ0_isLatin1_aae02_7 ?_
  refine lv_if_ne (tgt := 17) hx hb dJ0_isLatin1_aae02_10 (by decide) (fun c => absurd rfl c) (fun _ => ?_)
  refine lv_iconst (v := 1) hx hb dJ0_isLatin1_aae02_13 (by decide) ?_
  refine lv_goto (tgt := 18) hx hb dJ0_isLatin1_aae02_14 (by decide) ?_
  exact rt_T hx hb hr hlocks hS hP rfl rfl dJ0_isLatin1_aae02_18
theorem ishr0 : ∀ i, i < 7 → nI (lenS.getD i 0) >>> ((0 : Int32) &&& 31) = nI (lenS.getD i 0) := by decide +kernel
abbrev vJ0_length : List Cond := Cond.code yJ0_length_8abf5 cJ0_length_8abf5 1 (some .int) :: BIG
theorem gJ0_length {own : String} {idx : Nat} (h : (Cond.methodLink own idx yJ0_length_8abf5) ∈ BIG) : GoodIn BIG (wsV own idx RJ0 yJ0_length_8abf5 vJ0_length) := gdV h bw3_51 bw3_52 bw1_13 bw3_53
theorem hdJ0_length : yJ0_length_8abf5.cls = RJ0 ∧ yJ0_length_8abf5.cls ≠ "java/lang/invoke/MethodHandle" ∧ yJ0_length_8abf5.cls ≠ "java/lang/invoke/VarHandle" ∧ (parseMethodDescriptor yJ0_length_8abf5.desc).map (fun d => d.parameters.length) = some 0 := by decide +kernel
def rmJ0_length : Room := { frames := 1, cells := 0, slots := 0, locals := 20 }
set_option maxHeartbeats 4000000 in
set_option maxRecDepth 100000 in
theorem kJ0_length (l : Launch) (D : va_G) (cS : ClassId) (g : Nat → Nat) (cI : ClassId) (i : Nat) (hi : i < 7) : mI l yJ0_length_8abf5 vJ0_length rmJ0_length D cI cS g [.ref (g (3 + i))] [] (nI (lenS.getD i 0)) [] := by
  refine st_I rfl (by decide) (Nat.le_of_ble_eq_true rfl) ?_
  intro p e s m args below meth c A ls hx hb hr hml hlocks hown hts hA hK hD0 hG hP hS hl
  have hown : s.vm.findClass RJ0 = some m.cls := hown
  have htb : ∀ w ∈ BIG, w.before args s = true := fun w h => hts w (List.mem_cons_of_mem _ h)
  have hl : lv_has ls 1 [(0, .ref (g (3 + i)))] := hl
  refine lv_aload_n hx hb dJ0_length_8abf5_0 rfl (lv_at hl 0 rfl) ?_
  refine vk_getf hx hb ((hG.2.2.2.2.1.1 i hi).2.2.1) hS hown (htb _ bw5_86) (fun _ h9 => h9) dJ0_length_8abf5_1 ?_
  refine va_tlen (v := nI (lenS.getD i 0)) hx hb ((hG.2.2.2.2.1.1 i hi).2.2.2) hS rfl dJ0_length_8abf5_4 ?_
  refine lv_aload_n hx hb dJ0_length_8abf5_5 rfl (lv_at hl 0 rfl) ?_
  refine cl_KI ⟨hx, hb, hml, hown, htb⟩ (kJ0_coder l D cS g cI i hi) (cwV 0 htb (gJ0_coder bw3_54) rfl rfl rfl hdJ0_coder ⟨Nat.le_of_ble_eq_true rfl, Nat.le_of_ble_eq_true rfl⟩) hK hD0 hG hA hP hS hl.1 rfl (vk_recv (i := i) (adK := fun i => g (3 + i)) hG.2.2.2.2.1 hi hS) rfl (Nat.le_of_ble_eq_true rfl) dJ0_length_8abf5_6 (fun H locs hP hS => ?_)
  refine lv_ishr hx hb dJ0_length_8abf5_9 ?_
  exact rt_I hx hb hr hlocks hS hP (ishr0 i hi) dJ0_length_8abf5_10
abbrev vJ0_charAt : List Cond := Cond.code yJ0_charAt_5068e cJ0_charAt_5068e 2 (some .char) :: BIG
theorem gJ0_charAt {own : String} {idx : Nat} (h : (Cond.methodLink own idx yJ0_charAt_5068e) ∈ BIG) : GoodIn BIG (wsV own idx RJ0 yJ0_charAt_5068e vJ0_charAt) := gdV h bw3_61 bw3_62 bw1_13 bw3_63
theorem hdJ0_charAt : yJ0_charAt_5068e.cls = RJ0 ∧ yJ0_charAt_5068e.cls ≠ "java/lang/invoke/MethodHandle" ∧ yJ0_charAt_5068e.cls ≠ "java/lang/invoke/VarHandle" ∧ (parseMethodDescriptor yJ0_charAt_5068e.desc).map (fun d => d.parameters.length) = some 1 := by decide +kernel
def rmJ0_charAt : Room := { frames := 3, cells := 0, slots := 0, locals := 64 }
set_option maxHeartbeats 4000000 in
set_option maxRecDepth 100000 in
theorem kJ0_charAt (l : Launch) (D : va_G) (cS : ClassId) (g : Nat → Nat) (cI : ClassId) (i j : Nat) (hi : i < 7) (hj : j < lenS.getD i 0) : mI l yJ0_charAt_5068e vJ0_charAt rmJ0_charAt D cI cS g [.ref (g (3 + i)), .int (nI j)] [] (chS i j) [] := by
  refine st_I rfl (by decide) (Nat.le_of_ble_eq_true rfl) ?_
  intro p e s m args below meth c A ls hx hb hr hml hlocks hown hts hA hK hD0 hG hP hS hl
  have hown : s.vm.findClass RJ0 = some m.cls := hown
  have htb : ∀ w ∈ BIG, w.before args s = true := fun w h => hts w (List.mem_cons_of_mem _ h)
  have hl : lv_has ls 2 [(0, .ref (g (3 + i))), (1, .int (nI j))] := hl
  refine lv_aload_n hx hb dJ0_charAt_5068e_0 rfl (lv_at hl 0 rfl) ?_
  refine cl_KI ⟨hx, hb, hml, hown, htb⟩ (kJ0_isLatin1 l D cS g cI i hi) (cwV 0 htb (gJ0_isLatin1 bw3_64) rfl rfl rfl hdJ0_isLatin1 ⟨Nat.le_of_ble_eq_true rfl, Nat.le_of_ble_eq_true rfl⟩) hK hD0 hG hA hP hS hl.1 rfl (vk_recv (i := i) (adK := fun i => g (3 + i)) hG.2.2.2.2.1 hi hS) rfl (Nat.le_of_ble_eq_true rfl) dJ0_charAt_5068e_1 (fun H locs hP hS => ?_)
  refine lv_if_eq (tgt := 16) hx hb dJ0_charAt_5068e_4 (by decide) (fun c => absurd c (by decide)) (fun _ => ?_)
  refine lv_aload_n hx hb dJ0_charAt_5068e_7 rfl (lv_at hl 0 rfl) ?_
  refine vk_getf hx hb ((hG.2.2.2.2.1.1 i hi).2.2.1) hS hown (htb _ bw5_86) (fun _ h9 => h9) dJ0_charAt_5068e_8 ?_
  refine lv_iload_n hx hb dJ0_charAt_5068e_11 rfl (lv_at hl 1 rfl) ?_
  refine cl_SI ⟨hx, hb, hml, hown, htb⟩ (kJ1_charAt l D cS g cI i j hi hj) (va_cwS 2 htb (gJ1_charAt bw3_68) rfl rfl rfl hdJ1_charAt ⟨Nat.le_of_ble_eq_true rfl, Nat.le_of_ble_eq_true rfl⟩) hK hD0 hG hA hP hS sg_nil hl.1 rfl rfl (Nat.le_of_ble_eq_true rfl) dJ0_charAt_5068e_12 (fun H locs hP hS => ?_)
  exact rt_T hx hb hr hlocks hS hP (chS_ok i hi j hj).2 rfl dJ0_charAt_5068e_15
theorem kJ0_charX (l : Launch) (D : va_G) (cS : ClassId) (g : Nat → Nat) (cI : ClassId) (i : Nat) (hi : i < 7) (x : Int32) (hx : vp_in x (lenS.getD i 0)) : mI l yJ0_charAt_5068e vJ0_charAt rmJ0_charAt D cI cS g [.ref (g (3 + i)), .int x] [] (chS i x.toNatClampNeg) [] := by
  have h0 : ¬ x < 0 := fun h => hx (Or.inl h)
  have h1 : x.toNatClampNeg < lenS.getD i 0 := Nat.not_le.mp fun q => hx (Or.inr q)
  obtain ⟨j, hj, rfl⟩ := nI_of h0
  rw [nI_clamp hj] at h1 ⊢
  exact kJ0_charAt l D cS g cI i j hi h1

noncomputable def fX9_does_j110  (M : Md) (s1 : Int32) (s2 : Int32) (s3 : Int32) (s4 : Int32) : Option (Int32 × Md) := b2 (fX9_doBook M s1 s2 s3 s4) fun r14 M13 => some (r14, M13)
noncomputable def fX9_does_j89  (M : Md) (x1 : Int32) (x2 : Int32) (x3 : Int32) (x4 : Int32) : Option (Int32 × Md) := nm (lg_cmp (M.2.2.2.2.2.2.2.2.1) 7364985) fun v11 => if v11 = 0 then (fX9_does_j110 M x1 x2 x3 x4) else (fX9_does_j110 M x1 x2 x3 (-1))
noncomputable def fX9_does_j162  (M : Md) (s0 : Int32) : Option (Int32 × Md) := some (s0, M)
noncomputable def fX9_does  (M : Md) : Option (Int32 × Md) := Rd (M.2.2.2.2.2.2.2.2.2) 4 0 fun v1 => Rd (M.2.2.2.2.2.2.2.2.2) 4 1 fun v2 => Rd (M.2.2.2.2.2.2.2.2.2) 4 2 fun v3 => Rd (M.2.2.2.2.2.2.2.2.2) 4 3 fun v4 => nm (lg_cmp (M.2.2.2.2.2.2.2.2.1) 1919905645) fun v5 => if v5 = 0 then (b2 (fX9_doRoom M v1 v2 v3 v4) fun r30 M29 => some (r30, M29)) else (nm (lg_cmp (M.2.2.2.2.2.2.2.2.1) 1734960756) fun v7 => if v7 = 0 then (b2 (fX9_doGift M v1) fun r28 M27 => some (r28, M27)) else (nm (lg_cmp (M.2.2.2.2.2.2.2.2.1) 1651470187) fun v9 => if v9 = 0 then (fX9_does_j89 M v1 v2 v3 v4) else (nm (lg_cmp (M.2.2.2.2.2.2.2.2.1) 7364985) fun v15 => if v15 = 0 then (fX9_does_j89 M v1 v2 v3 v4) else (nm (lg_cmp (M.2.2.2.2.2.2.2.2.1) 1886151033) fun v17 => if v17 = 0 then (b2 (fX9_doPlay M v1 v2 v3 v4) fun r26 M25 => fX9_does_j162 M25 r26) else (nm (lg_cmp (M.2.2.2.2.2.2.2.2.1) 1685221232) fun v19 => if v19 = 0 then (b2 (fX9_doDrop M v1) fun r24 M23 => fX9_does_j162 M23 r24) else (b2 (fX9_doJoin M v1 v2) fun r22 M21 => fX9_does_j162 M21 r22))))))
abbrev vX9_does : List Cond := Cond.code yX9_does cX9_does 5 (some .int) :: BIG
theorem gX9_does {own : String} {idx : Nat} (h : (Cond.methodLink own idx yX9_does) ∈ BIG) : GoodIn BIG (wsV own idx RX9 yX9_does vX9_does) := gdV h bw5_12 bs49 bw1_11 bw5_13
def rmX9_does : Room := { frames := 4, cells := 0, slots := 0, locals := 95 }
theorem hdX9_does : yX9_does.cls = RX9 ∧ yX9_does.cls ≠ "java/lang/invoke/MethodHandle" ∧ yX9_does.cls ≠ "java/lang/invoke/VarHandle" ∧ (parseMethodDescriptor yX9_does.desc).map (fun d => d.parameters.length) = some 0 := by decide +kernel
set_option maxHeartbeats 4000000 in
set_option maxRecDepth 100000 in
theorem kX9_does (l : Launch) (D : va_G) (cS : ClassId) (g : Nat → Nat) (cI : ClassId) (b : Nat → Nat) (M : Md) (r : Int32) (M' : Md) (hF : fX9_does M = some (r, M')) : mI l yX9_does vX9_does rmX9_does D cI cS g [.ref (b 0)] (wMd cI b M) r (wMd cI b (M')) := by
  refine st_I rfl (by decide) (Nat.le_of_ble_eq_true rfl) ?_
  intro p e s m args below meth c A ls hx hb hr hml hlocks hown hts hA hK hD0 hG hP hS hl
  have hown : s.vm.findClass RX9 = some m.cls := hown
  have hDa : ∀ M, va_D A (wMd cI b M) := fun M => hD0.adr rfl
  have htb : ∀ w ∈ BIG, w.before args s = true := fun w h => hts w (List.mem_cons_of_mem _ h)
  have hl : lv_has ls 5 [(0, .ref (b 0))] := hl
  have j110 : ∀ (M : Md) (s1 : Int32) (s2 : Int32) (s3 : Int32) (s4 : Int32) (H : Heap) (locs : List Loc) (ls : Array Slot), fX9_does_j110 M s1 s2 s3 s4 = some (r, M') → va_P D vwCl (wMd cI b M) H → va_S A s.heap H locs → lv_has ls 5 [] → W p l e rmX9_does s m args below meth c H locs 0 0 (MQ below (qI D r (wMd cI b (M')) A) args s 0 0 A) (F0 m 110 ls [.int s4, .int s3, .int s2, .int s1, .ref (b 0)]) := by
    intro M s1 s2 s3 s4 H locs ls hF hP hS hl
    obtain ⟨r14, M13, hM13, hF⟩ := b2_use hF
    refine cl_VI ⟨hx, hb, hml, hown, htb⟩ (kX9_doBook l D cS g cI b M s1 s2 s3 s4 _ _ hM13) (cwV 4 htb (gX9_doBook bw4_106) rfl rfl rfl hdX9_doBook ⟨Nat.le_of_ble_eq_true rfl, Nat.le_of_ble_eq_true rfl⟩) hK (hDa _) hG hA hP hS (sg_Md_Md cI b M M13) hl.1 rfl 0 (pMd_0 _ _ _) rfl rfl (Nat.le_of_ble_eq_true rfl) dX9_does_110 (fun H locs hP hS => ?_)
    obtain ⟨er, eM⟩ := pr_use hF
    exact rt_I hx hb hr hlocks hS (by rw [← eM]; exact hP) er dX9_does_113
  have j89 : ∀ (M : Md) (x1 : Int32) (x2 : Int32) (x3 : Int32) (x4 : Int32) (H : Heap) (locs : List Loc) (ls : Array Slot), fX9_does_j89 M x1 x2 x3 x4 = some (r, M') → va_P D vwCl (wMd cI b M) H → va_S A s.heap H locs → lv_has ls 5 [(0, .ref (b 0)), (1, .int x1), (2, .int x2), (3, .int x3), (4, .int x4)] → W p l e rmX9_does s m args below meth c H locs 0 0 (MQ below (qI D r (wMd cI b (M')) A) args s 0 0 A) (F0 m 89 ls []) := by
    intro M x1 x2 x3 x4 H locs ls hF hP hS hl
    refine lv_aload_n hx hb dX9_does_89 rfl (lv_at hl 0 rfl) ?_
    refine lv_iload_n hx hb dX9_does_90 rfl (lv_at hl 1 rfl) ?_
    refine lv_iload_n hx hb dX9_does_91 rfl (lv_at hl 2 rfl) ?_
    refine lv_iload_n hx hb dX9_does_92 rfl (lv_at hl 3 rfl) ?_
    refine lv_aload_n hx hb dX9_does_93 rfl (lv_at hl 0 rfl) ?_
    refine va_get (ci := 9) (v := .long (M.2.2.2.2.2.2.2.2.1)) (C := RX9) (T := TX9) (N := 10) hx hb htb kin9 hown hK hP 0 (pMd_0 cI b M) rfl 8 (by decide) (htb _ bw4_33) (fun _ h9 => h9) rfl dX9_does_94 ?_
    refine lv_ldc2 hx hb hown (htb _ bw4_236) dX9_does_97 ?_
    refine W.lcmp hx hb dX9_does_100 ?_
    refine lv_topi (fun v11 ev11 => ?_)
    have hF := nm_use hF ev11
    refine lv_if_ne (tgt := 109) hx hb dX9_does_101 (by decide) (fun c12 => ?_) (fun c12 => ?_)
    · have hF := it_f hF c12
      refine lv_iconst (v := (-1)) hx hb dX9_does_109 (by decide) ?_
      exact j110 M x1 x2 x3 (-1) _ _ _ hF hP hS (lv_sub hl [] rfl)
    · have hF := it_t hF c12
      refine lv_iload hx hb dX9_does_104 (lv_at hl 4 rfl) ?_
      refine lv_goto (tgt := 110) hx hb dX9_does_106 (by decide) ?_
      exact j110 M x1 x2 x3 x4 _ _ _ hF hP hS (lv_sub hl [] rfl)
  have j162 : ∀ (M : Md) (s0 : Int32) (H : Heap) (locs : List Loc) (ls : Array Slot), fX9_does_j162 M s0 = some (r, M') → va_P D vwCl (wMd cI b M) H → va_S A s.heap H locs → lv_has ls 5 [] → W p l e rmX9_does s m args below meth c H locs 0 0 (MQ below (qI D r (wMd cI b (M')) A) args s 0 0 A) (F0 m 162 ls [.int s0]) := by
    intro M s0 H locs ls hF hP hS hl
    obtain ⟨er, eM⟩ := pr_use hF
    exact rt_I hx hb hr hlocks hS (by rw [← eM]; exact hP) er dX9_does_162
  refine lv_aload_n hx hb dX9_does_0 rfl (lv_at hl 0 rfl) ?_
  refine va_get (ci := 9) (v := .ref (b 5)) (C := RX9) (T := TX9) (N := 10) hx hb htb kin9 hown hK hP 0 (pMd_0 cI b M) rfl 9 (by decide) (htb _ bw4_34) (fun _ h9 => h9) rfl dX9_does_1 ?_
  refine lv_iconst (v := 0) hx hb dX9_does_4 (by decide) ?_
  obtain ⟨hi, hF⟩ := rd_use hF
  refine va_iald hx hb hK hP 5 0 (pMd_5 cI b M) rfl hi dX9_does_5 ?_
  refine lv_topi (fun v1 ev1 => ?_)
  have hF := hF v1 ev1
  refine lv_istore_n (lv' := [(1, .int v1), (0, .ref (b 0))]) hx hb dX9_does_6 rfl hl (by decide) rfl (fun ls hl => ?_)
  refine lv_aload_n hx hb dX9_does_7 rfl (lv_at hl 1 rfl) ?_
  refine va_get (ci := 9) (v := .ref (b 5)) (C := RX9) (T := TX9) (N := 10) hx hb htb kin9 hown hK hP 0 (pMd_0 cI b M) rfl 9 (by decide) (htb _ bw4_34) (fun _ h9 => h9) rfl dX9_does_8 ?_
  refine lv_iconst (v := 1) hx hb dX9_does_11 (by decide) ?_
  obtain ⟨hi, hF⟩ := rd_use hF
  refine va_iald hx hb hK hP 5 0 (pMd_5 cI b M) rfl hi dX9_does_12 ?_
  refine lv_topi (fun v2 ev2 => ?_)
  have hF := hF v2 ev2
  refine lv_istore_n (lv' := [(2, .int v2), (1, .int v1), (0, .ref (b 0))]) hx hb dX9_does_13 rfl hl (by decide) rfl (fun ls hl => ?_)
  refine lv_aload_n hx hb dX9_does_14 rfl (lv_at hl 2 rfl) ?_
  refine va_get (ci := 9) (v := .ref (b 5)) (C := RX9) (T := TX9) (N := 10) hx hb htb kin9 hown hK hP 0 (pMd_0 cI b M) rfl 9 (by decide) (htb _ bw4_34) (fun _ h9 => h9) rfl dX9_does_15 ?_
  refine lv_iconst (v := 2) hx hb dX9_does_18 (by decide) ?_
  obtain ⟨hi, hF⟩ := rd_use hF
  refine va_iald hx hb hK hP 5 0 (pMd_5 cI b M) rfl hi dX9_does_19 ?_
  refine lv_topi (fun v3 ev3 => ?_)
  have hF := hF v3 ev3
  refine lv_istore_n (lv' := [(3, .int v3), (2, .int v2), (1, .int v1), (0, .ref (b 0))]) hx hb dX9_does_20 rfl hl (by decide) rfl (fun ls hl => ?_)
  refine lv_aload_n hx hb dX9_does_21 rfl (lv_at hl 3 rfl) ?_
  refine va_get (ci := 9) (v := .ref (b 5)) (C := RX9) (T := TX9) (N := 10) hx hb htb kin9 hown hK hP 0 (pMd_0 cI b M) rfl 9 (by decide) (htb _ bw4_34) (fun _ h9 => h9) rfl dX9_does_22 ?_
  refine lv_iconst (v := 3) hx hb dX9_does_25 (by decide) ?_
  obtain ⟨hi, hF⟩ := rd_use hF
  refine va_iald hx hb hK hP 5 0 (pMd_5 cI b M) rfl hi dX9_does_26 ?_
  refine lv_topi (fun v4 ev4 => ?_)
  have hF := hF v4 ev4
  refine lv_istore (lv' := [(4, .int v4), (3, .int v3), (2, .int v2), (1, .int v1), (0, .ref (b 0))]) hx hb dX9_does_27 hl (by decide) rfl (fun ls hl => ?_)
  refine lv_aload_n hx hb dX9_does_29 rfl (lv_at hl 4 rfl) ?_
  refine va_get (ci := 9) (v := .long (M.2.2.2.2.2.2.2.2.1)) (C := RX9) (T := TX9) (N := 10) hx hb htb kin9 hown hK hP 0 (pMd_0 cI b M) rfl 8 (by decide) (htb _ bw4_33) (fun _ h9 => h9) rfl dX9_does_30 ?_
  refine lv_ldc2 hx hb hown (htb _ bw4_235) dX9_does_33 ?_
  refine W.lcmp hx hb dX9_does_36 ?_
  refine lv_topi (fun v5 ev5 => ?_)
  have hF := nm_use hF ev5
  refine lv_if_ne (tgt := 50) hx hb dX9_does_37 (by decide) (fun c6 => ?_) (fun c6 => ?_)
  · have hF := it_f hF c6
    refine lv_aload_n hx hb dX9_does_50 rfl (lv_at hl 4 rfl) ?_
    refine va_get (ci := 9) (v := .long (M.2.2.2.2.2.2.2.2.1)) (C := RX9) (T := TX9) (N := 10) hx hb htb kin9 hown hK hP 0 (pMd_0 cI b M) rfl 8 (by decide) (htb _ bw4_33) (fun _ h9 => h9) rfl dX9_does_51 ?_
    refine lv_ldc2 hx hb hown (htb _ bw5_0) dX9_does_54 ?_
    refine W.lcmp hx hb dX9_does_57 ?_
    refine lv_topi (fun v7 ev7 => ?_)
    have hF := nm_use hF ev7
    refine lv_if_ne (tgt := 67) hx hb dX9_does_58 (by decide) (fun c8 => ?_) (fun c8 => ?_)
    · have hF := it_f hF c8
      refine lv_aload_n hx hb dX9_does_67 rfl (lv_at hl 4 rfl) ?_
      refine va_get (ci := 9) (v := .long (M.2.2.2.2.2.2.2.2.1)) (C := RX9) (T := TX9) (N := 10) hx hb htb kin9 hown hK hP 0 (pMd_0 cI b M) rfl 8 (by decide) (htb _ bw4_33) (fun _ h9 => h9) rfl dX9_does_68 ?_
      refine lv_ldc2 hx hb hown (htb _ bw4_238) dX9_does_71 ?_
      refine W.lcmp hx hb dX9_does_74 ?_
      refine lv_topi (fun v9 ev9 => ?_)
      have hF := nm_use hF ev9
      refine lv_if_eq (tgt := 89) hx hb dX9_does_75 (by decide) (fun c10 => ?_) (fun c10 => ?_)
      · have hF := it_t hF c10
        exact j89 M v1 v2 v3 v4 _ _ _ hF hP hS (lv_sub hl [4, 3, 2, 1, 0] rfl)
      · have hF := it_f hF c10
        refine lv_aload_n hx hb dX9_does_78 rfl (lv_at hl 4 rfl) ?_
        refine va_get (ci := 9) (v := .long (M.2.2.2.2.2.2.2.2.1)) (C := RX9) (T := TX9) (N := 10) hx hb htb kin9 hown hK hP 0 (pMd_0 cI b M) rfl 8 (by decide) (htb _ bw4_33) (fun _ h9 => h9) rfl dX9_does_79 ?_
        refine lv_ldc2 hx hb hown (htb _ bw4_236) dX9_does_82 ?_
        refine W.lcmp hx hb dX9_does_85 ?_
        refine lv_topi (fun v15 ev15 => ?_)
        have hF := nm_use hF ev15
        refine lv_if_ne (tgt := 114) hx hb dX9_does_86 (by decide) (fun c16 => ?_) (fun c16 => ?_)
        · have hF := it_f hF c16
          refine lv_aload_n hx hb dX9_does_114 rfl (lv_at hl 4 rfl) ?_
          refine va_get (ci := 9) (v := .long (M.2.2.2.2.2.2.2.2.1)) (C := RX9) (T := TX9) (N := 10) hx hb htb kin9 hown hK hP 0 (pMd_0 cI b M) rfl 8 (by decide) (htb _ bw4_33) (fun _ h9 => h9) rfl dX9_does_115 ?_
          refine lv_ldc2 hx hb hown (htb _ bw4_237) dX9_does_118 ?_
          refine W.lcmp hx hb dX9_does_121 ?_
          refine lv_topi (fun v17 ev17 => ?_)
          have hF := nm_use hF ev17
          refine lv_if_ne (tgt := 137) hx hb dX9_does_122 (by decide) (fun c18 => ?_) (fun c18 => ?_)
          · have hF := it_f hF c18
            refine lv_aload_n hx hb dX9_does_137 rfl (lv_at hl 4 rfl) ?_
            refine va_get (ci := 9) (v := .long (M.2.2.2.2.2.2.2.2.1)) (C := RX9) (T := TX9) (N := 10) hx hb htb kin9 hown hK hP 0 (pMd_0 cI b M) rfl 8 (by decide) (htb _ bw4_33) (fun _ h9 => h9) rfl dX9_does_138 ?_
            refine lv_ldc2 hx hb hown (htb _ bw5_1) dX9_does_141 ?_
            refine W.lcmp hx hb dX9_does_144 ?_
            refine lv_topi (fun v19 ev19 => ?_)
            have hF := nm_use hF ev19
            refine lv_if_ne (tgt := 156) hx hb dX9_does_145 (by decide) (fun c20 => ?_) (fun c20 => ?_)
            · have hF := it_f hF c20
              refine lv_aload_n hx hb dX9_does_156 rfl (lv_at hl 4 rfl) ?_
              refine lv_iload_n hx hb dX9_does_157 rfl (lv_at hl 3 rfl) ?_
              refine lv_iload_n hx hb dX9_does_158 rfl (lv_at hl 2 rfl) ?_
              obtain ⟨r22, M21, hM21, hF⟩ := b2_use hF
              refine cl_VI ⟨hx, hb, hml, hown, htb⟩ (kX9_doJoin l D cS g cI b M v1 v2 _ _ hM21) (cwV 2 htb (gX9_doJoin bw4_172) rfl rfl rfl hdX9_doJoin ⟨Nat.le_of_ble_eq_true rfl, Nat.le_of_ble_eq_true rfl⟩) hK (hDa _) hG hA hP hS (sg_Md_Md cI b M M21) hl.1 rfl 0 (pMd_0 _ _ _) rfl rfl (Nat.le_of_ble_eq_true rfl) dX9_does_159 (fun H locs hP hS => ?_)
              exact j162 M21 r22 _ _ _ hF hP hS (lv_sub hl [] rfl)
            · have hF := it_t hF c20
              refine lv_aload_n hx hb dX9_does_148 rfl (lv_at hl 4 rfl) ?_
              refine lv_iload_n hx hb dX9_does_149 rfl (lv_at hl 3 rfl) ?_
              obtain ⟨r24, M23, hM23, hF⟩ := b2_use hF
              refine cl_VI ⟨hx, hb, hml, hown, htb⟩ (kX9_doDrop l D cS g cI b M v1 _ _ hM23) (cwV 1 htb (gX9_doDrop bw4_141) rfl rfl rfl hdX9_doDrop ⟨Nat.le_of_ble_eq_true rfl, Nat.le_of_ble_eq_true rfl⟩) hK (hDa _) hG hA hP hS (sg_Md_Md cI b M M23) hl.1 rfl 0 (pMd_0 _ _ _) rfl rfl (Nat.le_of_ble_eq_true rfl) dX9_does_150 (fun H locs hP hS => ?_)
              refine lv_goto (tgt := 162) hx hb dX9_does_153 (by decide) ?_
              exact j162 M23 r24 _ _ _ hF hP hS (lv_sub hl [] rfl)
          · have hF := it_t hF c18
            refine lv_aload_n hx hb dX9_does_125 rfl (lv_at hl 4 rfl) ?_
            refine lv_iload_n hx hb dX9_does_126 rfl (lv_at hl 3 rfl) ?_
            refine lv_iload_n hx hb dX9_does_127 rfl (lv_at hl 2 rfl) ?_
            refine lv_iload_n hx hb dX9_does_128 rfl (lv_at hl 1 rfl) ?_
            refine lv_iload hx hb dX9_does_129 (lv_at hl 0 rfl) ?_
            obtain ⟨r26, M25, hM25, hF⟩ := b2_use hF
            refine cl_VI ⟨hx, hb, hml, hown, htb⟩ (kX9_doPlay l D cS g cI b M v1 v2 v3 v4 _ _ hM25) (cwV 4 htb (gX9_doPlay bw4_180) rfl rfl rfl hdX9_doPlay ⟨Nat.le_of_ble_eq_true rfl, Nat.le_of_ble_eq_true rfl⟩) hK (hDa _) hG hA hP hS (sg_Md_Md cI b M M25) hl.1 rfl 0 (pMd_0 _ _ _) rfl rfl (Nat.le_of_ble_eq_true rfl) dX9_does_131 (fun H locs hP hS => ?_)
            refine lv_goto (tgt := 162) hx hb dX9_does_134 (by decide) ?_
            exact j162 M25 r26 _ _ _ hF hP hS (lv_sub hl [] rfl)
        · have hF := it_t hF c16
          exact j89 M v1 v2 v3 v4 _ _ _ hF hP hS (lv_sub hl [4, 3, 2, 1, 0] rfl)
    · have hF := it_t hF c8
      refine lv_aload_n hx hb dX9_does_61 rfl (lv_at hl 4 rfl) ?_
      refine lv_iload_n hx hb dX9_does_62 rfl (lv_at hl 3 rfl) ?_
      obtain ⟨r28, M27, hM27, hF⟩ := b2_use hF
      refine cl_VI ⟨hx, hb, hml, hown, htb⟩ (kX9_doGift l D cS g cI b M v1 _ _ hM27) (cwV 1 htb (gX9_doGift bw4_98) rfl rfl rfl hdX9_doGift ⟨Nat.le_of_ble_eq_true rfl, Nat.le_of_ble_eq_true rfl⟩) hK (hDa _) hG hA hP hS (sg_Md_Md cI b M M27) hl.1 rfl 0 (pMd_0 _ _ _) rfl rfl (Nat.le_of_ble_eq_true rfl) dX9_does_63 (fun H locs hP hS => ?_)
      obtain ⟨er, eM⟩ := pr_use hF
      exact rt_I hx hb hr hlocks hS (by rw [← eM]; exact hP) er dX9_does_66
  · have hF := it_t hF c6
    refine lv_aload_n hx hb dX9_does_40 rfl (lv_at hl 4 rfl) ?_
    refine lv_iload_n hx hb dX9_does_41 rfl (lv_at hl 3 rfl) ?_
    refine lv_iload_n hx hb dX9_does_42 rfl (lv_at hl 2 rfl) ?_
    refine lv_iload_n hx hb dX9_does_43 rfl (lv_at hl 1 rfl) ?_
    refine lv_iload hx hb dX9_does_44 (lv_at hl 0 rfl) ?_
    obtain ⟨r30, M29, hM29, hF⟩ := b2_use hF
    refine cl_VI ⟨hx, hb, hml, hown, htb⟩ (kX9_doRoom l D cS g cI b M v1 v2 v3 v4 _ _ hM29) (cwV 4 htb (gX9_doRoom bw4_64) rfl rfl rfl hdX9_doRoom ⟨Nat.le_of_ble_eq_true rfl, Nat.le_of_ble_eq_true rfl⟩) hK (hDa _) hG hA hP hS (sg_Md_Md cI b M M29) hl.1 rfl 0 (pMd_0 _ _ _) rfl rfl (Nat.le_of_ble_eq_true rfl) dX9_does_46 (fun H locs hP hS => ?_)
    obtain ⟨er, eM⟩ := pr_use hF
    exact rt_I hx hb hr hlocks hS (by rw [← eM]; exact hP) er dX9_does_49
noncomputable def fX9_isDone_l24  (x1 : Int32) (x2 : Int32) (kk : Md → Option (Int32 × Md)) : Nat → Md → Int32 → Option (Int32 × Md) := fun fu => Nat.rec (motive := fun _ => Md → Int32 → Option (Int32 × Md)) (fun _ _ => none) (fun _ ih => fun M x3 => if x2 ≤ x3 then (kk M) else (b2 (fX9_isNumber M x3) fun r8 M7 => if r8 = 0 then (Zb 0 (some (0, M7))) else (nm (x3 + 1) fun v10 => ih M7 v10))) fu
theorem fX9_isDone_l24_s  (x1 : Int32) (x2 : Int32) (kk : Md → Option (Int32 × Md)) (fu : Nat) (M : Md) (x3 : Int32) : fX9_isDone_l24 x1 x2 kk (fu + 1) M x3 = (if x2 ≤ x3 then (kk M) else (b2 (fX9_isNumber M x3) fun r8 M7 => if r8 = 0 then (Zb 0 (some (0, M7))) else (nm (x3 + 1) fun v10 => (fX9_isDone_l24 x1 x2 kk fu) M7 v10))) := rfl
theorem fX9_isDone_l24_z  (x1 : Int32) (x2 : Int32) (kk : Md → Option (Int32 × Md)) (M : Md) (x3 : Int32) : fX9_isDone_l24 x1 x2 kk 0 M x3 = none := rfl
noncomputable def fX9_isDone_j71  (M : Md) (s0 : Int32) : Option (Int32 × Md) := Zb s0 (some (s0, M))
noncomputable def fX9_isDone  (M : Md) : Option (Int32 × Md) := b2 (fX9_isWord M) fun r2 M1 => if r2 = 0 then (Zb 0 (some (0, M1))) else (nm (M1.2.2.2.2.2.2.2.1) fun v4 => (fX9_manyOf (M1.2.2.2.2.2.2.2.2.1)).bind fun r5 => fX9_isDone_l24 v4 r5 (fun M11 => b2 (fX9_isStop M11) fun r13 M12 => if r13 = 0 then (Zb 0 (some (0, M12))) else (nm ((M12.1, M12.2.1, M12.2.2.1, M12.2.2.2.1, M12.2.2.2.2.1, M12.2.2.2.2.2.1, M12.2.2.2.2.2.2.1, v4, M12.2.2.2.2.2.2.2.2)) fun M15 => b2 (fX9_does M15) fun r17 M16 => if r17 < 0 then (fX9_isDone_j71 M16 0) else (fX9_isDone_j71 M16 1))) FU M1 0)
abbrev vX9_isDone : List Cond := Cond.code yX9_isDone cX9_isDone 4 (some .boolean) :: BIG
theorem gX9_isDone {own : String} {idx : Nat} (h : (Cond.methodLink own idx yX9_isDone) ∈ BIG) : GoodIn BIG (wsV own idx RX9 yX9_isDone vX9_isDone) := gdV h bw4_226 bs45 bw1_11 bw4_227
def rmX9_isDone : Room := { frames := 5, cells := 0, slots := 0, locals := 119 }
theorem hdX9_isDone : yX9_isDone.cls = RX9 ∧ yX9_isDone.cls ≠ "java/lang/invoke/MethodHandle" ∧ yX9_isDone.cls ≠ "java/lang/invoke/VarHandle" ∧ (parseMethodDescriptor yX9_isDone.desc).map (fun d => d.parameters.length) = some 0 := by decide +kernel
set_option maxHeartbeats 4000000 in
set_option maxRecDepth 100000 in
theorem kX9_isDone (l : Launch) (D : va_G) (cS : ClassId) (g : Nat → Nat) (cI : ClassId) (b : Nat → Nat) (M : Md) (r : Int32) (M' : Md) (hF : fX9_isDone M = some (r, M')) : mI l yX9_isDone vX9_isDone rmX9_isDone D cI cS g [.ref (b 0)] (wMd cI b M) r (wMd cI b (M')) := by
  refine st_I rfl (by decide) (Nat.le_of_ble_eq_true rfl) ?_
  intro p e s m args below meth c A ls hx hb hr hml hlocks hown hts hA hK hD0 hG hP hS hl
  have hown : s.vm.findClass RX9 = some m.cls := hown
  have hDa : ∀ M, va_D A (wMd cI b M) := fun M => hD0.adr rfl
  have htb : ∀ w ∈ BIG, w.before args s = true := fun w h => hts w (List.mem_cons_of_mem _ h)
  have hl : lv_has ls 4 [(0, .ref (b 0))] := hl
  have l24 : ∀ (x1 : Int32) (x2 : Int32) (kk : Md → Option (Int32 × Md)) (fu : Nat) (M : Md) (x3 : Int32) (H : Heap) (locs : List Loc) (ls : Array Slot), fX9_isDone_l24 x1 x2 kk fu M x3 = some (r, M') → va_P D vwCl (wMd cI b M) H → va_S A s.heap H locs → lv_has ls 4 [(0, .ref (b 0)), (1, .int x1), (2, .int x2), (3, .int x3)] → (∀ (M : Md) (H : Heap) (locs : List Loc) (ls : Array Slot), kk M = some (r, M') → va_P D vwCl (wMd cI b M) H → va_S A s.heap H locs → lv_has ls 4 [(0, .ref (b 0)), (1, .int x1)] → W p l e rmX9_isDone s m args below meth c H locs 0 0 (MQ below (qI D r (wMd cI b (M')) A) args s 0 0 A) (F0 m 45 ls [])) → W p l e rmX9_isDone s m args below meth c H locs 0 0 (MQ below (qI D r (wMd cI b (M')) A) args s 0 0 A) (F0 m 24 ls []) := by
    intro x1 x2 kk fu
    induction fu with
    | zero => intro M x3 H locs ls hF; exact nn_use hF
    | succ fu ihn =>
      intro M x3 H locs ls hF hP hS hl after
      rw [fX9_isDone_l24_s] at hF
      refine lv_iload_n hx hb dX9_isDone_24 rfl (lv_at hl 3 rfl) ?_
      refine lv_iload_n hx hb dX9_isDone_25 rfl (lv_at hl 2 rfl) ?_
      refine lv_icmp_ge (tgt := 45) hx hb dX9_isDone_26 (by decide) (fun c6 => ?_) (fun c6 => ?_)
      · have hF := it_t hF c6
        exact after M _ _ _ hF hP hS (lv_sub hl [0, 1] rfl)
      · have hF := it_f hF c6
        refine lv_aload_n hx hb dX9_isDone_29 rfl (lv_at hl 0 rfl) ?_
        refine lv_iload_n hx hb dX9_isDone_30 rfl (lv_at hl 3 rfl) ?_
        obtain ⟨r8, M7, hM7, hF⟩ := b2_use hF
        refine cl_VI ⟨hx, hb, hml, hown, htb⟩ (kX9_isNumber l D cS g cI b M x3 _ _ hM7) (cwV 1 htb (gX9_isNumber bw5_2) rfl rfl rfl hdX9_isNumber ⟨Nat.le_of_ble_eq_true rfl, Nat.le_of_ble_eq_true rfl⟩) hK (hDa _) hG hA hP hS (sg_Md_Md cI b M M7) hl.1 rfl 0 (pMd_0 _ _ _) rfl rfl (Nat.le_of_ble_eq_true rfl) dX9_isDone_31 (fun H locs hP hS => ?_)
        refine lv_if_ne (tgt := 39) hx hb dX9_isDone_34 (by decide) (fun c9 => ?_) (fun c9 => ?_)
        · have hF := it_f hF c9
          obtain ⟨v10, ev10⟩ : ∃ z : Int32, z = x3 + 1 := ⟨_, rfl⟩
          refine lv_iinc (v := v10) (lv' := [(3, .int v10), (0, .ref (b 0)), (1, .int x1), (2, .int x2)]) hx hb dX9_isDone_39 hl (k := 3) rfl (by rw [ev10]; rfl) (by decide) rfl (fun ls hl => ?_)
          have hF := nm_use hF ev10
          refine lv_goto (tgt := 24) hx hb dX9_isDone_42 (by decide) ?_
          exact ihn M7 v10 _ _ _ hF hP hS (lv_sub hl [1, 2, 3, 0] rfl) after
        · have hF := it_t hF c9
          refine lv_iconst (v := 0) hx hb dX9_isDone_37 (by decide) ?_
          obtain ⟨hz, hF⟩ := zb_use hF
          obtain ⟨er, eM⟩ := pr_use hF
          exact rt_Z hx hb hr hlocks hS (by rw [← eM]; exact hP) hz er dX9_isDone_38
  have j71 : ∀ (M : Md) (s0 : Int32) (H : Heap) (locs : List Loc) (ls : Array Slot), fX9_isDone_j71 M s0 = some (r, M') → va_P D vwCl (wMd cI b M) H → va_S A s.heap H locs → lv_has ls 4 [] → W p l e rmX9_isDone s m args below meth c H locs 0 0 (MQ below (qI D r (wMd cI b (M')) A) args s 0 0 A) (F0 m 71 ls [.int s0]) := by
    intro M s0 H locs ls hF hP hS hl
    obtain ⟨hz, hF⟩ := zb_use hF
    obtain ⟨er, eM⟩ := pr_use hF
    exact rt_Z hx hb hr hlocks hS (by rw [← eM]; exact hP) hz er dX9_isDone_71
  refine lv_aload_n hx hb dX9_isDone_0 rfl (lv_at hl 0 rfl) ?_
  obtain ⟨r2, M1, hM1, hF⟩ := b2_use hF
  refine cl_VI ⟨hx, hb, hml, hown, htb⟩ (kX9_isWord l D cS g cI b M  _ _ hM1) (cwV 0 htb (gX9_isWord bw4_228) rfl rfl rfl hdX9_isWord ⟨Nat.le_of_ble_eq_true rfl, Nat.le_of_ble_eq_true rfl⟩) hK (hDa _) hG hA hP hS (sg_Md_Md cI b M M1) hl.1 rfl 0 (pMd_0 _ _ _) rfl rfl (Nat.le_of_ble_eq_true rfl) dX9_isDone_1 (fun H locs hP hS => ?_)
  refine lv_if_ne (tgt := 9) hx hb dX9_isDone_4 (by decide) (fun c3 => ?_) (fun c3 => ?_)
  · have hF := it_f hF c3
    refine lv_aload_n hx hb dX9_isDone_9 rfl (lv_at hl 0 rfl) ?_
    refine va_get (ci := 9) (v := .int (M1.2.2.2.2.2.2.2.1)) (C := RX9) (T := TX9) (N := 10) hx hb htb kin9 hown hK hP 0 (pMd_0 cI b M1) rfl 7 (by decide) (htb _ bw4_32) (fun _ h9 => h9) rfl dX9_isDone_10 ?_
    refine lv_topi (fun v4 ev4 => ?_)
    have hF := nm_use hF ev4
    refine lv_istore_n (lv' := [(1, .int v4), (0, .ref (b 0))]) hx hb dX9_isDone_13 rfl hl (by decide) rfl (fun ls hl => ?_)
    refine lv_aload_n hx hb dX9_isDone_14 rfl (lv_at hl 1 rfl) ?_
    refine va_get (ci := 9) (v := .long (M1.2.2.2.2.2.2.2.2.1)) (C := RX9) (T := TX9) (N := 10) hx hb htb kin9 hown hK hP 0 (pMd_0 cI b M1) rfl 8 (by decide) (htb _ bw4_33) (fun _ h9 => h9) rfl dX9_isDone_15 ?_
    obtain ⟨r5, hr5, hF⟩ := bd_use hF
    refine cl_SI ⟨hx, hb, hml, hown, htb⟩ (kX9_manyOf l D cS g cI (M1.2.2.2.2.2.2.2.2.1) _ hr5) (va_cwS 1 htb (gX9_manyOf bw4_232) rfl rfl rfl hdX9_manyOf ⟨Nat.le_of_ble_eq_true rfl, Nat.le_of_ble_eq_true rfl⟩) hK (hDa _) hG hA hP hS sg_nil hl.1 rfl rfl (Nat.le_of_ble_eq_true rfl) dX9_isDone_18 (fun H locs hP hS => ?_)
    refine lv_istore_n (lv' := [(2, .int r5), (1, .int v4), (0, .ref (b 0))]) hx hb dX9_isDone_21 rfl hl (by decide) rfl (fun ls hl => ?_)
    refine lv_iconst (v := 0) hx hb dX9_isDone_22 (by decide) ?_
    refine lv_istore_n (lv' := [(3, .int 0), (2, .int r5), (1, .int v4), (0, .ref (b 0))]) hx hb dX9_isDone_23 rfl hl (by decide) rfl (fun ls hl => ?_)
    refine l24 v4 r5 _ _ M1 0 _ _ _ hF hP hS (lv_sub hl [3, 2, 1, 0] rfl) ?_
    · intro M11 H locs ls hF hP hS hl
      refine lv_aload_n hx hb dX9_isDone_45 rfl (lv_at hl 0 rfl) ?_
      obtain ⟨r13, M12, hM12, hF⟩ := b2_use hF
      refine cl_VI ⟨hx, hb, hml, hown, htb⟩ (kX9_isStop l D cS g cI b M11  _ _ hM12) (cwV 0 htb (gX9_isStop bw5_6) rfl rfl rfl hdX9_isStop ⟨Nat.le_of_ble_eq_true rfl, Nat.le_of_ble_eq_true rfl⟩) hK (hDa _) hG hA hP hS (sg_Md_Md cI b M11 M12) hl.1 rfl 0 (pMd_0 _ _ _) rfl rfl (Nat.le_of_ble_eq_true rfl) dX9_isDone_46 (fun H locs hP hS => ?_)
      refine lv_if_ne (tgt := 54) hx hb dX9_isDone_49 (by decide) (fun c14 => ?_) (fun c14 => ?_)
      · have hF := it_f hF c14
        refine lv_aload_n hx hb dX9_isDone_54 rfl (lv_at hl 0 rfl) ?_
        refine lv_iload_n hx hb dX9_isDone_55 rfl (lv_at hl 1 rfl) ?_
        refine va_put (ci := 9) (v := .int v4) (ty := .int) (C := RX9) (T := TX9) (N := 10) hx hb htb kin9 tyX9 tyX9_ok nmX9 hown hK hP (hDa _) hS 0 (pMd_0 cI b M12) rfl 7 (by decide) (htb _ bw4_32) (fun _ h9 => h9) rfl (by decide +kernel) rfl rfl (Nat.le_of_ble_eq_true rfl) dX9_isDone_56 (fun H locs hP _ hS => ?_)
        obtain ⟨M15, eM15⟩ : ∃ z : Md, z = (M12.1, M12.2.1, M12.2.2.1, M12.2.2.2.1, M12.2.2.2.2.1, M12.2.2.2.2.2.1, M12.2.2.2.2.2.2.1, v4, M12.2.2.2.2.2.2.2.2) := ⟨_, rfl⟩
        have hF := nm_use hF eM15
        have hP : va_P D vwCl (wMd cI b M15) H := by rw [eM15]; exact hP
        refine lv_aload_n hx hb dX9_isDone_59 rfl (lv_at hl 0 rfl) ?_
        obtain ⟨r17, M16, hM16, hF⟩ := b2_use hF
        refine cl_VI ⟨hx, hb, hml, hown, htb⟩ (kX9_does l D cS g cI b M15  _ _ hM16) (cwV 0 htb (gX9_does bw5_10) rfl rfl rfl hdX9_does ⟨Nat.le_of_ble_eq_true rfl, Nat.le_of_ble_eq_true rfl⟩) hK (hDa _) hG hA hP hS (sg_Md_Md cI b M15 M16) hl.1 rfl 0 (pMd_0 _ _ _) rfl rfl (Nat.le_of_ble_eq_true rfl) dX9_isDone_60 (fun H locs hP hS => ?_)
        refine lv_if_lt (tgt := 70) hx hb dX9_isDone_63 (by decide) (fun c18 => ?_) (fun c18 => ?_)
        · have hF := it_t hF c18
          refine lv_iconst (v := 0) hx hb dX9_isDone_70 (by decide) ?_
          exact j71 M16 0 _ _ _ hF hP hS (lv_sub hl [] rfl)
        · have hF := it_f hF c18
          refine lv_iconst (v := 1) hx hb dX9_isDone_66 (by decide) ?_
          refine lv_goto (tgt := 71) hx hb dX9_isDone_67 (by decide) ?_
          exact j71 M16 1 _ _ _ hF hP hS (lv_sub hl [] rfl)
      · have hF := it_t hF c14
        refine lv_iconst (v := 0) hx hb dX9_isDone_52 (by decide) ?_
        obtain ⟨hz, hF⟩ := zb_use hF
        obtain ⟨er, eM⟩ := pr_use hF
        exact rt_Z hx hb hr hlocks hS (by rw [← eM]; exact hP) hz er dX9_isDone_53
  · have hF := it_t hF c3
    refine lv_iconst (v := 0) hx hb dX9_isDone_7 (by decide) ?_
    obtain ⟨hz, hF⟩ := zb_use hF
    obtain ⟨er, eM⟩ := pr_use hF
    exact rt_Z hx hb hr hlocks hS (by rw [← eM]; exact hP) hz er dX9_isDone_8
noncomputable def fX9_run_l15  : Nat → Md → Int32 → Option (Int32 × Md) := fun fu => Nat.rec (motive := fun _ => Md → Int32 → Option (Int32 × Md)) (fun _ _ => none) (fun _ ih => fun M x1 => if (M.2.2.2.2.2.1) ≤ (M.2.2.2.2.2.2.1) then (nm ((M.1, M.2.1, M.2.2.1, M.2.2.2.1, M.2.2.2.2.1, 0, M.2.2.2.2.2.2)) fun M5 => b2 (fX9_ends M5 x1) fun r7 M6 => some (r7, M6)) else (b2 (fX9_isDone M) fun r9 M8 => if r9 = 0 then ((fX9_lets M8).bind fun M13 => some ((-1000) - (M13.2.2.2.2.2.2.2.1), M13)) else (nm (x1 + 1) fun v11 => (fX9_skips M8).bind fun M12 => ih M12 v11))) fu
theorem fX9_run_l15_s  (fu : Nat) (M : Md) (x1 : Int32) : fX9_run_l15  (fu + 1) M x1 = (if (M.2.2.2.2.2.1) ≤ (M.2.2.2.2.2.2.1) then (nm ((M.1, M.2.1, M.2.2.1, M.2.2.2.1, M.2.2.2.2.1, 0, M.2.2.2.2.2.2)) fun M5 => b2 (fX9_ends M5 x1) fun r7 M6 => some (r7, M6)) else (b2 (fX9_isDone M) fun r9 M8 => if r9 = 0 then ((fX9_lets M8).bind fun M13 => some ((-1000) - (M13.2.2.2.2.2.2.2.1), M13)) else (nm (x1 + 1) fun v11 => (fX9_skips M8).bind fun M12 => (fX9_run_l15  fu) M12 v11))) := rfl
theorem fX9_run_l15_z  (M : Md) (x1 : Int32) : fX9_run_l15  0 M x1 = none := rfl
noncomputable def fX9_run  (M : Md) : Option (Int32 × Md) := (fX9_hold M).bind fun M1 => nm ((M1.1, M1.2.1, M1.2.2.1, M1.2.2.2.1, M1.2.2.2.2.1, M1.2.2.2.2.2.1, 0, M1.2.2.2.2.2.2.2)) fun M2 => (fX9_skips M2).bind fun M3 => fX9_run_l15 FU M3 0
abbrev vX9_run : List Cond := Cond.code yX9_run cX9_run 2 (some .int) :: BIG
theorem gX9_run {own : String} {idx : Nat} (h : (Cond.methodLink own idx yX9_run) ∈ BIG) : GoodIn BIG (wsV own idx RX9 yX9_run vX9_run) := gdV h bw4_213 bw4_214 bw1_11 bw4_215
def rmX9_run : Room := { frames := 6, cells := 0, slots := 0, locals := 142 }
theorem hdX9_run : yX9_run.cls = RX9 ∧ yX9_run.cls ≠ "java/lang/invoke/MethodHandle" ∧ yX9_run.cls ≠ "java/lang/invoke/VarHandle" ∧ (parseMethodDescriptor yX9_run.desc).map (fun d => d.parameters.length) = some 0 := by decide +kernel
set_option maxHeartbeats 4000000 in
set_option maxRecDepth 100000 in
theorem kX9_run (l : Launch) (D : va_G) (cS : ClassId) (g : Nat → Nat) (cI : ClassId) (b : Nat → Nat) (M : Md) (r : Int32) (M' : Md) (hF : fX9_run M = some (r, M')) : mI l yX9_run vX9_run rmX9_run D cI cS g [.ref (b 0)] (wMd cI b M) r (wMd cI b (M')) := by
  refine st_I rfl (by decide) (Nat.le_of_ble_eq_true rfl) ?_
  intro p e s m args below meth c A ls hx hb hr hml hlocks hown hts hA hK hD0 hG hP hS hl
  have hown : s.vm.findClass RX9 = some m.cls := hown
  have hDa : ∀ M, va_D A (wMd cI b M) := fun M => hD0.adr rfl
  have htb : ∀ w ∈ BIG, w.before args s = true := fun w h => hts w (List.mem_cons_of_mem _ h)
  have hl : lv_has ls 2 [(0, .ref (b 0))] := hl
  have l15 : ∀ (fu : Nat) (M : Md) (x1 : Int32) (H : Heap) (locs : List Loc) (ls : Array Slot), fX9_run_l15  fu M x1 = some (r, M') → va_P D vwCl (wMd cI b M) H → va_S A s.heap H locs → lv_has ls 2 [(0, .ref (b 0)), (1, .int x1)] → W p l e rmX9_run s m args below meth c H locs 0 0 (MQ below (qI D r (wMd cI b (M')) A) args s 0 0 A) (F0 m 15 ls []) := by
    intro  fu
    induction fu with
    | zero => intro M x1 H locs ls hF; exact nn_use hF
    | succ fu ihn =>
      intro M x1 H locs ls hF hP hS hl 
      rw [fX9_run_l15_s] at hF
      refine lv_aload_n hx hb dX9_run_15 rfl (lv_at hl 0 rfl) ?_
      refine va_get (ci := 9) (v := .int (M.2.2.2.2.2.2.1)) (C := RX9) (T := TX9) (N := 10) hx hb htb kin9 hown hK hP 0 (pMd_0 cI b M) rfl 6 (by decide) (htb _ bw4_31) (fun _ h9 => h9) rfl dX9_run_16 ?_
      refine lv_aload_n hx hb dX9_run_19 rfl (lv_at hl 0 rfl) ?_
      refine va_get (ci := 9) (v := .int (M.2.2.2.2.2.1)) (C := RX9) (T := TX9) (N := 10) hx hb htb kin9 hown hK hP 0 (pMd_0 cI b M) rfl 5 (by decide) (htb _ bw4_30) (fun _ h9 => h9) rfl dX9_run_20 ?_
      refine lv_icmp_ge (tgt := 56) hx hb dX9_run_23 (by decide) (fun c4 => ?_) (fun c4 => ?_)
      · have hF := it_t hF c4
        refine lv_aload_n hx hb dX9_run_56 rfl (lv_at hl 0 rfl) ?_
        refine lv_iconst (v := 0) hx hb dX9_run_57 (by decide) ?_
        refine va_put (ci := 9) (v := .int 0) (ty := .int) (C := RX9) (T := TX9) (N := 10) hx hb htb kin9 tyX9 tyX9_ok nmX9 hown hK hP (hDa _) hS 0 (pMd_0 cI b M) rfl 5 (by decide) (htb _ bw4_30) (fun _ h9 => h9) rfl (by decide +kernel) rfl rfl (Nat.le_of_ble_eq_true rfl) dX9_run_58 (fun H locs hP _ hS => ?_)
        obtain ⟨M5, eM5⟩ : ∃ z : Md, z = (M.1, M.2.1, M.2.2.1, M.2.2.2.1, M.2.2.2.2.1, 0, M.2.2.2.2.2.2) := ⟨_, rfl⟩
        have hF := nm_use hF eM5
        have hP : va_P D vwCl (wMd cI b M5) H := by rw [eM5]; exact hP
        refine lv_aload_n hx hb dX9_run_61 rfl (lv_at hl 0 rfl) ?_
        refine lv_iload_n hx hb dX9_run_62 rfl (lv_at hl 1 rfl) ?_
        obtain ⟨r7, M6, hM6, hF⟩ := b2_use hF
        refine cl_VI ⟨hx, hb, hml, hown, htb⟩ (kX9_ends l D cS g cI b M5 x1 _ _ hM6) (cwV 1 htb (gX9_ends bw4_71) rfl rfl rfl hdX9_ends ⟨Nat.le_of_ble_eq_true rfl, Nat.le_of_ble_eq_true rfl⟩) hK (hDa _) hG hA hP hS (sg_Md_Md cI b M5 M6) hl.1 rfl 0 (pMd_0 _ _ _) rfl rfl (Nat.le_of_ble_eq_true rfl) dX9_run_63 (fun H locs hP hS => ?_)
        obtain ⟨er, eM⟩ := pr_use hF
        exact rt_I hx hb hr hlocks hS (by rw [← eM]; exact hP) er dX9_run_66
      · have hF := it_f hF c4
        refine lv_aload_n hx hb dX9_run_26 rfl (lv_at hl 0 rfl) ?_
        obtain ⟨r9, M8, hM8, hF⟩ := b2_use hF
        refine cl_VI ⟨hx, hb, hml, hown, htb⟩ (kX9_isDone l D cS g cI b M  _ _ hM8) (cwV 0 htb (gX9_isDone bw4_224) rfl rfl rfl hdX9_isDone ⟨Nat.le_of_ble_eq_true rfl, Nat.le_of_ble_eq_true rfl⟩) hK (hDa _) hG hA hP hS (sg_Md_Md cI b M M8) hl.1 rfl 0 (pMd_0 _ _ _) rfl rfl (Nat.le_of_ble_eq_true rfl) dX9_run_27 (fun H locs hP hS => ?_)
        refine lv_if_ne (tgt := 46) hx hb dX9_run_30 (by decide) (fun c10 => ?_) (fun c10 => ?_)
        · have hF := it_f hF c10
          obtain ⟨v11, ev11⟩ : ∃ z : Int32, z = x1 + 1 := ⟨_, rfl⟩
          refine lv_iinc (v := v11) (lv' := [(1, .int v11), (0, .ref (b 0))]) hx hb dX9_run_46 hl (k := 1) rfl (by rw [ev11]; rfl) (by decide) rfl (fun ls hl => ?_)
          have hF := nm_use hF ev11
          refine lv_aload_n hx hb dX9_run_49 rfl (lv_at hl 1 rfl) ?_
          obtain ⟨M12, hM12, hF⟩ := bd_use hF
          refine cl_VV ⟨hx, hb, hml, hown, htb⟩ (kX9_skips l D cS g cI b M8  _ hM12) (cwV 0 htb (gX9_skips bw4_216) rfl rfl rfl hdX9_skips ⟨Nat.le_of_ble_eq_true rfl, Nat.le_of_ble_eq_true rfl⟩) hK (hDa _) hG hA hP hS (sg_Md_Md cI b M8 M12) hl.1 rfl 0 (pMd_0 _ _ _) rfl rfl (Nat.le_of_ble_eq_true rfl) dX9_run_50 (fun H locs hP hS => ?_)
          refine lv_goto (tgt := 15) hx hb dX9_run_53 (by decide) ?_
          exact ihn M12 v11 _ _ _ hF hP hS (lv_sub hl [1, 0] rfl)
        · have hF := it_t hF c10
          refine lv_aload_n hx hb dX9_run_33 rfl (lv_at hl 0 rfl) ?_
          obtain ⟨M13, hM13, hF⟩ := bd_use hF
          refine cl_VV ⟨hx, hb, hml, hown, htb⟩ (kX9_lets l D cS g cI b M8  _ hM13) (cwV 0 htb (gX9_lets bw5_14) rfl rfl rfl hdX9_lets ⟨Nat.le_of_ble_eq_true rfl, Nat.le_of_ble_eq_true rfl⟩) hK (hDa _) hG hA hP hS (sg_Md_Md cI b M8 M13) hl.1 rfl 0 (pMd_0 _ _ _) rfl rfl (Nat.le_of_ble_eq_true rfl) dX9_run_34 (fun H locs hP hS => ?_)
          refine lv_sipush (v := (-1000)) hx hb dX9_run_37 (by decide) ?_
          refine lv_aload_n hx hb dX9_run_40 rfl (lv_at hl 0 rfl) ?_
          refine va_get (ci := 9) (v := .int (M13.2.2.2.2.2.2.2.1)) (C := RX9) (T := TX9) (N := 10) hx hb htb kin9 hown hK hP 0 (pMd_0 cI b M13) rfl 7 (by decide) (htb _ bw4_32) (fun _ h9 => h9) rfl dX9_run_41 ?_
          refine lv_isub hx hb dX9_run_44 ?_
          obtain ⟨er, eM⟩ := pr_use hF
          exact rt_I hx hb hr hlocks hS (by rw [← eM]; exact hP) er dX9_run_45
  refine lv_aload_n hx hb dX9_run_0 rfl (lv_at hl 0 rfl) ?_
  obtain ⟨M1, hM1, hF⟩ := bd_use hF
  refine cl_VV ⟨hx, hb, hml, hown, htb⟩ (kX9_hold l D cS g cI b M  _ hM1) (cwV 0 htb (gX9_hold bw4_60) rfl rfl rfl hdX9_hold ⟨Nat.le_of_ble_eq_true rfl, Nat.le_of_ble_eq_true rfl⟩) hK (hDa _) hG hA hP hS (sg_Md_Md cI b M M1) hl.1 rfl 0 (pMd_0 _ _ _) rfl rfl (Nat.le_of_ble_eq_true rfl) dX9_run_1 (fun H locs hP hS => ?_)
  refine lv_aload_n hx hb dX9_run_4 rfl (lv_at hl 0 rfl) ?_
  refine lv_iconst (v := 0) hx hb dX9_run_5 (by decide) ?_
  refine va_put (ci := 9) (v := .int 0) (ty := .int) (C := RX9) (T := TX9) (N := 10) hx hb htb kin9 tyX9 tyX9_ok nmX9 hown hK hP (hDa _) hS 0 (pMd_0 cI b M1) rfl 6 (by decide) (htb _ bw4_31) (fun _ h9 => h9) rfl (by decide +kernel) rfl rfl (Nat.le_of_ble_eq_true rfl) dX9_run_6 (fun H locs hP _ hS => ?_)
  obtain ⟨M2, eM2⟩ : ∃ z : Md, z = (M1.1, M1.2.1, M1.2.2.1, M1.2.2.2.1, M1.2.2.2.2.1, M1.2.2.2.2.2.1, 0, M1.2.2.2.2.2.2.2) := ⟨_, rfl⟩
  have hF := nm_use hF eM2
  have hP : va_P D vwCl (wMd cI b M2) H := by rw [eM2]; exact hP
  refine lv_aload_n hx hb dX9_run_9 rfl (lv_at hl 0 rfl) ?_
  obtain ⟨M3, hM3, hF⟩ := bd_use hF
  refine cl_VV ⟨hx, hb, hml, hown, htb⟩ (kX9_skips l D cS g cI b M2  _ hM3) (cwV 0 htb (gX9_skips bw4_216) rfl rfl rfl hdX9_skips ⟨Nat.le_of_ble_eq_true rfl, Nat.le_of_ble_eq_true rfl⟩) hK (hDa _) hG hA hP hS (sg_Md_Md cI b M2 M3) hl.1 rfl 0 (pMd_0 _ _ _) rfl rfl (Nat.le_of_ble_eq_true rfl) dX9_run_10 (fun H locs hP hS => ?_)
  refine lv_iconst (v := 0) hx hb dX9_run_13 (by decide) ?_
  refine lv_istore_n (lv' := [(1, .int 0), (0, .ref (b 0))]) hx hb dX9_run_14 rfl hl (by decide) rfl (fun ls hl => ?_)
  refine l15   _ M3 0 _ _ _ hF hP hS (lv_sub hl [1, 0] rfl)
noncomputable def fX9_inState_j30  (x1 : Int32) (ih : Int32 → Int32 → Option (Int32)) (M : Md) (x3 : Int32) (s0 : Int32) (s1 : Int32) : Option (Int32) := nm (s0 + s1) fun v5 => nm (x3 + 1) fun v6 => ih v5 v6
noncomputable def fX9_inState_l4  (M : Md) (x1 : Int32) : Nat → Int32 → Int32 → Option (Int32) := fun fu => Nat.rec (motive := fun _ => Int32 → Int32 → Option (Int32)) (fun _ _ => none) (fun _ ih => fun x2 x3 => Rd (M.1) 1553 1 fun v1 => if v1 ≤ x3 then (some x2) else ((fX9_its M x3 3).bind fun r3 => if r3 = x1 then (fX9_inState_j30 x1 ih M x3 x2 1) else (fX9_inState_j30 x1 ih M x3 x2 0))) fu
theorem fX9_inState_l4_s  (M : Md) (x1 : Int32) (fu : Nat) (x2 : Int32) (x3 : Int32) : fX9_inState_l4 M x1 (fu + 1) x2 x3 = (Rd (M.1) 1553 1 fun v1 => if v1 ≤ x3 then (some x2) else ((fX9_its M x3 3).bind fun r3 => if r3 = x1 then (fX9_inState_j30 x1 (fX9_inState_l4 M x1 fu) M x3 x2 1) else (fX9_inState_j30 x1 (fX9_inState_l4 M x1 fu) M x3 x2 0))) := rfl
theorem fX9_inState_l4_z  (M : Md) (x1 : Int32) (x2 : Int32) (x3 : Int32) : fX9_inState_l4 M x1 0 x2 x3 = none := rfl
noncomputable def fX9_inState  (M : Md) (x1 : Int32) : Option (Int32) := fX9_inState_l4 M x1 FU 0 0
abbrev vX9_inState : List Cond := Cond.code yX9_inState cX9_inState 4 (some .int) :: BIG
theorem gX9_inState {own : String} {idx : Nat} (h : (Cond.methodLink own idx yX9_inState) ∈ BIG) : GoodIn BIG (wsV own idx RX9 yX9_inState vX9_inState) := gdV h bw5_24 bs51 bw1_11 bw5_25
def rmX9_inState : Room := { frames := 1, cells := 0, slots := 0, locals := 22 }
theorem hdX9_inState : yX9_inState.cls = RX9 ∧ yX9_inState.cls ≠ "java/lang/invoke/MethodHandle" ∧ yX9_inState.cls ≠ "java/lang/invoke/VarHandle" ∧ (parseMethodDescriptor yX9_inState.desc).map (fun d => d.parameters.length) = some 1 := by decide +kernel
set_option maxHeartbeats 4000000 in
set_option maxRecDepth 100000 in
theorem kX9_inState (l : Launch) (D : va_G) (cS : ClassId) (g : Nat → Nat) (cI : ClassId) (b : Nat → Nat) (M : Md) (x1 : Int32) (r : Int32) (hF : fX9_inState M x1 = some r) : mI l yX9_inState vX9_inState rmX9_inState D cI cS g [.ref (b 0), .int x1] (wMd cI b M) r (wMd cI b M) := by
  refine st_I rfl (by decide) (Nat.le_of_ble_eq_true rfl) ?_
  intro p e s m args below meth c A ls hx hb hr hml hlocks hown hts hA hK hD0 hG hP hS hl
  have hown : s.vm.findClass RX9 = some m.cls := hown
  have hDa : ∀ M, va_D A (wMd cI b M) := fun M => hD0.adr rfl
  have htb : ∀ w ∈ BIG, w.before args s = true := fun w h => hts w (List.mem_cons_of_mem _ h)
  have hl : lv_has ls 4 [(0, .ref (b 0)), (1, .int x1)] := hl
  have l4 : ∀ (x1 : Int32) (fu : Nat) (x2 : Int32) (x3 : Int32) (H : Heap) (locs : List Loc) (ls : Array Slot), fX9_inState_l4 M x1 fu x2 x3 = some r → va_P D vwCl (wMd cI b M) H → va_S A s.heap H locs → lv_has ls 4 [(0, .ref (b 0)), (1, .int x1), (2, .int x2), (3, .int x3)] → W p l e rmX9_inState s m args below meth c H locs 0 0 (MQ below (qI D r (wMd cI b M) A) args s 0 0 A) (F0 m 4 ls []) := by
    intro x1  fu
    induction fu with
    | zero => intro x2 x3 H locs ls hF; exact nn_use hF
    | succ fu ihn =>
      intro x2 x3 H locs ls hF hP hS hl 
      rw [fX9_inState_l4_s] at hF
      have j30 : ∀ (x3 : Int32) (s0 : Int32) (s1 : Int32) (H : Heap) (locs : List Loc) (ls : Array Slot), fX9_inState_j30 x1  (fX9_inState_l4 M x1 fu) M x3 s0 s1 = some r → va_P D vwCl (wMd cI b M) H → va_S A s.heap H locs → lv_has ls 4 [(0, .ref (b 0)), (1, .int x1), (3, .int x3)] → W p l e rmX9_inState s m args below meth c H locs 0 0 (MQ below (qI D r (wMd cI b M) A) args s 0 0 A) (F0 m 30 ls [.int s1, .int s0]) := by
        intro x3 s0 s1 H locs ls hF hP hS hl
        refine lv_iadd hx hb dX9_inState_30 ?_
        refine lv_topi (fun v5 ev5 => ?_)
        have hF := nm_use hF ev5
        refine lv_istore_n (lv' := [(2, .int v5), (0, .ref (b 0)), (1, .int x1), (3, .int x3)]) hx hb dX9_inState_31 rfl hl (by decide) rfl (fun ls hl => ?_)
        obtain ⟨v6, ev6⟩ : ∃ z : Int32, z = x3 + 1 := ⟨_, rfl⟩
        refine lv_iinc (v := v6) (lv' := [(3, .int v6), (2, .int v5), (0, .ref (b 0)), (1, .int x1)]) hx hb dX9_inState_32 hl (k := 3) rfl (by rw [ev6]; rfl) (by decide) rfl (fun ls hl => ?_)
        have hF := nm_use hF ev6
        refine lv_goto (tgt := 4) hx hb dX9_inState_35 (by decide) ?_
        exact ihn v5 v6 _ _ _ hF hP hS (lv_sub hl [2, 3, 1, 0] rfl)
      refine lv_iload_n hx hb dX9_inState_4 rfl (lv_at hl 3 rfl) ?_
      refine lv_aload_n hx hb dX9_inState_5 rfl (lv_at hl 0 rfl) ?_
      refine va_get (ci := 9) (v := .ref (b 1)) (C := RX9) (T := TX9) (N := 10) hx hb htb kin9 hown hK hP 0 (pMd_0 cI b M) rfl 0 (by decide) (htb _ bw4_25) (fun _ h9 => h9) rfl dX9_inState_6 ?_
      refine lv_iconst (v := 1) hx hb dX9_inState_9 (by decide) ?_
      obtain ⟨hi, hF⟩ := rd_use hF
      refine va_iald hx hb hK hP 1 0 (pMd_1 cI b M) rfl hi dX9_inState_10 ?_
      refine lv_topi (fun v1 ev1 => ?_)
      have hF := hF v1 ev1
      refine lv_icmp_ge (tgt := 38) hx hb dX9_inState_11 (by decide) (fun c2 => ?_) (fun c2 => ?_)
      · have hF := it_t hF c2
        refine lv_iload_n hx hb dX9_inState_38 rfl (lv_at hl 2 rfl) ?_
        exact rt_I hx hb hr hlocks hS hP (so_use hF) dX9_inState_39
      · have hF := it_f hF c2
        refine lv_iload_n hx hb dX9_inState_14 rfl (lv_at hl 2 rfl) ?_
        refine lv_aload_n hx hb dX9_inState_15 rfl (lv_at hl 0 rfl) ?_
        refine lv_iload_n hx hb dX9_inState_16 rfl (lv_at hl 3 rfl) ?_
        refine lv_iconst (v := 3) hx hb dX9_inState_17 (by decide) ?_
        obtain ⟨r3, hr3, hF⟩ := bd_use hF
        refine cl_VI ⟨hx, hb, hml, hown, htb⟩ (kX9_its l D cS g cI b M x3 3 _ hr3) (cwV 2 htb (gX9_its bw4_118) rfl rfl rfl hdX9_its ⟨Nat.le_of_ble_eq_true rfl, Nat.le_of_ble_eq_true rfl⟩) hK (hDa _) hG hA hP hS (sr_Md_Md cI b M) hl.1 rfl 0 (pMd_0 _ _ _) rfl rfl (Nat.le_of_ble_eq_true rfl) dX9_inState_18 (fun H locs hP hS => ?_)
        refine lv_iload_n hx hb dX9_inState_21 rfl (lv_at hl 1 rfl) ?_
        refine lv_icmp_ne (tgt := 29) hx hb dX9_inState_22 (by decide) (fun c4 => ?_) (fun c4 => ?_)
        · have hF := it_f hF c4
          refine lv_iconst (v := 0) hx hb dX9_inState_29 (by decide) ?_
          exact j30 x3 x2 0 _ _ _ hF hP hS (lv_sub hl [0, 1, 3] rfl)
        · have hF := it_t hF c4
          refine lv_iconst (v := 1) hx hb dX9_inState_25 (by decide) ?_
          refine lv_goto (tgt := 30) hx hb dX9_inState_26 (by decide) ?_
          exact j30 x3 x2 1 _ _ _ hF hP hS (lv_sub hl [0, 1, 3] rfl)
  refine lv_iconst (v := 0) hx hb dX9_inState_0 (by decide) ?_
  refine lv_istore_n (lv' := [(2, .int 0), (0, .ref (b 0)), (1, .int x1)]) hx hb dX9_inState_1 rfl hl (by decide) rfl (fun ls hl => ?_)
  refine lv_iconst (v := 0) hx hb dX9_inState_2 (by decide) ?_
  refine lv_istore_n (lv' := [(3, .int 0), (2, .int 0), (0, .ref (b 0)), (1, .int x1)]) hx hb dX9_inState_3 rfl hl (by decide) rfl (fun ls hl => ?_)
  refine l4 x1  _ 0 0 _ _ _ hF hP hS (lv_sub hl [2, 3, 1, 0] rfl)
noncomputable def fX9_count_j40  (M : Md) (x1 : Int32) : Option (Int32) := Rd (M.1) 1553 x1 fun v2 => some v2
noncomputable def fX9_count_j123  (M : Md) (s0 : Int32) : Option (Int32) := some s0
noncomputable def fX9_count  (M : Md) (x1 : Int32) : Option (Int32) := if x1 = 0 then (fX9_count_j40 M x1) else (if x1 = 1 then (fX9_count_j40 M x1) else (if x1 = 2 then (fX9_count_j40 M x1) else (if x1 = 3 then (Rd (M.1) 1553 517 fun v6 => Rd (M.1) 1553 1035 fun v7 => some (v6 + v7)) else (if x1 = 4 then (some (M.2.2.2.1)) else (if x1 = 5 then (some (M.2.2.2.2.2.1)) else ((fX9_in x1 6 10).bind fun r10 => if r10 = 0 then ((fX9_in x1 11 14).bind fun r12 => if r12 = 0 then (fX9_count_j123 M (-1)) else ((fX9_inState M (x1 - 11)).bind fun r14 => fX9_count_j123 M r14)) else (Rd (M.1) 1553 ((4 + x1) - 6) fun v15 => fX9_count_j123 M v15)))))))
abbrev vX9_count : List Cond := Cond.code yX9_count cX9_count 2 (some .int) :: BIG
theorem gX9_count {own : String} {idx : Nat} (h : (Cond.methodLink own idx yX9_count) ∈ BIG) : GoodIn BIG (wsV own idx RX9 yX9_count vX9_count) := gdV h bw5_19 bw5_20 bw1_11 bw5_21
def rmX9_count : Room := { frames := 2, cells := 0, slots := 0, locals := 45 }
theorem hdX9_count : yX9_count.cls = RX9 ∧ yX9_count.cls ≠ "java/lang/invoke/MethodHandle" ∧ yX9_count.cls ≠ "java/lang/invoke/VarHandle" ∧ (parseMethodDescriptor yX9_count.desc).map (fun d => d.parameters.length) = some 1 := by decide +kernel
set_option maxHeartbeats 4000000 in
set_option maxRecDepth 100000 in
theorem kX9_count (l : Launch) (D : va_G) (cS : ClassId) (g : Nat → Nat) (cI : ClassId) (b : Nat → Nat) (M : Md) (x1 : Int32) (r : Int32) (hF : fX9_count M x1 = some r) : mI l yX9_count vX9_count rmX9_count D cI cS g [.ref (b 0), .int x1] (wMd cI b M) r (wMd cI b M) := by
  refine st_I rfl (by decide) (Nat.le_of_ble_eq_true rfl) ?_
  intro p e s m args below meth c A ls hx hb hr hml hlocks hown hts hA hK hD0 hG hP hS hl
  have hown : s.vm.findClass RX9 = some m.cls := hown
  have hDa : ∀ M, va_D A (wMd cI b M) := fun M => hD0.adr rfl
  have htb : ∀ w ∈ BIG, w.before args s = true := fun w h => hts w (List.mem_cons_of_mem _ h)
  have hl : lv_has ls 2 [(0, .ref (b 0)), (1, .int x1)] := hl
  have j40 : ∀ (x1 : Int32) (H : Heap) (locs : List Loc) (ls : Array Slot), fX9_count_j40 M x1 = some r → va_P D vwCl (wMd cI b M) H → va_S A s.heap H locs → lv_has ls 2 [(0, .ref (b 0)), (1, .int x1)] → W p l e rmX9_count s m args below meth c H locs 0 0 (MQ below (qI D r (wMd cI b M) A) args s 0 0 A) (F0 m 40 ls []) := by
    intro x1 H locs ls hF hP hS hl
    refine lv_aload_n hx hb dX9_count_40 rfl (lv_at hl 0 rfl) ?_
    refine va_get (ci := 9) (v := .ref (b 1)) (C := RX9) (T := TX9) (N := 10) hx hb htb kin9 hown hK hP 0 (pMd_0 cI b M) rfl 0 (by decide) (htb _ bw4_25) (fun _ h9 => h9) rfl dX9_count_41 ?_
    refine lv_iload_n hx hb dX9_count_44 rfl (lv_at hl 1 rfl) ?_
    obtain ⟨hi, hF⟩ := rd_use hF
    refine va_iald hx hb hK hP 1 0 (pMd_1 cI b M) rfl hi dX9_count_45 ?_
    refine lv_topi (fun v2 ev2 => ?_)
    have hF := hF v2 ev2
    exact rt_I hx hb hr hlocks hS hP (so_use hF) dX9_count_46
  have j123 : ∀ (s0 : Int32) (H : Heap) (locs : List Loc) (ls : Array Slot), fX9_count_j123 M s0 = some r → va_P D vwCl (wMd cI b M) H → va_S A s.heap H locs → lv_has ls 2 [] → W p l e rmX9_count s m args below meth c H locs 0 0 (MQ below (qI D r (wMd cI b M) A) args s 0 0 A) (F0 m 123 ls [.int s0]) := by
    intro s0 H locs ls hF hP hS hl
    exact rt_I hx hb hr hlocks hS hP (so_use hF) dX9_count_123
  refine lv_iload_n hx hb dX9_count_0 rfl (lv_at hl 1 rfl) ?_
  by_cases c1 : x1 = 0
  · have hF := it_t hF c1
    refine lv_tableIn (x := x1) (off := 39) (tgt := 40) hx hb dX9_count_1 (by rw [c1]; decide) (by rw [c1]; decide) (by rw [c1]; rfl) (by decide) ?_
    exact j40 x1 _ _ _ hF hP hS (lv_sub hl [0, 1] rfl)
  · have hF := it_f hF c1
    by_cases c3 : x1 = 1
    · have hF := it_t hF c3
      refine lv_tableIn (x := x1) (off := 39) (tgt := 40) hx hb dX9_count_1 (by rw [c3]; decide) (by rw [c3]; decide) (by rw [c3]; rfl) (by decide) ?_
      exact j40 x1 _ _ _ hF hP hS (lv_sub hl [0, 1] rfl)
    · have hF := it_f hF c3
      by_cases c4 : x1 = 2
      · have hF := it_t hF c4
        refine lv_tableIn (x := x1) (off := 39) (tgt := 40) hx hb dX9_count_1 (by rw [c4]; decide) (by rw [c4]; decide) (by rw [c4]; rfl) (by decide) ?_
        exact j40 x1 _ _ _ hF hP hS (lv_sub hl [0, 1] rfl)
      · have hF := it_f hF c4
        by_cases c5 : x1 = 3
        · have hF := it_t hF c5
          refine lv_tableIn (x := x1) (off := 46) (tgt := 47) hx hb dX9_count_1 (by rw [c5]; decide) (by rw [c5]; decide) (by rw [c5]; rfl) (by decide) ?_
          refine lv_aload_n hx hb dX9_count_47 rfl (lv_at hl 0 rfl) ?_
          refine va_get (ci := 9) (v := .ref (b 1)) (C := RX9) (T := TX9) (N := 10) hx hb htb kin9 hown hK hP 0 (pMd_0 cI b M) rfl 0 (by decide) (htb _ bw4_25) (fun _ h9 => h9) rfl dX9_count_48 ?_
          refine lv_sipush (v := 517) hx hb dX9_count_51 (by decide) ?_
          obtain ⟨hi, hF⟩ := rd_use hF
          refine va_iald hx hb hK hP 1 0 (pMd_1 cI b M) rfl hi dX9_count_54 ?_
          refine lv_topi (fun v6 ev6 => ?_)
          have hF := hF v6 ev6
          refine lv_aload_n hx hb dX9_count_55 rfl (lv_at hl 0 rfl) ?_
          refine va_get (ci := 9) (v := .ref (b 1)) (C := RX9) (T := TX9) (N := 10) hx hb htb kin9 hown hK hP 0 (pMd_0 cI b M) rfl 0 (by decide) (htb _ bw4_25) (fun _ h9 => h9) rfl dX9_count_56 ?_
          refine lv_sipush (v := 1035) hx hb dX9_count_59 (by decide) ?_
          obtain ⟨hi, hF⟩ := rd_use hF
          refine va_iald hx hb hK hP 1 0 (pMd_1 cI b M) rfl hi dX9_count_62 ?_
          refine lv_topi (fun v7 ev7 => ?_)
          have hF := hF v7 ev7
          refine lv_iadd hx hb dX9_count_63 ?_
          exact rt_I hx hb hr hlocks hS hP (so_use hF) dX9_count_64
        · have hF := it_f hF c5
          by_cases c8 : x1 = 4
          · have hF := it_t hF c8
            refine lv_tableIn (x := x1) (off := 64) (tgt := 65) hx hb dX9_count_1 (by rw [c8]; decide) (by rw [c8]; decide) (by rw [c8]; rfl) (by decide) ?_
            refine lv_aload_n hx hb dX9_count_65 rfl (lv_at hl 0 rfl) ?_
            refine va_get (ci := 9) (v := .int (M.2.2.2.1)) (C := RX9) (T := TX9) (N := 10) hx hb htb kin9 hown hK hP 0 (pMd_0 cI b M) rfl 3 (by decide) (htb _ bw4_28) (fun _ h9 => h9) rfl dX9_count_66 ?_
            exact rt_I hx hb hr hlocks hS hP (so_use hF) dX9_count_69
          · have hF := it_f hF c8
            by_cases c9 : x1 = 5
            · have hF := it_t hF c9
              refine lv_tableIn (x := x1) (off := 69) (tgt := 70) hx hb dX9_count_1 (by rw [c9]; decide) (by rw [c9]; decide) (by rw [c9]; rfl) (by decide) ?_
              refine lv_aload_n hx hb dX9_count_70 rfl (lv_at hl 0 rfl) ?_
              refine va_get (ci := 9) (v := .int (M.2.2.2.2.2.1)) (C := RX9) (T := TX9) (N := 10) hx hb htb kin9 hown hK hP 0 (pMd_0 cI b M) rfl 5 (by decide) (htb _ bw4_30) (fun _ h9 => h9) rfl dX9_count_71 ?_
              exact rt_I hx hb hr hlocks hS hP (so_use hF) dX9_count_74
            · have hF := it_f hF c9
              refine lv_tableOut (x := x1) (tgt := 75) hx hb dX9_count_1 (sw_out6 c1 c3 c4 c5 c8 c9) (by decide) ?_
              refine lv_iload_n hx hb dX9_count_75 rfl (lv_at hl 1 rfl) ?_
              refine lv_bipush (v := 6) hx hb dX9_count_76 (by decide) ?_
              refine lv_bipush (v := 10) hx hb dX9_count_78 (by decide) ?_
              obtain ⟨r10, hr10, hF⟩ := bd_use hF
              refine cl_SI ⟨hx, hb, hml, hown, htb⟩ (kX9_in l D cS g cI x1 6 10 _ hr10) (va_cwS 3 htb (gX9_in bw4_68) rfl rfl rfl hdX9_in ⟨Nat.le_of_ble_eq_true rfl, Nat.le_of_ble_eq_true rfl⟩) hK (hDa _) hG hA hP hS sg_nil hl.1 rfl rfl (Nat.le_of_ble_eq_true rfl) dX9_count_80 (fun H locs hP hS => ?_)
              refine lv_if_eq (tgt := 100) hx hb dX9_count_83 (by decide) (fun c11 => ?_) (fun c11 => ?_)
              · have hF := it_t hF c11
                refine lv_iload_n hx hb dX9_count_100 rfl (lv_at hl 1 rfl) ?_
                refine lv_bipush (v := 11) hx hb dX9_count_101 (by decide) ?_
                refine lv_bipush (v := 14) hx hb dX9_count_103 (by decide) ?_
                obtain ⟨r12, hr12, hF⟩ := bd_use hF
                refine cl_SI ⟨hx, hb, hml, hown, htb⟩ (kX9_in l D cS g cI x1 11 14 _ hr12) (va_cwS 3 htb (gX9_in bw4_68) rfl rfl rfl hdX9_in ⟨Nat.le_of_ble_eq_true rfl, Nat.le_of_ble_eq_true rfl⟩) hK (hDa _) hG hA hP hS sg_nil hl.1 rfl rfl (Nat.le_of_ble_eq_true rfl) dX9_count_105 (fun H locs hP hS => ?_)
                refine lv_if_eq (tgt := 122) hx hb dX9_count_108 (by decide) (fun c13 => ?_) (fun c13 => ?_)
                · have hF := it_t hF c13
                  refine lv_iconst (v := (-1)) hx hb dX9_count_122 (by decide) ?_
                  exact j123 (-1) _ _ _ hF hP hS (lv_sub hl [] rfl)
                · have hF := it_f hF c13
                  refine lv_aload_n hx hb dX9_count_111 rfl (lv_at hl 0 rfl) ?_
                  refine lv_iload_n hx hb dX9_count_112 rfl (lv_at hl 1 rfl) ?_
                  refine lv_bipush (v := 11) hx hb dX9_count_113 (by decide) ?_
                  refine lv_isub hx hb dX9_count_115 ?_
                  obtain ⟨r14, hr14, hF⟩ := bd_use hF
                  refine cl_VI ⟨hx, hb, hml, hown, htb⟩ (kX9_inState l D cS g cI b M (x1 - 11) _ hr14) (cwV 1 htb (gX9_inState bw5_22) rfl rfl rfl hdX9_inState ⟨Nat.le_of_ble_eq_true rfl, Nat.le_of_ble_eq_true rfl⟩) hK (hDa _) hG hA hP hS (sr_Md_Md cI b M) hl.1 rfl 0 (pMd_0 _ _ _) rfl rfl (Nat.le_of_ble_eq_true rfl) dX9_count_116 (fun H locs hP hS => ?_)
                  refine lv_goto (tgt := 123) hx hb dX9_count_119 (by decide) ?_
                  exact j123 r14 _ _ _ hF hP hS (lv_sub hl [] rfl)
              · have hF := it_f hF c11
                refine lv_aload_n hx hb dX9_count_86 rfl (lv_at hl 0 rfl) ?_
                refine va_get (ci := 9) (v := .ref (b 1)) (C := RX9) (T := TX9) (N := 10) hx hb htb kin9 hown hK hP 0 (pMd_0 cI b M) rfl 0 (by decide) (htb _ bw4_25) (fun _ h9 => h9) rfl dX9_count_87 ?_
                refine lv_iconst (v := 4) hx hb dX9_count_90 (by decide) ?_
                refine lv_iload_n hx hb dX9_count_91 rfl (lv_at hl 1 rfl) ?_
                refine lv_iadd hx hb dX9_count_92 ?_
                refine lv_bipush (v := 6) hx hb dX9_count_93 (by decide) ?_
                refine lv_isub hx hb dX9_count_95 ?_
                obtain ⟨hi, hF⟩ := rd_use hF
                refine va_iald hx hb hK hP 1 0 (pMd_1 cI b M) rfl hi dX9_count_96 ?_
                refine lv_topi (fun v15 ev15 => ?_)
                have hF := hF v15 ev15
                refine lv_goto (tgt := 123) hx hb dX9_count_97 (by decide) ?_
                exact j123 v15 _ _ _ hF hP hS (lv_sub hl [] rfl)
noncomputable def fX9_room_j41  (M : Md) (s0 : Int32) : Option (Int32) := some s0
noncomputable def fX9_room  (M : Md) (x1 : Int32) (x2 : Int32) : Option (Int32) := (fX9_isRoom M x1).bind fun r1 => if r1 = 0 then (some (-1)) else ((fX9_in x2 0 11).bind fun r3 => if r3 = 0 then (some (-1)) else (if 11 ≤ x2 then ((fX9_nextOf M x1 (-1)).bind fun r6 => fX9_room_j41 M r6) else ((fX9_of M x1 x2).bind fun r7 => fX9_room_j41 M r7)))
abbrev vX9_room : List Cond := Cond.code yX9_room cX9_room 3 (some .int) :: BIG
theorem gX9_room {own : String} {idx : Nat} (h : (Cond.methodLink own idx yX9_room) ∈ BIG) : GoodIn BIG (wsV own idx RX9 yX9_room vX9_room) := gdV h bw5_27 bw5_28 bw1_11 bw5_29
def rmX9_room : Room := { frames := 2, cells := 0, slots := 0, locals := 47 }
theorem hdX9_room : yX9_room.cls = RX9 ∧ yX9_room.cls ≠ "java/lang/invoke/MethodHandle" ∧ yX9_room.cls ≠ "java/lang/invoke/VarHandle" ∧ (parseMethodDescriptor yX9_room.desc).map (fun d => d.parameters.length) = some 2 := by decide +kernel
set_option maxHeartbeats 4000000 in
set_option maxRecDepth 100000 in
theorem kX9_room (l : Launch) (D : va_G) (cS : ClassId) (g : Nat → Nat) (cI : ClassId) (b : Nat → Nat) (M : Md) (x1 : Int32) (x2 : Int32) (r : Int32) (hF : fX9_room M x1 x2 = some r) : mI l yX9_room vX9_room rmX9_room D cI cS g [.ref (b 0), .int x1, .int x2] (wMd cI b M) r (wMd cI b M) := by
  refine st_I rfl (by decide) (Nat.le_of_ble_eq_true rfl) ?_
  intro p e s m args below meth c A ls hx hb hr hml hlocks hown hts hA hK hD0 hG hP hS hl
  have hown : s.vm.findClass RX9 = some m.cls := hown
  have hDa : ∀ M, va_D A (wMd cI b M) := fun M => hD0.adr rfl
  have htb : ∀ w ∈ BIG, w.before args s = true := fun w h => hts w (List.mem_cons_of_mem _ h)
  have hl : lv_has ls 3 [(0, .ref (b 0)), (1, .int x1), (2, .int x2)] := hl
  have j41 : ∀ (s0 : Int32) (H : Heap) (locs : List Loc) (ls : Array Slot), fX9_room_j41 M s0 = some r → va_P D vwCl (wMd cI b M) H → va_S A s.heap H locs → lv_has ls 3 [] → W p l e rmX9_room s m args below meth c H locs 0 0 (MQ below (qI D r (wMd cI b M) A) args s 0 0 A) (F0 m 41 ls [.int s0]) := by
    intro s0 H locs ls hF hP hS hl
    exact rt_I hx hb hr hlocks hS hP (so_use hF) dX9_room_41
  refine lv_aload_n hx hb dX9_room_0 rfl (lv_at hl 0 rfl) ?_
  refine lv_iload_n hx hb dX9_room_1 rfl (lv_at hl 1 rfl) ?_
  obtain ⟨r1, hr1, hF⟩ := bd_use hF
  refine cl_VI ⟨hx, hb, hml, hown, htb⟩ (kX9_isRoom l D cS g cI b M x1 _ hr1) (cwV 1 htb (gX9_isRoom bw4_79) rfl rfl rfl hdX9_isRoom ⟨Nat.le_of_ble_eq_true rfl, Nat.le_of_ble_eq_true rfl⟩) hK (hDa _) hG hA hP hS (sr_Md_Md cI b M) hl.1 rfl 0 (pMd_0 _ _ _) rfl rfl (Nat.le_of_ble_eq_true rfl) dX9_room_2 (fun H locs hP hS => ?_)
  refine lv_if_eq (tgt := 18) hx hb dX9_room_5 (by decide) (fun c2 => ?_) (fun c2 => ?_)
  · have hF := it_t hF c2
    refine lv_iconst (v := (-1)) hx hb dX9_room_18 (by decide) ?_
    exact rt_I hx hb hr hlocks hS hP (so_use hF) dX9_room_19
  · have hF := it_f hF c2
    refine lv_iload_n hx hb dX9_room_8 rfl (lv_at hl 2 rfl) ?_
    refine lv_iconst (v := 0) hx hb dX9_room_9 (by decide) ?_
    refine lv_bipush (v := 11) hx hb dX9_room_10 (by decide) ?_
    obtain ⟨r3, hr3, hF⟩ := bd_use hF
    refine cl_SI ⟨hx, hb, hml, hown, htb⟩ (kX9_in l D cS g cI x2 0 11 _ hr3) (va_cwS 3 htb (gX9_in bw4_68) rfl rfl rfl hdX9_in ⟨Nat.le_of_ble_eq_true rfl, Nat.le_of_ble_eq_true rfl⟩) hK (hDa _) hG hA hP hS sg_nil hl.1 rfl rfl (Nat.le_of_ble_eq_true rfl) dX9_room_12 (fun H locs hP hS => ?_)
    refine lv_if_ne (tgt := 20) hx hb dX9_room_15 (by decide) (fun c4 => ?_) (fun c4 => ?_)
    · have hF := it_f hF c4
      refine lv_iload_n hx hb dX9_room_20 rfl (lv_at hl 2 rfl) ?_
      refine lv_bipush (v := 11) hx hb dX9_room_21 (by decide) ?_
      refine lv_icmp_ge (tgt := 35) hx hb dX9_room_23 (by decide) (fun c5 => ?_) (fun c5 => ?_)
      · have hF := it_t hF c5
        refine lv_aload_n hx hb dX9_room_35 rfl (lv_at hl 0 rfl) ?_
        refine lv_iload_n hx hb dX9_room_36 rfl (lv_at hl 1 rfl) ?_
        refine lv_iconst (v := (-1)) hx hb dX9_room_37 (by decide) ?_
        obtain ⟨r6, hr6, hF⟩ := bd_use hF
        refine cl_VI ⟨hx, hb, hml, hown, htb⟩ (kX9_nextOf l D cS g cI b M x1 (-1) _ hr6) (cwV 2 htb (gX9_nextOf bw4_153) rfl rfl rfl hdX9_nextOf ⟨Nat.le_of_ble_eq_true rfl, Nat.le_of_ble_eq_true rfl⟩) hK (hDa _) hG hA hP hS (sr_Md_Md cI b M) hl.1 rfl 0 (pMd_0 _ _ _) rfl rfl (Nat.le_of_ble_eq_true rfl) dX9_room_38 (fun H locs hP hS => ?_)
        exact j41 r6 _ _ _ hF hP hS (lv_sub hl [] rfl)
      · have hF := it_f hF c5
        refine lv_aload_n hx hb dX9_room_26 rfl (lv_at hl 0 rfl) ?_
        refine lv_iload_n hx hb dX9_room_27 rfl (lv_at hl 1 rfl) ?_
        refine lv_iload_n hx hb dX9_room_28 rfl (lv_at hl 2 rfl) ?_
        obtain ⟨r7, hr7, hF⟩ := bd_use hF
        refine cl_VI ⟨hx, hb, hml, hown, htb⟩ (kX9_of l D cS g cI b M x1 x2 _ hr7) (cwV 2 htb (gX9_of bw4_83) rfl rfl rfl hdX9_of ⟨Nat.le_of_ble_eq_true rfl, Nat.le_of_ble_eq_true rfl⟩) hK (hDa _) hG hA hP hS (sr_Md_Md cI b M) hl.1 rfl 0 (pMd_0 _ _ _) rfl rfl (Nat.le_of_ble_eq_true rfl) dX9_room_29 (fun H locs hP hS => ?_)
        refine lv_goto (tgt := 41) hx hb dX9_room_32 (by decide) ?_
        exact j41 r7 _ _ _ hF hP hS (lv_sub hl [] rfl)
    · have hF := it_t hF c4
      refine lv_iconst (v := (-1)) hx hb dX9_room_18 (by decide) ?_
      exact rt_I hx hb hr hlocks hS hP (so_use hF) dX9_room_19
noncomputable def fX9_paymentsOf_j51  (x1 : Int32) (ih : Int32 → Int32 → Option (Int32)) (M : Md) (x3 : Int32) (s0 : Int32) (s1 : Int32) : Option (Int32) := nm (s0 + s1) fun v6 => nm (x3 + 1) fun v7 => ih v6 v7
noncomputable def fX9_paymentsOf_l4  (M : Md) (x1 : Int32) : Nat → Int32 → Int32 → Option (Int32) := fun fu => Nat.rec (motive := fun _ => Int32 → Int32 → Option (Int32)) (fun _ _ => none) (fun _ ih => fun x2 x3 => Rd (M.1) 1553 (197 + x1) fun v1 => if v1 ≤ x3 then (some x2) else (Rd (M.1) 1553 ((213 + (16 * x1)) + x3) fun v3 => Rd (M.1) 1553 (485 + v3) fun v4 => if v4 ≤ 0 then (fX9_paymentsOf_j51 x1 ih M x3 x2 0) else (fX9_paymentsOf_j51 x1 ih M x3 x2 1))) fu
theorem fX9_paymentsOf_l4_s  (M : Md) (x1 : Int32) (fu : Nat) (x2 : Int32) (x3 : Int32) : fX9_paymentsOf_l4 M x1 (fu + 1) x2 x3 = (Rd (M.1) 1553 (197 + x1) fun v1 => if v1 ≤ x3 then (some x2) else (Rd (M.1) 1553 ((213 + (16 * x1)) + x3) fun v3 => Rd (M.1) 1553 (485 + v3) fun v4 => if v4 ≤ 0 then (fX9_paymentsOf_j51 x1 (fX9_paymentsOf_l4 M x1 fu) M x3 x2 0) else (fX9_paymentsOf_j51 x1 (fX9_paymentsOf_l4 M x1 fu) M x3 x2 1))) := rfl
theorem fX9_paymentsOf_l4_z  (M : Md) (x1 : Int32) (x2 : Int32) (x3 : Int32) : fX9_paymentsOf_l4 M x1 0 x2 x3 = none := rfl
noncomputable def fX9_paymentsOf  (M : Md) (x1 : Int32) : Option (Int32) := fX9_paymentsOf_l4 M x1 FU 0 0
abbrev vX9_paymentsOf : List Cond := Cond.code yX9_paymentsOf cX9_paymentsOf 4 (some .int) :: BIG
theorem gX9_paymentsOf {own : String} {idx : Nat} (h : (Cond.methodLink own idx yX9_paymentsOf) ∈ BIG) : GoodIn BIG (wsV own idx RX9 yX9_paymentsOf vX9_paymentsOf) := gdV h bw5_36 bs52 bw1_11 bw5_37
def rmX9_paymentsOf : Room := { frames := 0, cells := 0, slots := 0, locals := 0 }
theorem hdX9_paymentsOf : yX9_paymentsOf.cls = RX9 ∧ yX9_paymentsOf.cls ≠ "java/lang/invoke/MethodHandle" ∧ yX9_paymentsOf.cls ≠ "java/lang/invoke/VarHandle" ∧ (parseMethodDescriptor yX9_paymentsOf.desc).map (fun d => d.parameters.length) = some 1 := by decide +kernel
set_option maxHeartbeats 4000000 in
set_option maxRecDepth 100000 in
theorem kX9_paymentsOf (l : Launch) (D : va_G) (cS : ClassId) (g : Nat → Nat) (cI : ClassId) (b : Nat → Nat) (M : Md) (x1 : Int32) (r : Int32) (hF : fX9_paymentsOf M x1 = some r) : mI l yX9_paymentsOf vX9_paymentsOf rmX9_paymentsOf D cI cS g [.ref (b 0), .int x1] (wMd cI b M) r (wMd cI b M) := by
  refine st_I rfl (by decide) (Nat.le_of_ble_eq_true rfl) ?_
  intro p e s m args below meth c A ls hx hb hr hml hlocks hown hts hA hK hD0 hG hP hS hl
  have hown : s.vm.findClass RX9 = some m.cls := hown
  have hDa : ∀ M, va_D A (wMd cI b M) := fun M => hD0.adr rfl
  have htb : ∀ w ∈ BIG, w.before args s = true := fun w h => hts w (List.mem_cons_of_mem _ h)
  have hl : lv_has ls 4 [(0, .ref (b 0)), (1, .int x1)] := hl
  have l4 : ∀ (x1 : Int32) (fu : Nat) (x2 : Int32) (x3 : Int32) (H : Heap) (locs : List Loc) (ls : Array Slot), fX9_paymentsOf_l4 M x1 fu x2 x3 = some r → va_P D vwCl (wMd cI b M) H → va_S A s.heap H locs → lv_has ls 4 [(0, .ref (b 0)), (1, .int x1), (2, .int x2), (3, .int x3)] → W p l e rmX9_paymentsOf s m args below meth c H locs 0 0 (MQ below (qI D r (wMd cI b M) A) args s 0 0 A) (F0 m 4 ls []) := by
    intro x1  fu
    induction fu with
    | zero => intro x2 x3 H locs ls hF; exact nn_use hF
    | succ fu ihn =>
      intro x2 x3 H locs ls hF hP hS hl 
      rw [fX9_paymentsOf_l4_s] at hF
      have j51 : ∀ (x3 : Int32) (s0 : Int32) (s1 : Int32) (H : Heap) (locs : List Loc) (ls : Array Slot), fX9_paymentsOf_j51 x1  (fX9_paymentsOf_l4 M x1 fu) M x3 s0 s1 = some r → va_P D vwCl (wMd cI b M) H → va_S A s.heap H locs → lv_has ls 4 [(0, .ref (b 0)), (1, .int x1), (3, .int x3)] → W p l e rmX9_paymentsOf s m args below meth c H locs 0 0 (MQ below (qI D r (wMd cI b M) A) args s 0 0 A) (F0 m 51 ls [.int s1, .int s0]) := by
        intro x3 s0 s1 H locs ls hF hP hS hl
        refine lv_iadd hx hb dX9_paymentsOf_51 ?_
        refine lv_topi (fun v6 ev6 => ?_)
        have hF := nm_use hF ev6
        refine lv_istore_n (lv' := [(2, .int v6), (0, .ref (b 0)), (1, .int x1), (3, .int x3)]) hx hb dX9_paymentsOf_52 rfl hl (by decide) rfl (fun ls hl => ?_)
        obtain ⟨v7, ev7⟩ : ∃ z : Int32, z = x3 + 1 := ⟨_, rfl⟩
        refine lv_iinc (v := v7) (lv' := [(3, .int v7), (2, .int v6), (0, .ref (b 0)), (1, .int x1)]) hx hb dX9_paymentsOf_53 hl (k := 3) rfl (by rw [ev7]; rfl) (by decide) rfl (fun ls hl => ?_)
        have hF := nm_use hF ev7
        refine lv_goto (tgt := 4) hx hb dX9_paymentsOf_56 (by decide) ?_
        exact ihn v6 v7 _ _ _ hF hP hS (lv_sub hl [2, 3, 1, 0] rfl)
      refine lv_iload_n hx hb dX9_paymentsOf_4 rfl (lv_at hl 3 rfl) ?_
      refine lv_aload_n hx hb dX9_paymentsOf_5 rfl (lv_at hl 0 rfl) ?_
      refine va_get (ci := 9) (v := .ref (b 1)) (C := RX9) (T := TX9) (N := 10) hx hb htb kin9 hown hK hP 0 (pMd_0 cI b M) rfl 0 (by decide) (htb _ bw4_25) (fun _ h9 => h9) rfl dX9_paymentsOf_6 ?_
      refine lv_sipush (v := 197) hx hb dX9_paymentsOf_9 (by decide) ?_
      refine lv_iload_n hx hb dX9_paymentsOf_12 rfl (lv_at hl 1 rfl) ?_
      refine lv_iadd hx hb dX9_paymentsOf_13 ?_
      obtain ⟨hi, hF⟩ := rd_use hF
      refine va_iald hx hb hK hP 1 0 (pMd_1 cI b M) rfl hi dX9_paymentsOf_14 ?_
      refine lv_topi (fun v1 ev1 => ?_)
      have hF := hF v1 ev1
      refine lv_icmp_ge (tgt := 59) hx hb dX9_paymentsOf_15 (by decide) (fun c2 => ?_) (fun c2 => ?_)
      · have hF := it_t hF c2
        refine lv_iload_n hx hb dX9_paymentsOf_59 rfl (lv_at hl 2 rfl) ?_
        exact rt_I hx hb hr hlocks hS hP (so_use hF) dX9_paymentsOf_60
      · have hF := it_f hF c2
        refine lv_iload_n hx hb dX9_paymentsOf_18 rfl (lv_at hl 2 rfl) ?_
        refine lv_aload_n hx hb dX9_paymentsOf_19 rfl (lv_at hl 0 rfl) ?_
        refine va_get (ci := 9) (v := .ref (b 1)) (C := RX9) (T := TX9) (N := 10) hx hb htb kin9 hown hK hP 0 (pMd_0 cI b M) rfl 0 (by decide) (htb _ bw4_25) (fun _ h9 => h9) rfl dX9_paymentsOf_20 ?_
        refine lv_sipush (v := 485) hx hb dX9_paymentsOf_23 (by decide) ?_
        refine lv_aload_n hx hb dX9_paymentsOf_26 rfl (lv_at hl 0 rfl) ?_
        refine va_get (ci := 9) (v := .ref (b 1)) (C := RX9) (T := TX9) (N := 10) hx hb htb kin9 hown hK hP 0 (pMd_0 cI b M) rfl 0 (by decide) (htb _ bw4_25) (fun _ h9 => h9) rfl dX9_paymentsOf_27 ?_
        refine lv_sipush (v := 213) hx hb dX9_paymentsOf_30 (by decide) ?_
        refine lv_bipush (v := 16) hx hb dX9_paymentsOf_33 (by decide) ?_
        refine lv_iload_n hx hb dX9_paymentsOf_35 rfl (lv_at hl 1 rfl) ?_
        refine lv_imul hx hb dX9_paymentsOf_36 ?_
        refine lv_iadd hx hb dX9_paymentsOf_37 ?_
        refine lv_iload_n hx hb dX9_paymentsOf_38 rfl (lv_at hl 3 rfl) ?_
        refine lv_iadd hx hb dX9_paymentsOf_39 ?_
        obtain ⟨hi, hF⟩ := rd_use hF
        refine va_iald hx hb hK hP 1 0 (pMd_1 cI b M) rfl hi dX9_paymentsOf_40 ?_
        refine lv_topi (fun v3 ev3 => ?_)
        have hF := hF v3 ev3
        refine lv_iadd hx hb dX9_paymentsOf_41 ?_
        obtain ⟨hi, hF⟩ := rd_use hF
        refine va_iald hx hb hK hP 1 0 (pMd_1 cI b M) rfl hi dX9_paymentsOf_42 ?_
        refine lv_topi (fun v4 ev4 => ?_)
        have hF := hF v4 ev4
        refine lv_if_le (tgt := 50) hx hb dX9_paymentsOf_43 (by decide) (fun c5 => ?_) (fun c5 => ?_)
        · have hF := it_t hF c5
          refine lv_iconst (v := 0) hx hb dX9_paymentsOf_50 (by decide) ?_
          exact j51 x3 x2 0 _ _ _ hF hP hS (lv_sub hl [0, 1, 3] rfl)
        · have hF := it_f hF c5
          refine lv_iconst (v := 1) hx hb dX9_paymentsOf_46 (by decide) ?_
          refine lv_goto (tgt := 51) hx hb dX9_paymentsOf_47 (by decide) ?_
          exact j51 x3 x2 1 _ _ _ hF hP hS (lv_sub hl [0, 1, 3] rfl)
  refine lv_iconst (v := 0) hx hb dX9_paymentsOf_0 (by decide) ?_
  refine lv_istore_n (lv' := [(2, .int 0), (0, .ref (b 0)), (1, .int x1)]) hx hb dX9_paymentsOf_1 rfl hl (by decide) rfl (fun ls hl => ?_)
  refine lv_iconst (v := 0) hx hb dX9_paymentsOf_2 (by decide) ?_
  refine lv_istore_n (lv' := [(3, .int 0), (2, .int 0), (0, .ref (b 0)), (1, .int x1)]) hx hb dX9_paymentsOf_3 rfl hl (by decide) rfl (fun ls hl => ?_)
  refine l4 x1  _ 0 0 _ _ _ hF hP hS (lv_sub hl [2, 3, 1, 0] rfl)
noncomputable def fX9_booking_j71  (M : Md) (s0 : Int32) : Option (Int32) := some s0
noncomputable def fX9_booking  (M : Md) (x1 : Int32) (x2 : Int32) : Option (Int32) := (fX9_isBooking M x1).bind fun r1 => if r1 = 0 then (some (-1)) else ((fX9_in x2 0 10).bind fun r3 => if r3 = 0 then (some (-1)) else (if 6 ≤ x2 then (if x2 = 6 then ((fX9_byVouchers M x1).bind fun r10 => fX9_booking_j71 M r10) else (if x2 = 10 then ((fX9_paymentsOf M x1).bind fun r9 => fX9_booking_j71 M r9) else ((fX9_its M x1 (x2 - 1)).bind fun r8 => fX9_booking_j71 M r8))) else ((fX9_its M x1 x2).bind fun r11 => fX9_booking_j71 M r11)))
abbrev vX9_booking : List Cond := Cond.code yX9_booking cX9_booking 3 (some .int) :: BIG
theorem gX9_booking {own : String} {idx : Nat} (h : (Cond.methodLink own idx yX9_booking) ∈ BIG) : GoodIn BIG (wsV own idx RX9 yX9_booking vX9_booking) := gdV h bw5_31 bw5_32 bw1_11 bw5_33
def rmX9_booking : Room := { frames := 1, cells := 0, slots := 0, locals := 23 }
theorem hdX9_booking : yX9_booking.cls = RX9 ∧ yX9_booking.cls ≠ "java/lang/invoke/MethodHandle" ∧ yX9_booking.cls ≠ "java/lang/invoke/VarHandle" ∧ (parseMethodDescriptor yX9_booking.desc).map (fun d => d.parameters.length) = some 2 := by decide +kernel
set_option maxHeartbeats 4000000 in
set_option maxRecDepth 100000 in
theorem kX9_booking (l : Launch) (D : va_G) (cS : ClassId) (g : Nat → Nat) (cI : ClassId) (b : Nat → Nat) (M : Md) (x1 : Int32) (x2 : Int32) (r : Int32) (hF : fX9_booking M x1 x2 = some r) : mI l yX9_booking vX9_booking rmX9_booking D cI cS g [.ref (b 0), .int x1, .int x2] (wMd cI b M) r (wMd cI b M) := by
  refine st_I rfl (by decide) (Nat.le_of_ble_eq_true rfl) ?_
  intro p e s m args below meth c A ls hx hb hr hml hlocks hown hts hA hK hD0 hG hP hS hl
  have hown : s.vm.findClass RX9 = some m.cls := hown
  have hDa : ∀ M, va_D A (wMd cI b M) := fun M => hD0.adr rfl
  have htb : ∀ w ∈ BIG, w.before args s = true := fun w h => hts w (List.mem_cons_of_mem _ h)
  have hl : lv_has ls 3 [(0, .ref (b 0)), (1, .int x1), (2, .int x2)] := hl
  have j71 : ∀ (s0 : Int32) (H : Heap) (locs : List Loc) (ls : Array Slot), fX9_booking_j71 M s0 = some r → va_P D vwCl (wMd cI b M) H → va_S A s.heap H locs → lv_has ls 3 [] → W p l e rmX9_booking s m args below meth c H locs 0 0 (MQ below (qI D r (wMd cI b M) A) args s 0 0 A) (F0 m 71 ls [.int s0]) := by
    intro s0 H locs ls hF hP hS hl
    exact rt_I hx hb hr hlocks hS hP (so_use hF) dX9_booking_71
  refine lv_aload_n hx hb dX9_booking_0 rfl (lv_at hl 0 rfl) ?_
  refine lv_iload_n hx hb dX9_booking_1 rfl (lv_at hl 1 rfl) ?_
  obtain ⟨r1, hr1, hF⟩ := bd_use hF
  refine cl_VI ⟨hx, hb, hml, hown, htb⟩ (kX9_isBooking l D cS g cI b M x1 _ hr1) (cwV 1 htb (gX9_isBooking bw4_133) rfl rfl rfl hdX9_isBooking ⟨Nat.le_of_ble_eq_true rfl, Nat.le_of_ble_eq_true rfl⟩) hK (hDa _) hG hA hP hS (sr_Md_Md cI b M) hl.1 rfl 0 (pMd_0 _ _ _) rfl rfl (Nat.le_of_ble_eq_true rfl) dX9_booking_2 (fun H locs hP hS => ?_)
  refine lv_if_eq (tgt := 18) hx hb dX9_booking_5 (by decide) (fun c2 => ?_) (fun c2 => ?_)
  · have hF := it_t hF c2
    refine lv_iconst (v := (-1)) hx hb dX9_booking_18 (by decide) ?_
    exact rt_I hx hb hr hlocks hS hP (so_use hF) dX9_booking_19
  · have hF := it_f hF c2
    refine lv_iload_n hx hb dX9_booking_8 rfl (lv_at hl 2 rfl) ?_
    refine lv_iconst (v := 0) hx hb dX9_booking_9 (by decide) ?_
    refine lv_bipush (v := 10) hx hb dX9_booking_10 (by decide) ?_
    obtain ⟨r3, hr3, hF⟩ := bd_use hF
    refine cl_SI ⟨hx, hb, hml, hown, htb⟩ (kX9_in l D cS g cI x2 0 10 _ hr3) (va_cwS 3 htb (gX9_in bw4_68) rfl rfl rfl hdX9_in ⟨Nat.le_of_ble_eq_true rfl, Nat.le_of_ble_eq_true rfl⟩) hK (hDa _) hG hA hP hS sg_nil hl.1 rfl rfl (Nat.le_of_ble_eq_true rfl) dX9_booking_12 (fun H locs hP hS => ?_)
    refine lv_if_ne (tgt := 20) hx hb dX9_booking_15 (by decide) (fun c4 => ?_) (fun c4 => ?_)
    · have hF := it_f hF c4
      refine lv_iload_n hx hb dX9_booking_20 rfl (lv_at hl 2 rfl) ?_
      refine lv_bipush (v := 6) hx hb dX9_booking_21 (by decide) ?_
      refine lv_icmp_ge (tgt := 35) hx hb dX9_booking_23 (by decide) (fun c5 => ?_) (fun c5 => ?_)
      · have hF := it_t hF c5
        refine lv_iload_n hx hb dX9_booking_35 rfl (lv_at hl 2 rfl) ?_
        refine lv_bipush (v := 6) hx hb dX9_booking_36 (by decide) ?_
        refine lv_icmp_ne (tgt := 49) hx hb dX9_booking_38 (by decide) (fun c6 => ?_) (fun c6 => ?_)
        · have hF := it_f hF c6
          refine lv_iload_n hx hb dX9_booking_49 rfl (lv_at hl 2 rfl) ?_
          refine lv_bipush (v := 10) hx hb dX9_booking_50 (by decide) ?_
          refine lv_icmp_ne (tgt := 63) hx hb dX9_booking_52 (by decide) (fun c7 => ?_) (fun c7 => ?_)
          · have hF := it_f hF c7
            refine lv_aload_n hx hb dX9_booking_63 rfl (lv_at hl 0 rfl) ?_
            refine lv_iload_n hx hb dX9_booking_64 rfl (lv_at hl 1 rfl) ?_
            refine lv_iload_n hx hb dX9_booking_65 rfl (lv_at hl 2 rfl) ?_
            refine lv_iconst (v := 1) hx hb dX9_booking_66 (by decide) ?_
            refine lv_isub hx hb dX9_booking_67 ?_
            obtain ⟨r8, hr8, hF⟩ := bd_use hF
            refine cl_VI ⟨hx, hb, hml, hown, htb⟩ (kX9_its l D cS g cI b M x1 (x2 - 1) _ hr8) (cwV 2 htb (gX9_its bw4_118) rfl rfl rfl hdX9_its ⟨Nat.le_of_ble_eq_true rfl, Nat.le_of_ble_eq_true rfl⟩) hK (hDa _) hG hA hP hS (sr_Md_Md cI b M) hl.1 rfl 0 (pMd_0 _ _ _) rfl rfl (Nat.le_of_ble_eq_true rfl) dX9_booking_68 (fun H locs hP hS => ?_)
            exact j71 r8 _ _ _ hF hP hS (lv_sub hl [] rfl)
          · have hF := it_t hF c7
            refine lv_aload_n hx hb dX9_booking_55 rfl (lv_at hl 0 rfl) ?_
            refine lv_iload_n hx hb dX9_booking_56 rfl (lv_at hl 1 rfl) ?_
            obtain ⟨r9, hr9, hF⟩ := bd_use hF
            refine cl_VI ⟨hx, hb, hml, hown, htb⟩ (kX9_paymentsOf l D cS g cI b M x1 _ hr9) (cwV 1 htb (gX9_paymentsOf bw5_34) rfl rfl rfl hdX9_paymentsOf ⟨Nat.le_of_ble_eq_true rfl, Nat.le_of_ble_eq_true rfl⟩) hK (hDa _) hG hA hP hS (sr_Md_Md cI b M) hl.1 rfl 0 (pMd_0 _ _ _) rfl rfl (Nat.le_of_ble_eq_true rfl) dX9_booking_57 (fun H locs hP hS => ?_)
            refine lv_goto (tgt := 71) hx hb dX9_booking_60 (by decide) ?_
            exact j71 r9 _ _ _ hF hP hS (lv_sub hl [] rfl)
        · have hF := it_t hF c6
          refine lv_aload_n hx hb dX9_booking_41 rfl (lv_at hl 0 rfl) ?_
          refine lv_iload_n hx hb dX9_booking_42 rfl (lv_at hl 1 rfl) ?_
          obtain ⟨r10, hr10, hF⟩ := bd_use hF
          refine cl_VI ⟨hx, hb, hml, hown, htb⟩ (kX9_byVouchers l D cS g cI b M x1 _ hr10) (cwV 1 htb (gX9_byVouchers bw4_145) rfl rfl rfl hdX9_byVouchers ⟨Nat.le_of_ble_eq_true rfl, Nat.le_of_ble_eq_true rfl⟩) hK (hDa _) hG hA hP hS (sr_Md_Md cI b M) hl.1 rfl 0 (pMd_0 _ _ _) rfl rfl (Nat.le_of_ble_eq_true rfl) dX9_booking_43 (fun H locs hP hS => ?_)
          refine lv_goto (tgt := 71) hx hb dX9_booking_46 (by decide) ?_
          exact j71 r10 _ _ _ hF hP hS (lv_sub hl [] rfl)
      · have hF := it_f hF c5
        refine lv_aload_n hx hb dX9_booking_26 rfl (lv_at hl 0 rfl) ?_
        refine lv_iload_n hx hb dX9_booking_27 rfl (lv_at hl 1 rfl) ?_
        refine lv_iload_n hx hb dX9_booking_28 rfl (lv_at hl 2 rfl) ?_
        obtain ⟨r11, hr11, hF⟩ := bd_use hF
        refine cl_VI ⟨hx, hb, hml, hown, htb⟩ (kX9_its l D cS g cI b M x1 x2 _ hr11) (cwV 2 htb (gX9_its bw4_118) rfl rfl rfl hdX9_its ⟨Nat.le_of_ble_eq_true rfl, Nat.le_of_ble_eq_true rfl⟩) hK (hDa _) hG hA hP hS (sr_Md_Md cI b M) hl.1 rfl 0 (pMd_0 _ _ _) rfl rfl (Nat.le_of_ble_eq_true rfl) dX9_booking_29 (fun H locs hP hS => ?_)
        refine lv_goto (tgt := 71) hx hb dX9_booking_32 (by decide) ?_
        exact j71 r11 _ _ _ hF hP hS (lv_sub hl [] rfl)
    · have hF := it_t hF c4
      refine lv_iconst (v := (-1)) hx hb dX9_booking_18 (by decide) ?_
      exact rt_I hx hb hr hlocks hS hP (so_use hF) dX9_booking_19
noncomputable def fX9_hasFrom_j76  (x1 : Int32) (x2 : Int32) (ih : Int32 → Int32 → Option (Int32)) (M : Md) (x4 : Int32) (s0 : Int32) : Option (Int32) := nm (x4 + 1) fun v5 => ih s0 v5
noncomputable def fX9_hasFrom_j71  (x1 : Int32) (x2 : Int32) (ih : Int32 → Int32 → Option (Int32)) (M : Md) (x4 : Int32) : Option (Int32) := fX9_hasFrom_j76 x1 x2 ih M x4 1
noncomputable def fX9_hasFrom_j75  (x1 : Int32) (x2 : Int32) (ih : Int32 → Int32 → Option (Int32)) (M : Md) (x4 : Int32) : Option (Int32) := fX9_hasFrom_j76 x1 x2 ih M x4 0
noncomputable def fX9_hasFrom_l5  (M : Md) (x1 : Int32) (x2 : Int32) : Nat → Int32 → Int32 → Option (Int32) := fun fu => Nat.rec (motive := fun _ => Int32 → Int32 → Option (Int32)) (fun _ _ => none) (fun _ ih => fun x3 x4 => Rd (M.1) 1553 (197 + x1) fun v1 => if v1 ≤ x4 then (Zb x3 (some x3)) else (Rd (M.1) 1553 ((213 + (16 * x1)) + x4) fun v3 => if x3 = 0 then (Rd (M.1) 1553 (469 + v3) fun v6 => if v6 = x2 then (Rd (M.1) 1553 (485 + v3) fun v8 => if v8 ≤ 0 then (fX9_hasFrom_j75 x1 x2 ih M x4) else (fX9_hasFrom_j71 x1 x2 ih M x4)) else (fX9_hasFrom_j75 x1 x2 ih M x4)) else (fX9_hasFrom_j71 x1 x2 ih M x4))) fu
theorem fX9_hasFrom_l5_s  (M : Md) (x1 : Int32) (x2 : Int32) (fu : Nat) (x3 : Int32) (x4 : Int32) : fX9_hasFrom_l5 M x1 x2 (fu + 1) x3 x4 = (Rd (M.1) 1553 (197 + x1) fun v1 => if v1 ≤ x4 then (Zb x3 (some x3)) else (Rd (M.1) 1553 ((213 + (16 * x1)) + x4) fun v3 => if x3 = 0 then (Rd (M.1) 1553 (469 + v3) fun v6 => if v6 = x2 then (Rd (M.1) 1553 (485 + v3) fun v8 => if v8 ≤ 0 then (fX9_hasFrom_j75 x1 x2 (fX9_hasFrom_l5 M x1 x2 fu) M x4) else (fX9_hasFrom_j71 x1 x2 (fX9_hasFrom_l5 M x1 x2 fu) M x4)) else (fX9_hasFrom_j75 x1 x2 (fX9_hasFrom_l5 M x1 x2 fu) M x4)) else (fX9_hasFrom_j71 x1 x2 (fX9_hasFrom_l5 M x1 x2 fu) M x4))) := rfl
theorem fX9_hasFrom_l5_z  (M : Md) (x1 : Int32) (x2 : Int32) (x3 : Int32) (x4 : Int32) : fX9_hasFrom_l5 M x1 x2 0 x3 x4 = none := rfl
noncomputable def fX9_hasFrom  (M : Md) (x1 : Int32) (x2 : Int32) : Option (Int32) := fX9_hasFrom_l5 M x1 x2 FU 0 0
abbrev vX9_hasFrom : List Cond := Cond.code yX9_hasFrom cX9_hasFrom 6 (some .boolean) :: BIG
theorem gX9_hasFrom {own : String} {idx : Nat} (h : (Cond.methodLink own idx yX9_hasFrom) ∈ BIG) : GoodIn BIG (wsV own idx RX9 yX9_hasFrom vX9_hasFrom) := gdV h bw5_44 bs53 bw1_11 bw5_45
def rmX9_hasFrom : Room := { frames := 0, cells := 0, slots := 0, locals := 0 }
theorem hdX9_hasFrom : yX9_hasFrom.cls = RX9 ∧ yX9_hasFrom.cls ≠ "java/lang/invoke/MethodHandle" ∧ yX9_hasFrom.cls ≠ "java/lang/invoke/VarHandle" ∧ (parseMethodDescriptor yX9_hasFrom.desc).map (fun d => d.parameters.length) = some 2 := by decide +kernel
set_option maxHeartbeats 4000000 in
set_option maxRecDepth 100000 in
theorem kX9_hasFrom (l : Launch) (D : va_G) (cS : ClassId) (g : Nat → Nat) (cI : ClassId) (b : Nat → Nat) (M : Md) (x1 : Int32) (x2 : Int32) (r : Int32) (hF : fX9_hasFrom M x1 x2 = some r) : mI l yX9_hasFrom vX9_hasFrom rmX9_hasFrom D cI cS g [.ref (b 0), .int x1, .int x2] (wMd cI b M) r (wMd cI b M) := by
  refine st_I rfl (by decide) (Nat.le_of_ble_eq_true rfl) ?_
  intro p e s m args below meth c A ls hx hb hr hml hlocks hown hts hA hK hD0 hG hP hS hl
  have hown : s.vm.findClass RX9 = some m.cls := hown
  have hDa : ∀ M, va_D A (wMd cI b M) := fun M => hD0.adr rfl
  have htb : ∀ w ∈ BIG, w.before args s = true := fun w h => hts w (List.mem_cons_of_mem _ h)
  have hl : lv_has ls 6 [(0, .ref (b 0)), (1, .int x1), (2, .int x2)] := hl
  have l5 : ∀ (x1 : Int32) (x2 : Int32) (fu : Nat) (x3 : Int32) (x4 : Int32) (H : Heap) (locs : List Loc) (ls : Array Slot), fX9_hasFrom_l5 M x1 x2 fu x3 x4 = some r → va_P D vwCl (wMd cI b M) H → va_S A s.heap H locs → lv_has ls 6 [(0, .ref (b 0)), (1, .int x1), (2, .int x2), (3, .int x3), (4, .int x4)] → W p l e rmX9_hasFrom s m args below meth c H locs 0 0 (MQ below (qI D r (wMd cI b M) A) args s 0 0 A) (F0 m 5 ls []) := by
    intro x1 x2  fu
    induction fu with
    | zero => intro x3 x4 H locs ls hF; exact nn_use hF
    | succ fu ihn =>
      intro x3 x4 H locs ls hF hP hS hl 
      rw [fX9_hasFrom_l5_s] at hF
      have j76 : ∀ (x4 : Int32) (s0 : Int32) (H : Heap) (locs : List Loc) (ls : Array Slot), fX9_hasFrom_j76 x1 x2  (fX9_hasFrom_l5 M x1 x2 fu) M x4 s0 = some r → va_P D vwCl (wMd cI b M) H → va_S A s.heap H locs → lv_has ls 6 [(0, .ref (b 0)), (1, .int x1), (2, .int x2), (4, .int x4)] → W p l e rmX9_hasFrom s m args below meth c H locs 0 0 (MQ below (qI D r (wMd cI b M) A) args s 0 0 A) (F0 m 76 ls [.int s0]) := by
        intro x4 s0 H locs ls hF hP hS hl
        refine lv_istore_n (lv' := [(3, .int s0), (0, .ref (b 0)), (1, .int x1), (2, .int x2), (4, .int x4)]) hx hb dX9_hasFrom_76 rfl hl (by decide) rfl (fun ls hl => ?_)
        obtain ⟨v5, ev5⟩ : ∃ z : Int32, z = x4 + 1 := ⟨_, rfl⟩
        refine lv_iinc (v := v5) (lv' := [(4, .int v5), (3, .int s0), (0, .ref (b 0)), (1, .int x1), (2, .int x2)]) hx hb dX9_hasFrom_77 hl (k := 4) rfl (by rw [ev5]; rfl) (by decide) rfl (fun ls hl => ?_)
        have hF := nm_use hF ev5
        refine lv_goto (tgt := 5) hx hb dX9_hasFrom_80 (by decide) ?_
        exact ihn s0 v5 _ _ _ hF hP hS (lv_sub hl [2, 3, 4, 1, 0] rfl)
      have j71 : ∀ (x4 : Int32) (H : Heap) (locs : List Loc) (ls : Array Slot), fX9_hasFrom_j71 x1 x2  (fX9_hasFrom_l5 M x1 x2 fu) M x4 = some r → va_P D vwCl (wMd cI b M) H → va_S A s.heap H locs → lv_has ls 6 [(0, .ref (b 0)), (1, .int x1), (2, .int x2), (4, .int x4)] → W p l e rmX9_hasFrom s m args below meth c H locs 0 0 (MQ below (qI D r (wMd cI b M) A) args s 0 0 A) (F0 m 71 ls []) := by
        intro x4 H locs ls hF hP hS hl
        refine lv_iconst (v := 1) hx hb dX9_hasFrom_71 (by decide) ?_
        refine lv_goto (tgt := 76) hx hb dX9_hasFrom_72 (by decide) ?_
        exact j76 x4 1 _ _ _ hF hP hS (lv_sub hl [0, 1, 2, 3] rfl)
      have j75 : ∀ (x4 : Int32) (H : Heap) (locs : List Loc) (ls : Array Slot), fX9_hasFrom_j75 x1 x2  (fX9_hasFrom_l5 M x1 x2 fu) M x4 = some r → va_P D vwCl (wMd cI b M) H → va_S A s.heap H locs → lv_has ls 6 [(0, .ref (b 0)), (1, .int x1), (2, .int x2), (4, .int x4)] → W p l e rmX9_hasFrom s m args below meth c H locs 0 0 (MQ below (qI D r (wMd cI b M) A) args s 0 0 A) (F0 m 75 ls []) := by
        intro x4 H locs ls hF hP hS hl
        refine lv_iconst (v := 0) hx hb dX9_hasFrom_75 (by decide) ?_
        exact j76 x4 0 _ _ _ hF hP hS (lv_sub hl [0, 1, 2, 3] rfl)
      refine lv_iload hx hb dX9_hasFrom_5 (lv_at hl 4 rfl) ?_
      refine lv_aload_n hx hb dX9_hasFrom_7 rfl (lv_at hl 0 rfl) ?_
      refine va_get (ci := 9) (v := .ref (b 1)) (C := RX9) (T := TX9) (N := 10) hx hb htb kin9 hown hK hP 0 (pMd_0 cI b M) rfl 0 (by decide) (htb _ bw4_25) (fun _ h9 => h9) rfl dX9_hasFrom_8 ?_
      refine lv_sipush (v := 197) hx hb dX9_hasFrom_11 (by decide) ?_
      refine lv_iload_n hx hb dX9_hasFrom_14 rfl (lv_at hl 1 rfl) ?_
      refine lv_iadd hx hb dX9_hasFrom_15 ?_
      obtain ⟨hi, hF⟩ := rd_use hF
      refine va_iald hx hb hK hP 1 0 (pMd_1 cI b M) rfl hi dX9_hasFrom_16 ?_
      refine lv_topi (fun v1 ev1 => ?_)
      have hF := hF v1 ev1
      refine lv_icmp_ge (tgt := 83) hx hb dX9_hasFrom_17 (by decide) (fun c2 => ?_) (fun c2 => ?_)
      · have hF := it_t hF c2
        refine lv_iload_n hx hb dX9_hasFrom_83 rfl (lv_at hl 3 rfl) ?_
        obtain ⟨hz, hF⟩ := zb_use hF
        exact rt_Z hx hb hr hlocks hS hP hz (so_use hF) dX9_hasFrom_84
      · have hF := it_f hF c2
        refine lv_aload_n hx hb dX9_hasFrom_20 rfl (lv_at hl 0 rfl) ?_
        refine va_get (ci := 9) (v := .ref (b 1)) (C := RX9) (T := TX9) (N := 10) hx hb htb kin9 hown hK hP 0 (pMd_0 cI b M) rfl 0 (by decide) (htb _ bw4_25) (fun _ h9 => h9) rfl dX9_hasFrom_21 ?_
        refine lv_sipush (v := 213) hx hb dX9_hasFrom_24 (by decide) ?_
        refine lv_bipush (v := 16) hx hb dX9_hasFrom_27 (by decide) ?_
        refine lv_iload_n hx hb dX9_hasFrom_29 rfl (lv_at hl 1 rfl) ?_
        refine lv_imul hx hb dX9_hasFrom_30 ?_
        refine lv_iadd hx hb dX9_hasFrom_31 ?_
        refine lv_iload hx hb dX9_hasFrom_32 (lv_at hl 4 rfl) ?_
        refine lv_iadd hx hb dX9_hasFrom_34 ?_
        obtain ⟨hi, hF⟩ := rd_use hF
        refine va_iald hx hb hK hP 1 0 (pMd_1 cI b M) rfl hi dX9_hasFrom_35 ?_
        refine lv_topi (fun v3 ev3 => ?_)
        have hF := hF v3 ev3
        refine lv_istore (lv' := [(5, .int v3), (0, .ref (b 0)), (1, .int x1), (2, .int x2), (3, .int x3), (4, .int x4)]) hx hb dX9_hasFrom_36 hl (by decide) rfl (fun ls hl => ?_)
        refine lv_iload_n hx hb dX9_hasFrom_38 rfl (lv_at hl 4 rfl) ?_
        refine lv_if_ne (tgt := 71) hx hb dX9_hasFrom_39 (by decide) (fun c4 => ?_) (fun c4 => ?_)
        · have hF := it_f hF c4
          exact j71 x4 _ _ _ hF hP hS (lv_sub hl [1, 2, 3, 5] rfl)
        · have hF := it_t hF c4
          refine lv_aload_n hx hb dX9_hasFrom_42 rfl (lv_at hl 1 rfl) ?_
          refine va_get (ci := 9) (v := .ref (b 1)) (C := RX9) (T := TX9) (N := 10) hx hb htb kin9 hown hK hP 0 (pMd_0 cI b M) rfl 0 (by decide) (htb _ bw4_25) (fun _ h9 => h9) rfl dX9_hasFrom_43 ?_
          refine lv_sipush (v := 469) hx hb dX9_hasFrom_46 (by decide) ?_
          refine lv_iload hx hb dX9_hasFrom_49 (lv_at hl 0 rfl) ?_
          refine lv_iadd hx hb dX9_hasFrom_51 ?_
          obtain ⟨hi, hF⟩ := rd_use hF
          refine va_iald hx hb hK hP 1 0 (pMd_1 cI b M) rfl hi dX9_hasFrom_52 ?_
          refine lv_topi (fun v6 ev6 => ?_)
          have hF := hF v6 ev6
          refine lv_iload_n hx hb dX9_hasFrom_53 rfl (lv_at hl 3 rfl) ?_
          refine lv_icmp_ne (tgt := 75) hx hb dX9_hasFrom_54 (by decide) (fun c7 => ?_) (fun c7 => ?_)
          · have hF := it_f hF c7
            exact j75 x4 _ _ _ hF hP hS (lv_sub hl [1, 2, 3, 5] rfl)
          · have hF := it_t hF c7
            refine lv_aload_n hx hb dX9_hasFrom_57 rfl (lv_at hl 1 rfl) ?_
            refine va_get (ci := 9) (v := .ref (b 1)) (C := RX9) (T := TX9) (N := 10) hx hb htb kin9 hown hK hP 0 (pMd_0 cI b M) rfl 0 (by decide) (htb _ bw4_25) (fun _ h9 => h9) rfl dX9_hasFrom_58 ?_
            refine lv_sipush (v := 485) hx hb dX9_hasFrom_61 (by decide) ?_
            refine lv_iload hx hb dX9_hasFrom_64 (lv_at hl 0 rfl) ?_
            refine lv_iadd hx hb dX9_hasFrom_66 ?_
            obtain ⟨hi, hF⟩ := rd_use hF
            refine va_iald hx hb hK hP 1 0 (pMd_1 cI b M) rfl hi dX9_hasFrom_67 ?_
            refine lv_topi (fun v8 ev8 => ?_)
            have hF := hF v8 ev8
            refine lv_if_le (tgt := 75) hx hb dX9_hasFrom_68 (by decide) (fun c9 => ?_) (fun c9 => ?_)
            · have hF := it_t hF c9
              exact j75 x4 _ _ _ hF hP hS (lv_sub hl [1, 2, 3, 5] rfl)
            · have hF := it_f hF c9
              exact j71 x4 _ _ _ hF hP hS (lv_sub hl [1, 2, 3, 5] rfl)
  refine lv_iconst (v := 0) hx hb dX9_hasFrom_0 (by decide) ?_
  refine lv_istore_n (lv' := [(3, .int 0), (0, .ref (b 0)), (1, .int x1), (2, .int x2)]) hx hb dX9_hasFrom_1 rfl hl (by decide) rfl (fun ls hl => ?_)
  refine lv_iconst (v := 0) hx hb dX9_hasFrom_2 (by decide) ?_
  refine lv_istore (lv' := [(4, .int 0), (3, .int 0), (0, .ref (b 0)), (1, .int x1), (2, .int x2)]) hx hb dX9_hasFrom_3 hl (by decide) rfl (fun ls hl => ?_)
  refine l5 x1 x2  _ 0 0 _ _ _ hF hP hS (lv_sub hl [2, 3, 4, 1, 0] rfl)
noncomputable def fX9_voucher_j51  (x1 : Int32) (x2 : Int32) (kk : Int32 → Option (Int32)) (ih : Int32 → Int32 → Option (Int32)) (M : Md) (x4 : Int32) (s0 : Int32) (s1 : Int32) : Option (Int32) := nm (s0 + s1) fun v9 => nm (x4 + 1) fun v10 => ih v9 v10
noncomputable def fX9_voucher_l24  (M : Md) (x1 : Int32) (x2 : Int32) (kk : Int32 → Option (Int32)) : Nat → Int32 → Int32 → Option (Int32) := fun fu => Nat.rec (motive := fun _ => Int32 → Int32 → Option (Int32)) (fun _ _ => none) (fun _ ih => fun x3 x4 => Rd (M.1) 1553 1 fun v5 => if v5 ≤ x4 then (kk x3) else ((fX9_hasFrom M x4 x1).bind fun r7 => if r7 = 0 then (fX9_voucher_j51 x1 x2 kk ih M x4 x3 0) else (fX9_voucher_j51 x1 x2 kk ih M x4 x3 1))) fu
theorem fX9_voucher_l24_s  (M : Md) (x1 : Int32) (x2 : Int32) (kk : Int32 → Option (Int32)) (fu : Nat) (x3 : Int32) (x4 : Int32) : fX9_voucher_l24 M x1 x2 kk (fu + 1) x3 x4 = (Rd (M.1) 1553 1 fun v5 => if v5 ≤ x4 then (kk x3) else ((fX9_hasFrom M x4 x1).bind fun r7 => if r7 = 0 then (fX9_voucher_j51 x1 x2 kk (fX9_voucher_l24 M x1 x2 kk fu) M x4 x3 0) else (fX9_voucher_j51 x1 x2 kk (fX9_voucher_l24 M x1 x2 kk fu) M x4 x3 1))) := rfl
theorem fX9_voucher_l24_z  (M : Md) (x1 : Int32) (x2 : Int32) (kk : Int32 → Option (Int32)) (x3 : Int32) (x4 : Int32) : fX9_voucher_l24 M x1 x2 kk 0 x3 x4 = none := rfl
noncomputable def fX9_voucher_j82  (M : Md) (s0 : Int32) : Option (Int32) := some s0
noncomputable def fX9_voucher  (M : Md) (x1 : Int32) (x2 : Int32) : Option (Int32) := (fX9_isVoucher M x1).bind fun r1 => if r1 = 0 then (some (-1)) else ((fX9_in x2 0 2).bind fun r3 => if r3 = 0 then (some (-1)) else (fX9_voucher_l24 M x1 x2 (fun y11 => if 2 ≤ x2 then (fX9_voucher_j82 M y11) else (Rd (M.1) 1553 ((501 + (2 * x1)) + x2) fun v13 => fX9_voucher_j82 M v13)) FU 0 0))
abbrev vX9_voucher : List Cond := Cond.code yX9_voucher cX9_voucher 5 (some .int) :: BIG
theorem gX9_voucher {own : String} {idx : Nat} (h : (Cond.methodLink own idx yX9_voucher) ∈ BIG) : GoodIn BIG (wsV own idx RX9 yX9_voucher vX9_voucher) := gdV h bw5_39 bw5_40 bw1_11 bw5_41
def rmX9_voucher : Room := { frames := 1, cells := 0, slots := 0, locals := 25 }
theorem hdX9_voucher : yX9_voucher.cls = RX9 ∧ yX9_voucher.cls ≠ "java/lang/invoke/MethodHandle" ∧ yX9_voucher.cls ≠ "java/lang/invoke/VarHandle" ∧ (parseMethodDescriptor yX9_voucher.desc).map (fun d => d.parameters.length) = some 2 := by decide +kernel
set_option maxHeartbeats 4000000 in
set_option maxRecDepth 100000 in
theorem kX9_voucher (l : Launch) (D : va_G) (cS : ClassId) (g : Nat → Nat) (cI : ClassId) (b : Nat → Nat) (M : Md) (x1 : Int32) (x2 : Int32) (r : Int32) (hF : fX9_voucher M x1 x2 = some r) : mI l yX9_voucher vX9_voucher rmX9_voucher D cI cS g [.ref (b 0), .int x1, .int x2] (wMd cI b M) r (wMd cI b M) := by
  refine st_I rfl (by decide) (Nat.le_of_ble_eq_true rfl) ?_
  intro p e s m args below meth c A ls hx hb hr hml hlocks hown hts hA hK hD0 hG hP hS hl
  have hown : s.vm.findClass RX9 = some m.cls := hown
  have hDa : ∀ M, va_D A (wMd cI b M) := fun M => hD0.adr rfl
  have htb : ∀ w ∈ BIG, w.before args s = true := fun w h => hts w (List.mem_cons_of_mem _ h)
  have hl : lv_has ls 5 [(0, .ref (b 0)), (1, .int x1), (2, .int x2)] := hl
  have l24 : ∀ (x1 : Int32) (x2 : Int32) (kk : Int32 → Option (Int32)) (fu : Nat) (x3 : Int32) (x4 : Int32) (H : Heap) (locs : List Loc) (ls : Array Slot), fX9_voucher_l24 M x1 x2 kk fu x3 x4 = some r → va_P D vwCl (wMd cI b M) H → va_S A s.heap H locs → lv_has ls 5 [(0, .ref (b 0)), (1, .int x1), (2, .int x2), (3, .int x3), (4, .int x4)] → (∀ (x3 : Int32) (H : Heap) (locs : List Loc) (ls : Array Slot), kk x3 = some r → va_P D vwCl (wMd cI b M) H → va_S A s.heap H locs → lv_has ls 5 [(0, .ref (b 0)), (1, .int x1), (2, .int x2), (3, .int x3)] → W p l e rmX9_voucher s m args below meth c H locs 0 0 (MQ below (qI D r (wMd cI b M) A) args s 0 0 A) (F0 m 59 ls [])) → W p l e rmX9_voucher s m args below meth c H locs 0 0 (MQ below (qI D r (wMd cI b M) A) args s 0 0 A) (F0 m 24 ls []) := by
    intro x1 x2 kk fu
    induction fu with
    | zero => intro x3 x4 H locs ls hF; exact nn_use hF
    | succ fu ihn =>
      intro x3 x4 H locs ls hF hP hS hl after
      rw [fX9_voucher_l24_s] at hF
      have j51 : ∀ (x4 : Int32) (s0 : Int32) (s1 : Int32) (H : Heap) (locs : List Loc) (ls : Array Slot), fX9_voucher_j51 x1 x2 kk (fX9_voucher_l24 M x1 x2 kk fu) M x4 s0 s1 = some r → va_P D vwCl (wMd cI b M) H → va_S A s.heap H locs → lv_has ls 5 [(0, .ref (b 0)), (1, .int x1), (2, .int x2), (4, .int x4)] → W p l e rmX9_voucher s m args below meth c H locs 0 0 (MQ below (qI D r (wMd cI b M) A) args s 0 0 A) (F0 m 51 ls [.int s1, .int s0]) := by
        intro x4 s0 s1 H locs ls hF hP hS hl
        refine lv_iadd hx hb dX9_voucher_51 ?_
        refine lv_topi (fun v9 ev9 => ?_)
        have hF := nm_use hF ev9
        refine lv_istore_n (lv' := [(3, .int v9), (0, .ref (b 0)), (1, .int x1), (2, .int x2), (4, .int x4)]) hx hb dX9_voucher_52 rfl hl (by decide) rfl (fun ls hl => ?_)
        obtain ⟨v10, ev10⟩ : ∃ z : Int32, z = x4 + 1 := ⟨_, rfl⟩
        refine lv_iinc (v := v10) (lv' := [(4, .int v10), (3, .int v9), (0, .ref (b 0)), (1, .int x1), (2, .int x2)]) hx hb dX9_voucher_53 hl (k := 4) rfl (by rw [ev10]; rfl) (by decide) rfl (fun ls hl => ?_)
        have hF := nm_use hF ev10
        refine lv_goto (tgt := 24) hx hb dX9_voucher_56 (by decide) ?_
        exact ihn v9 v10 _ _ _ hF hP hS (lv_sub hl [2, 3, 4, 1, 0] rfl) after
      refine lv_iload hx hb dX9_voucher_24 (lv_at hl 4 rfl) ?_
      refine lv_aload_n hx hb dX9_voucher_26 rfl (lv_at hl 0 rfl) ?_
      refine va_get (ci := 9) (v := .ref (b 1)) (C := RX9) (T := TX9) (N := 10) hx hb htb kin9 hown hK hP 0 (pMd_0 cI b M) rfl 0 (by decide) (htb _ bw4_25) (fun _ h9 => h9) rfl dX9_voucher_27 ?_
      refine lv_iconst (v := 1) hx hb dX9_voucher_30 (by decide) ?_
      obtain ⟨hi, hF⟩ := rd_use hF
      refine va_iald hx hb hK hP 1 0 (pMd_1 cI b M) rfl hi dX9_voucher_31 ?_
      refine lv_topi (fun v5 ev5 => ?_)
      have hF := hF v5 ev5
      refine lv_icmp_ge (tgt := 59) hx hb dX9_voucher_32 (by decide) (fun c6 => ?_) (fun c6 => ?_)
      · have hF := it_t hF c6
        exact after x3 _ _ _ hF hP hS (lv_sub hl [0, 1, 2, 3] rfl)
      · have hF := it_f hF c6
        refine lv_iload_n hx hb dX9_voucher_35 rfl (lv_at hl 3 rfl) ?_
        refine lv_aload_n hx hb dX9_voucher_36 rfl (lv_at hl 0 rfl) ?_
        refine lv_iload hx hb dX9_voucher_37 (lv_at hl 4 rfl) ?_
        refine lv_iload_n hx hb dX9_voucher_39 rfl (lv_at hl 1 rfl) ?_
        obtain ⟨r7, hr7, hF⟩ := bd_use hF
        refine cl_VI ⟨hx, hb, hml, hown, htb⟩ (kX9_hasFrom l D cS g cI b M x4 x1 _ hr7) (cwV 2 htb (gX9_hasFrom bw5_42) rfl rfl rfl hdX9_hasFrom ⟨Nat.le_of_ble_eq_true rfl, Nat.le_of_ble_eq_true rfl⟩) hK (hDa _) hG hA hP hS (sr_Md_Md cI b M) hl.1 rfl 0 (pMd_0 _ _ _) rfl rfl (Nat.le_of_ble_eq_true rfl) dX9_voucher_40 (fun H locs hP hS => ?_)
        refine lv_if_eq (tgt := 50) hx hb dX9_voucher_43 (by decide) (fun c8 => ?_) (fun c8 => ?_)
        · have hF := it_t hF c8
          refine lv_iconst (v := 0) hx hb dX9_voucher_50 (by decide) ?_
          exact j51 x4 x3 0 _ _ _ hF hP hS (lv_sub hl [0, 1, 2, 4] rfl)
        · have hF := it_f hF c8
          refine lv_iconst (v := 1) hx hb dX9_voucher_46 (by decide) ?_
          refine lv_goto (tgt := 51) hx hb dX9_voucher_47 (by decide) ?_
          exact j51 x4 x3 1 _ _ _ hF hP hS (lv_sub hl [0, 1, 2, 4] rfl)
  have j82 : ∀ (s0 : Int32) (H : Heap) (locs : List Loc) (ls : Array Slot), fX9_voucher_j82 M s0 = some r → va_P D vwCl (wMd cI b M) H → va_S A s.heap H locs → lv_has ls 5 [] → W p l e rmX9_voucher s m args below meth c H locs 0 0 (MQ below (qI D r (wMd cI b M) A) args s 0 0 A) (F0 m 82 ls [.int s0]) := by
    intro s0 H locs ls hF hP hS hl
    exact rt_I hx hb hr hlocks hS hP (so_use hF) dX9_voucher_82
  refine lv_aload_n hx hb dX9_voucher_0 rfl (lv_at hl 0 rfl) ?_
  refine lv_iload_n hx hb dX9_voucher_1 rfl (lv_at hl 1 rfl) ?_
  obtain ⟨r1, hr1, hF⟩ := bd_use hF
  refine cl_VI ⟨hx, hb, hml, hown, htb⟩ (kX9_isVoucher l D cS g cI b M x1 _ hr1) (cwV 1 htb (gX9_isVoucher bw4_110) rfl rfl rfl hdX9_isVoucher ⟨Nat.le_of_ble_eq_true rfl, Nat.le_of_ble_eq_true rfl⟩) hK (hDa _) hG hA hP hS (sr_Md_Md cI b M) hl.1 rfl 0 (pMd_0 _ _ _) rfl rfl (Nat.le_of_ble_eq_true rfl) dX9_voucher_2 (fun H locs hP hS => ?_)
  refine lv_if_eq (tgt := 17) hx hb dX9_voucher_5 (by decide) (fun c2 => ?_) (fun c2 => ?_)
  · have hF := it_t hF c2
    refine lv_iconst (v := (-1)) hx hb dX9_voucher_17 (by decide) ?_
    exact rt_I hx hb hr hlocks hS hP (so_use hF) dX9_voucher_18
  · have hF := it_f hF c2
    refine lv_iload_n hx hb dX9_voucher_8 rfl (lv_at hl 2 rfl) ?_
    refine lv_iconst (v := 0) hx hb dX9_voucher_9 (by decide) ?_
    refine lv_iconst (v := 2) hx hb dX9_voucher_10 (by decide) ?_
    obtain ⟨r3, hr3, hF⟩ := bd_use hF
    refine cl_SI ⟨hx, hb, hml, hown, htb⟩ (kX9_in l D cS g cI x2 0 2 _ hr3) (va_cwS 3 htb (gX9_in bw4_68) rfl rfl rfl hdX9_in ⟨Nat.le_of_ble_eq_true rfl, Nat.le_of_ble_eq_true rfl⟩) hK (hDa _) hG hA hP hS sg_nil hl.1 rfl rfl (Nat.le_of_ble_eq_true rfl) dX9_voucher_11 (fun H locs hP hS => ?_)
    refine lv_if_ne (tgt := 19) hx hb dX9_voucher_14 (by decide) (fun c4 => ?_) (fun c4 => ?_)
    · have hF := it_f hF c4
      refine lv_iconst (v := 0) hx hb dX9_voucher_19 (by decide) ?_
      refine lv_istore_n (lv' := [(3, .int 0), (0, .ref (b 0)), (1, .int x1), (2, .int x2)]) hx hb dX9_voucher_20 rfl hl (by decide) rfl (fun ls hl => ?_)
      refine lv_iconst (v := 0) hx hb dX9_voucher_21 (by decide) ?_
      refine lv_istore (lv' := [(4, .int 0), (3, .int 0), (0, .ref (b 0)), (1, .int x1), (2, .int x2)]) hx hb dX9_voucher_22 hl (by decide) rfl (fun ls hl => ?_)
      refine l24 x1 x2 _ _ 0 0 _ _ _ hF hP hS (lv_sub hl [2, 3, 4, 1, 0] rfl) ?_
      · intro y11 H locs ls hF hP hS hl
        refine lv_iload_n hx hb dX9_voucher_59 rfl (lv_at hl 2 rfl) ?_
        refine lv_iconst (v := 2) hx hb dX9_voucher_60 (by decide) ?_
        refine lv_icmp_ge (tgt := 81) hx hb dX9_voucher_61 (by decide) (fun c12 => ?_) (fun c12 => ?_)
        · have hF := it_t hF c12
          refine lv_iload_n hx hb dX9_voucher_81 rfl (lv_at hl 3 rfl) ?_
          exact j82 y11 _ _ _ hF hP hS (lv_sub hl [] rfl)
        · have hF := it_f hF c12
          refine lv_aload_n hx hb dX9_voucher_64 rfl (lv_at hl 0 rfl) ?_
          refine va_get (ci := 9) (v := .ref (b 1)) (C := RX9) (T := TX9) (N := 10) hx hb htb kin9 hown hK hP 0 (pMd_0 cI b M) rfl 0 (by decide) (htb _ bw4_25) (fun _ h9 => h9) rfl dX9_voucher_65 ?_
          refine lv_sipush (v := 501) hx hb dX9_voucher_68 (by decide) ?_
          refine lv_iconst (v := 2) hx hb dX9_voucher_71 (by decide) ?_
          refine lv_iload_n hx hb dX9_voucher_72 rfl (lv_at hl 1 rfl) ?_
          refine lv_imul hx hb dX9_voucher_73 ?_
          refine lv_iadd hx hb dX9_voucher_74 ?_
          refine lv_iload_n hx hb dX9_voucher_75 rfl (lv_at hl 2 rfl) ?_
          refine lv_iadd hx hb dX9_voucher_76 ?_
          obtain ⟨hi, hF⟩ := rd_use hF
          refine va_iald hx hb hK hP 1 0 (pMd_1 cI b M) rfl hi dX9_voucher_77 ?_
          refine lv_topi (fun v13 ev13 => ?_)
          have hF := hF v13 ev13
          refine lv_goto (tgt := 82) hx hb dX9_voucher_78 (by decide) ?_
          exact j82 v13 _ _ _ hF hP hS (lv_sub hl [] rfl)
    · have hF := it_t hF c4
      refine lv_iconst (v := (-1)) hx hb dX9_voucher_17 (by decide) ?_
      exact rt_I hx hb hr hlocks hS hP (so_use hF) dX9_voucher_18
noncomputable def fX9_sumOf_j72  (x1 : Int32) (kk : Int32 → Option (Int32)) (ih : Int32 → Int32 → Option (Int32)) (M : Md) (x3 : Int32) (s0 : Int32) (s1 : Int32) : Option (Int32) := nm (s0 + s1) fun v7 => nm (x3 + 1) fun v8 => ih v7 v8
noncomputable def fX9_sumOf_l4  (M : Md) (x1 : Int32) (kk : Int32 → Option (Int32)) : Nat → Int32 → Int32 → Option (Int32) := fun fu => Nat.rec (motive := fun _ => Int32 → Int32 → Option (Int32)) (fun _ _ => none) (fun _ ih => fun x2 x3 => Rd (M.1) 1553 1 fun v1 => if v1 ≤ x3 then (kk x2) else (if x1 = 2 then ((fX9_its M x3 4).bind fun r12 => fX9_sumOf_j72 x1 kk ih M x3 x2 r12) else (if x1 = 3 then ((fX9_its M x3 6).bind fun r11 => fX9_sumOf_j72 x1 kk ih M x3 x2 r11) else (if x1 = 4 then ((fX9_its M x3 5).bind fun r10 => fX9_sumOf_j72 x1 kk ih M x3 x2 r10) else (if x1 = 5 then ((fX9_byVouchers M x3).bind fun r9 => fX9_sumOf_j72 x1 kk ih M x3 x2 r9) else (fX9_sumOf_j72 x1 kk ih M x3 x2 0)))))) fu
theorem fX9_sumOf_l4_s  (M : Md) (x1 : Int32) (kk : Int32 → Option (Int32)) (fu : Nat) (x2 : Int32) (x3 : Int32) : fX9_sumOf_l4 M x1 kk (fu + 1) x2 x3 = (Rd (M.1) 1553 1 fun v1 => if v1 ≤ x3 then (kk x2) else (if x1 = 2 then ((fX9_its M x3 4).bind fun r12 => fX9_sumOf_j72 x1 kk (fX9_sumOf_l4 M x1 kk fu) M x3 x2 r12) else (if x1 = 3 then ((fX9_its M x3 6).bind fun r11 => fX9_sumOf_j72 x1 kk (fX9_sumOf_l4 M x1 kk fu) M x3 x2 r11) else (if x1 = 4 then ((fX9_its M x3 5).bind fun r10 => fX9_sumOf_j72 x1 kk (fX9_sumOf_l4 M x1 kk fu) M x3 x2 r10) else (if x1 = 5 then ((fX9_byVouchers M x3).bind fun r9 => fX9_sumOf_j72 x1 kk (fX9_sumOf_l4 M x1 kk fu) M x3 x2 r9) else (fX9_sumOf_j72 x1 kk (fX9_sumOf_l4 M x1 kk fu) M x3 x2 0)))))) := rfl
theorem fX9_sumOf_l4_z  (M : Md) (x1 : Int32) (kk : Int32 → Option (Int32)) (x2 : Int32) (x3 : Int32) : fX9_sumOf_l4 M x1 kk 0 x2 x3 = none := rfl
noncomputable def fX9_sumOf_j137  (x1 : Int32) (ih : Int32 → Int32 → Option (Int32)) (M : Md) (x3 : Int32) (s0 : Int32) (s1 : Int32) : Option (Int32) := nm (s0 + s1) fun v18 => nm (x3 + 1) fun v19 => ih v18 v19
noncomputable def fX9_sumOf_l82  (M : Md) (x1 : Int32) : Nat → Int32 → Int32 → Option (Int32) := fun fu => Nat.rec (motive := fun _ => Int32 → Int32 → Option (Int32)) (fun _ _ => none) (fun _ ih => fun x2 x3 => Rd (M.1) 1553 2 fun v14 => if v14 ≤ x3 then (some x2) else (if x1 = 1 then (Rd (M.1) 1553 ((501 + (2 * x3)) + 1) fun v21 => fX9_sumOf_j137 x1 ih M x3 x2 v21) else (if x1 = 6 then (Rd (M.1) 1553 (501 + (2 * x3)) fun v20 => fX9_sumOf_j137 x1 ih M x3 x2 v20) else (fX9_sumOf_j137 x1 ih M x3 x2 0)))) fu
theorem fX9_sumOf_l82_s  (M : Md) (x1 : Int32) (fu : Nat) (x2 : Int32) (x3 : Int32) : fX9_sumOf_l82 M x1 (fu + 1) x2 x3 = (Rd (M.1) 1553 2 fun v14 => if v14 ≤ x3 then (some x2) else (if x1 = 1 then (Rd (M.1) 1553 ((501 + (2 * x3)) + 1) fun v21 => fX9_sumOf_j137 x1 (fX9_sumOf_l82 M x1 fu) M x3 x2 v21) else (if x1 = 6 then (Rd (M.1) 1553 (501 + (2 * x3)) fun v20 => fX9_sumOf_j137 x1 (fX9_sumOf_l82 M x1 fu) M x3 x2 v20) else (fX9_sumOf_j137 x1 (fX9_sumOf_l82 M x1 fu) M x3 x2 0)))) := rfl
theorem fX9_sumOf_l82_z  (M : Md) (x1 : Int32) (x2 : Int32) (x3 : Int32) : fX9_sumOf_l82 M x1 0 x2 x3 = none := rfl
noncomputable def fX9_sumOf  (M : Md) (x1 : Int32) : Option (Int32) := fX9_sumOf_l4 M x1 (fun y13 => fX9_sumOf_l82 M x1 FU y13 0) FU 0 0
abbrev vX9_sumOf : List Cond := Cond.code yX9_sumOf cX9_sumOf 4 (some .int) :: BIG
theorem gX9_sumOf {own : String} {idx : Nat} (h : (Cond.methodLink own idx yX9_sumOf) ∈ BIG) : GoodIn BIG (wsV own idx RX9 yX9_sumOf vX9_sumOf) := gdV h bw5_52 bs54 bw1_11 bw5_53
def rmX9_sumOf : Room := { frames := 1, cells := 0, slots := 0, locals := 23 }
theorem hdX9_sumOf : yX9_sumOf.cls = RX9 ∧ yX9_sumOf.cls ≠ "java/lang/invoke/MethodHandle" ∧ yX9_sumOf.cls ≠ "java/lang/invoke/VarHandle" ∧ (parseMethodDescriptor yX9_sumOf.desc).map (fun d => d.parameters.length) = some 1 := by decide +kernel
set_option maxHeartbeats 4000000 in
set_option maxRecDepth 100000 in
theorem kX9_sumOf (l : Launch) (D : va_G) (cS : ClassId) (g : Nat → Nat) (cI : ClassId) (b : Nat → Nat) (M : Md) (x1 : Int32) (r : Int32) (hF : fX9_sumOf M x1 = some r) : mI l yX9_sumOf vX9_sumOf rmX9_sumOf D cI cS g [.ref (b 0), .int x1] (wMd cI b M) r (wMd cI b M) := by
  refine st_I rfl (by decide) (Nat.le_of_ble_eq_true rfl) ?_
  intro p e s m args below meth c A ls hx hb hr hml hlocks hown hts hA hK hD0 hG hP hS hl
  have hown : s.vm.findClass RX9 = some m.cls := hown
  have hDa : ∀ M, va_D A (wMd cI b M) := fun M => hD0.adr rfl
  have htb : ∀ w ∈ BIG, w.before args s = true := fun w h => hts w (List.mem_cons_of_mem _ h)
  have hl : lv_has ls 4 [(0, .ref (b 0)), (1, .int x1)] := hl
  have l4 : ∀ (x1 : Int32) (kk : Int32 → Option (Int32)) (fu : Nat) (x2 : Int32) (x3 : Int32) (H : Heap) (locs : List Loc) (ls : Array Slot), fX9_sumOf_l4 M x1 kk fu x2 x3 = some r → va_P D vwCl (wMd cI b M) H → va_S A s.heap H locs → lv_has ls 4 [(0, .ref (b 0)), (1, .int x1), (2, .int x2), (3, .int x3)] → (∀ (x2 : Int32) (H : Heap) (locs : List Loc) (ls : Array Slot), kk x2 = some r → va_P D vwCl (wMd cI b M) H → va_S A s.heap H locs → lv_has ls 4 [(0, .ref (b 0)), (1, .int x1), (2, .int x2)] → W p l e rmX9_sumOf s m args below meth c H locs 0 0 (MQ below (qI D r (wMd cI b M) A) args s 0 0 A) (F0 m 80 ls [])) → W p l e rmX9_sumOf s m args below meth c H locs 0 0 (MQ below (qI D r (wMd cI b M) A) args s 0 0 A) (F0 m 4 ls []) := by
    intro x1 kk fu
    induction fu with
    | zero => intro x2 x3 H locs ls hF; exact nn_use hF
    | succ fu ihn =>
      intro x2 x3 H locs ls hF hP hS hl after
      rw [fX9_sumOf_l4_s] at hF
      have j72 : ∀ (x3 : Int32) (s0 : Int32) (s1 : Int32) (H : Heap) (locs : List Loc) (ls : Array Slot), fX9_sumOf_j72 x1 kk (fX9_sumOf_l4 M x1 kk fu) M x3 s0 s1 = some r → va_P D vwCl (wMd cI b M) H → va_S A s.heap H locs → lv_has ls 4 [(0, .ref (b 0)), (1, .int x1), (3, .int x3)] → W p l e rmX9_sumOf s m args below meth c H locs 0 0 (MQ below (qI D r (wMd cI b M) A) args s 0 0 A) (F0 m 72 ls [.int s1, .int s0]) := by
        intro x3 s0 s1 H locs ls hF hP hS hl
        refine lv_iadd hx hb dX9_sumOf_72 ?_
        refine lv_topi (fun v7 ev7 => ?_)
        have hF := nm_use hF ev7
        refine lv_istore_n (lv' := [(2, .int v7), (0, .ref (b 0)), (1, .int x1), (3, .int x3)]) hx hb dX9_sumOf_73 rfl hl (by decide) rfl (fun ls hl => ?_)
        obtain ⟨v8, ev8⟩ : ∃ z : Int32, z = x3 + 1 := ⟨_, rfl⟩
        refine lv_iinc (v := v8) (lv' := [(3, .int v8), (2, .int v7), (0, .ref (b 0)), (1, .int x1)]) hx hb dX9_sumOf_74 hl (k := 3) rfl (by rw [ev8]; rfl) (by decide) rfl (fun ls hl => ?_)
        have hF := nm_use hF ev8
        refine lv_goto (tgt := 4) hx hb dX9_sumOf_77 (by decide) ?_
        exact ihn v7 v8 _ _ _ hF hP hS (lv_sub hl [2, 3, 1, 0] rfl) after
      refine lv_iload_n hx hb dX9_sumOf_4 rfl (lv_at hl 3 rfl) ?_
      refine lv_aload_n hx hb dX9_sumOf_5 rfl (lv_at hl 0 rfl) ?_
      refine va_get (ci := 9) (v := .ref (b 1)) (C := RX9) (T := TX9) (N := 10) hx hb htb kin9 hown hK hP 0 (pMd_0 cI b M) rfl 0 (by decide) (htb _ bw4_25) (fun _ h9 => h9) rfl dX9_sumOf_6 ?_
      refine lv_iconst (v := 1) hx hb dX9_sumOf_9 (by decide) ?_
      obtain ⟨hi, hF⟩ := rd_use hF
      refine va_iald hx hb hK hP 1 0 (pMd_1 cI b M) rfl hi dX9_sumOf_10 ?_
      refine lv_topi (fun v1 ev1 => ?_)
      have hF := hF v1 ev1
      refine lv_icmp_ge (tgt := 80) hx hb dX9_sumOf_11 (by decide) (fun c2 => ?_) (fun c2 => ?_)
      · have hF := it_t hF c2
        exact after x2 _ _ _ hF hP hS (lv_sub hl [0, 1, 2] rfl)
      · have hF := it_f hF c2
        refine lv_iload_n hx hb dX9_sumOf_14 rfl (lv_at hl 2 rfl) ?_
        refine lv_iload_n hx hb dX9_sumOf_15 rfl (lv_at hl 1 rfl) ?_
        refine lv_iconst (v := 2) hx hb dX9_sumOf_16 (by decide) ?_
        refine lv_icmp_ne (tgt := 29) hx hb dX9_sumOf_17 (by decide) (fun c3 => ?_) (fun c3 => ?_)
        · have hF := it_f hF c3
          refine lv_iload_n hx hb dX9_sumOf_29 rfl (lv_at hl 1 rfl) ?_
          refine lv_iconst (v := 3) hx hb dX9_sumOf_30 (by decide) ?_
          refine lv_icmp_ne (tgt := 44) hx hb dX9_sumOf_31 (by decide) (fun c4 => ?_) (fun c4 => ?_)
          · have hF := it_f hF c4
            refine lv_iload_n hx hb dX9_sumOf_44 rfl (lv_at hl 1 rfl) ?_
            refine lv_iconst (v := 4) hx hb dX9_sumOf_45 (by decide) ?_
            refine lv_icmp_ne (tgt := 58) hx hb dX9_sumOf_46 (by decide) (fun c5 => ?_) (fun c5 => ?_)
            · have hF := it_f hF c5
              refine lv_iload_n hx hb dX9_sumOf_58 rfl (lv_at hl 1 rfl) ?_
              refine lv_iconst (v := 5) hx hb dX9_sumOf_59 (by decide) ?_
              refine lv_icmp_ne (tgt := 71) hx hb dX9_sumOf_60 (by decide) (fun c6 => ?_) (fun c6 => ?_)
              · have hF := it_f hF c6
                refine lv_iconst (v := 0) hx hb dX9_sumOf_71 (by decide) ?_
                exact j72 x3 x2 0 _ _ _ hF hP hS (lv_sub hl [0, 1, 3] rfl)
              · have hF := it_t hF c6
                refine lv_aload_n hx hb dX9_sumOf_63 rfl (lv_at hl 0 rfl) ?_
                refine lv_iload_n hx hb dX9_sumOf_64 rfl (lv_at hl 3 rfl) ?_
                obtain ⟨r9, hr9, hF⟩ := bd_use hF
                refine cl_VI ⟨hx, hb, hml, hown, htb⟩ (kX9_byVouchers l D cS g cI b M x3 _ hr9) (cwV 1 htb (gX9_byVouchers bw4_145) rfl rfl rfl hdX9_byVouchers ⟨Nat.le_of_ble_eq_true rfl, Nat.le_of_ble_eq_true rfl⟩) hK (hDa _) hG hA hP hS (sr_Md_Md cI b M) hl.1 rfl 0 (pMd_0 _ _ _) rfl rfl (Nat.le_of_ble_eq_true rfl) dX9_sumOf_65 (fun H locs hP hS => ?_)
                refine lv_goto (tgt := 72) hx hb dX9_sumOf_68 (by decide) ?_
                exact j72 x3 x2 r9 _ _ _ hF hP hS (lv_sub hl [0, 1, 3] rfl)
            · have hF := it_t hF c5
              refine lv_aload_n hx hb dX9_sumOf_49 rfl (lv_at hl 0 rfl) ?_
              refine lv_iload_n hx hb dX9_sumOf_50 rfl (lv_at hl 3 rfl) ?_
              refine lv_iconst (v := 5) hx hb dX9_sumOf_51 (by decide) ?_
              obtain ⟨r10, hr10, hF⟩ := bd_use hF
              refine cl_VI ⟨hx, hb, hml, hown, htb⟩ (kX9_its l D cS g cI b M x3 5 _ hr10) (cwV 2 htb (gX9_its bw4_118) rfl rfl rfl hdX9_its ⟨Nat.le_of_ble_eq_true rfl, Nat.le_of_ble_eq_true rfl⟩) hK (hDa _) hG hA hP hS (sr_Md_Md cI b M) hl.1 rfl 0 (pMd_0 _ _ _) rfl rfl (Nat.le_of_ble_eq_true rfl) dX9_sumOf_52 (fun H locs hP hS => ?_)
              refine lv_goto (tgt := 72) hx hb dX9_sumOf_55 (by decide) ?_
              exact j72 x3 x2 r10 _ _ _ hF hP hS (lv_sub hl [0, 1, 3] rfl)
          · have hF := it_t hF c4
            refine lv_aload_n hx hb dX9_sumOf_34 rfl (lv_at hl 0 rfl) ?_
            refine lv_iload_n hx hb dX9_sumOf_35 rfl (lv_at hl 3 rfl) ?_
            refine lv_bipush (v := 6) hx hb dX9_sumOf_36 (by decide) ?_
            obtain ⟨r11, hr11, hF⟩ := bd_use hF
            refine cl_VI ⟨hx, hb, hml, hown, htb⟩ (kX9_its l D cS g cI b M x3 6 _ hr11) (cwV 2 htb (gX9_its bw4_118) rfl rfl rfl hdX9_its ⟨Nat.le_of_ble_eq_true rfl, Nat.le_of_ble_eq_true rfl⟩) hK (hDa _) hG hA hP hS (sr_Md_Md cI b M) hl.1 rfl 0 (pMd_0 _ _ _) rfl rfl (Nat.le_of_ble_eq_true rfl) dX9_sumOf_38 (fun H locs hP hS => ?_)
            refine lv_goto (tgt := 72) hx hb dX9_sumOf_41 (by decide) ?_
            exact j72 x3 x2 r11 _ _ _ hF hP hS (lv_sub hl [0, 1, 3] rfl)
        · have hF := it_t hF c3
          refine lv_aload_n hx hb dX9_sumOf_20 rfl (lv_at hl 0 rfl) ?_
          refine lv_iload_n hx hb dX9_sumOf_21 rfl (lv_at hl 3 rfl) ?_
          refine lv_iconst (v := 4) hx hb dX9_sumOf_22 (by decide) ?_
          obtain ⟨r12, hr12, hF⟩ := bd_use hF
          refine cl_VI ⟨hx, hb, hml, hown, htb⟩ (kX9_its l D cS g cI b M x3 4 _ hr12) (cwV 2 htb (gX9_its bw4_118) rfl rfl rfl hdX9_its ⟨Nat.le_of_ble_eq_true rfl, Nat.le_of_ble_eq_true rfl⟩) hK (hDa _) hG hA hP hS (sr_Md_Md cI b M) hl.1 rfl 0 (pMd_0 _ _ _) rfl rfl (Nat.le_of_ble_eq_true rfl) dX9_sumOf_23 (fun H locs hP hS => ?_)
          refine lv_goto (tgt := 72) hx hb dX9_sumOf_26 (by decide) ?_
          exact j72 x3 x2 r12 _ _ _ hF hP hS (lv_sub hl [0, 1, 3] rfl)
  have l82 : ∀ (x1 : Int32) (fu : Nat) (x2 : Int32) (x3 : Int32) (H : Heap) (locs : List Loc) (ls : Array Slot), fX9_sumOf_l82 M x1 fu x2 x3 = some r → va_P D vwCl (wMd cI b M) H → va_S A s.heap H locs → lv_has ls 4 [(0, .ref (b 0)), (1, .int x1), (2, .int x2), (3, .int x3)] → W p l e rmX9_sumOf s m args below meth c H locs 0 0 (MQ below (qI D r (wMd cI b M) A) args s 0 0 A) (F0 m 82 ls []) := by
    intro x1  fu
    induction fu with
    | zero => intro x2 x3 H locs ls hF; exact nn_use hF
    | succ fu ihn =>
      intro x2 x3 H locs ls hF hP hS hl 
      rw [fX9_sumOf_l82_s] at hF
      have j137 : ∀ (x3 : Int32) (s0 : Int32) (s1 : Int32) (H : Heap) (locs : List Loc) (ls : Array Slot), fX9_sumOf_j137 x1  (fX9_sumOf_l82 M x1 fu) M x3 s0 s1 = some r → va_P D vwCl (wMd cI b M) H → va_S A s.heap H locs → lv_has ls 4 [(0, .ref (b 0)), (1, .int x1), (3, .int x3)] → W p l e rmX9_sumOf s m args below meth c H locs 0 0 (MQ below (qI D r (wMd cI b M) A) args s 0 0 A) (F0 m 137 ls [.int s1, .int s0]) := by
        intro x3 s0 s1 H locs ls hF hP hS hl
        refine lv_iadd hx hb dX9_sumOf_137 ?_
        refine lv_topi (fun v18 ev18 => ?_)
        have hF := nm_use hF ev18
        refine lv_istore_n (lv' := [(2, .int v18), (0, .ref (b 0)), (1, .int x1), (3, .int x3)]) hx hb dX9_sumOf_138 rfl hl (by decide) rfl (fun ls hl => ?_)
        obtain ⟨v19, ev19⟩ : ∃ z : Int32, z = x3 + 1 := ⟨_, rfl⟩
        refine lv_iinc (v := v19) (lv' := [(3, .int v19), (2, .int v18), (0, .ref (b 0)), (1, .int x1)]) hx hb dX9_sumOf_139 hl (k := 3) rfl (by rw [ev19]; rfl) (by decide) rfl (fun ls hl => ?_)
        have hF := nm_use hF ev19
        refine lv_goto (tgt := 82) hx hb dX9_sumOf_142 (by decide) ?_
        exact ihn v18 v19 _ _ _ hF hP hS (lv_sub hl [2, 3, 1, 0] rfl)
      refine lv_iload_n hx hb dX9_sumOf_82 rfl (lv_at hl 3 rfl) ?_
      refine lv_aload_n hx hb dX9_sumOf_83 rfl (lv_at hl 0 rfl) ?_
      refine va_get (ci := 9) (v := .ref (b 1)) (C := RX9) (T := TX9) (N := 10) hx hb htb kin9 hown hK hP 0 (pMd_0 cI b M) rfl 0 (by decide) (htb _ bw4_25) (fun _ h9 => h9) rfl dX9_sumOf_84 ?_
      refine lv_iconst (v := 2) hx hb dX9_sumOf_87 (by decide) ?_
      obtain ⟨hi, hF⟩ := rd_use hF
      refine va_iald hx hb hK hP 1 0 (pMd_1 cI b M) rfl hi dX9_sumOf_88 ?_
      refine lv_topi (fun v14 ev14 => ?_)
      have hF := hF v14 ev14
      refine lv_icmp_ge (tgt := 145) hx hb dX9_sumOf_89 (by decide) (fun c15 => ?_) (fun c15 => ?_)
      · have hF := it_t hF c15
        refine lv_iload_n hx hb dX9_sumOf_145 rfl (lv_at hl 2 rfl) ?_
        exact rt_I hx hb hr hlocks hS hP (so_use hF) dX9_sumOf_146
      · have hF := it_f hF c15
        refine lv_iload_n hx hb dX9_sumOf_92 rfl (lv_at hl 2 rfl) ?_
        refine lv_iload_n hx hb dX9_sumOf_93 rfl (lv_at hl 1 rfl) ?_
        refine lv_iconst (v := 1) hx hb dX9_sumOf_94 (by decide) ?_
        refine lv_icmp_ne (tgt := 115) hx hb dX9_sumOf_95 (by decide) (fun c16 => ?_) (fun c16 => ?_)
        · have hF := it_f hF c16
          refine lv_iload_n hx hb dX9_sumOf_115 rfl (lv_at hl 1 rfl) ?_
          refine lv_bipush (v := 6) hx hb dX9_sumOf_116 (by decide) ?_
          refine lv_icmp_ne (tgt := 136) hx hb dX9_sumOf_118 (by decide) (fun c17 => ?_) (fun c17 => ?_)
          · have hF := it_f hF c17
            refine lv_iconst (v := 0) hx hb dX9_sumOf_136 (by decide) ?_
            exact j137 x3 x2 0 _ _ _ hF hP hS (lv_sub hl [0, 1, 3] rfl)
          · have hF := it_t hF c17
            refine lv_aload_n hx hb dX9_sumOf_121 rfl (lv_at hl 0 rfl) ?_
            refine va_get (ci := 9) (v := .ref (b 1)) (C := RX9) (T := TX9) (N := 10) hx hb htb kin9 hown hK hP 0 (pMd_0 cI b M) rfl 0 (by decide) (htb _ bw4_25) (fun _ h9 => h9) rfl dX9_sumOf_122 ?_
            refine lv_sipush (v := 501) hx hb dX9_sumOf_125 (by decide) ?_
            refine lv_iconst (v := 2) hx hb dX9_sumOf_128 (by decide) ?_
            refine lv_iload_n hx hb dX9_sumOf_129 rfl (lv_at hl 3 rfl) ?_
            refine lv_imul hx hb dX9_sumOf_130 ?_
            refine lv_iadd hx hb dX9_sumOf_131 ?_
            obtain ⟨hi, hF⟩ := rd_use hF
            refine va_iald hx hb hK hP 1 0 (pMd_1 cI b M) rfl hi dX9_sumOf_132 ?_
            refine lv_topi (fun v20 ev20 => ?_)
            have hF := hF v20 ev20
            refine lv_goto (tgt := 137) hx hb dX9_sumOf_133 (by decide) ?_
            exact j137 x3 x2 v20 _ _ _ hF hP hS (lv_sub hl [0, 1, 3] rfl)
        · have hF := it_t hF c16
          refine lv_aload_n hx hb dX9_sumOf_98 rfl (lv_at hl 0 rfl) ?_
          refine va_get (ci := 9) (v := .ref (b 1)) (C := RX9) (T := TX9) (N := 10) hx hb htb kin9 hown hK hP 0 (pMd_0 cI b M) rfl 0 (by decide) (htb _ bw4_25) (fun _ h9 => h9) rfl dX9_sumOf_99 ?_
          refine lv_sipush (v := 501) hx hb dX9_sumOf_102 (by decide) ?_
          refine lv_iconst (v := 2) hx hb dX9_sumOf_105 (by decide) ?_
          refine lv_iload_n hx hb dX9_sumOf_106 rfl (lv_at hl 3 rfl) ?_
          refine lv_imul hx hb dX9_sumOf_107 ?_
          refine lv_iadd hx hb dX9_sumOf_108 ?_
          refine lv_iconst (v := 1) hx hb dX9_sumOf_109 (by decide) ?_
          refine lv_iadd hx hb dX9_sumOf_110 ?_
          obtain ⟨hi, hF⟩ := rd_use hF
          refine va_iald hx hb hK hP 1 0 (pMd_1 cI b M) rfl hi dX9_sumOf_111 ?_
          refine lv_topi (fun v21 ev21 => ?_)
          have hF := hF v21 ev21
          refine lv_goto (tgt := 137) hx hb dX9_sumOf_112 (by decide) ?_
          exact j137 x3 x2 v21 _ _ _ hF hP hS (lv_sub hl [0, 1, 3] rfl)
  refine lv_iconst (v := 0) hx hb dX9_sumOf_0 (by decide) ?_
  refine lv_istore_n (lv' := [(2, .int 0), (0, .ref (b 0)), (1, .int x1)]) hx hb dX9_sumOf_1 rfl hl (by decide) rfl (fun ls hl => ?_)
  refine lv_iconst (v := 0) hx hb dX9_sumOf_2 (by decide) ?_
  refine lv_istore_n (lv' := [(3, .int 0), (2, .int 0), (0, .ref (b 0)), (1, .int x1)]) hx hb dX9_sumOf_3 rfl hl (by decide) rfl (fun ls hl => ?_)
  refine l4 x1 _ _ 0 0 _ _ _ hF hP hS (lv_sub hl [2, 3, 1, 0] rfl) ?_
  · intro y13 H locs ls hF hP hS hl
    refine lv_iconst (v := 0) hx hb dX9_sumOf_80 (by decide) ?_
    refine lv_istore_n (lv' := [(3, .int 0), (0, .ref (b 0)), (1, .int x1), (2, .int y13)]) hx hb dX9_sumOf_81 rfl hl (by decide) rfl (fun ls hl => ?_)
    refine l82 x1  _ y13 0 _ _ _ hF hP hS (lv_sub hl [1, 2, 3, 0] rfl)
noncomputable def fX9_money_j32  (M : Md) (s0 : Int32) : Option (Int32) := some s0
noncomputable def fX9_money  (M : Md) (x1 : Int32) : Option (Int32) := (fX9_in x1 0 6).bind fun r1 => if r1 = 0 then (fX9_money_j32 M (-1)) else (if x1 = 0 then (Rd (M.1) 1553 3 fun v5 => fX9_money_j32 M v5) else ((fX9_sumOf M x1).bind fun r4 => fX9_money_j32 M r4))
abbrev vX9_money : List Cond := Cond.code yX9_money cX9_money 2 (some .int) :: BIG
theorem gX9_money {own : String} {idx : Nat} (h : (Cond.methodLink own idx yX9_money) ∈ BIG) : GoodIn BIG (wsV own idx RX9 yX9_money vX9_money) := gdV h bw5_47 bw5_48 bw1_11 bw5_49
def rmX9_money : Room := { frames := 2, cells := 0, slots := 0, locals := 46 }
theorem hdX9_money : yX9_money.cls = RX9 ∧ yX9_money.cls ≠ "java/lang/invoke/MethodHandle" ∧ yX9_money.cls ≠ "java/lang/invoke/VarHandle" ∧ (parseMethodDescriptor yX9_money.desc).map (fun d => d.parameters.length) = some 1 := by decide +kernel
set_option maxHeartbeats 4000000 in
set_option maxRecDepth 100000 in
theorem kX9_money (l : Launch) (D : va_G) (cS : ClassId) (g : Nat → Nat) (cI : ClassId) (b : Nat → Nat) (M : Md) (x1 : Int32) (r : Int32) (hF : fX9_money M x1 = some r) : mI l yX9_money vX9_money rmX9_money D cI cS g [.ref (b 0), .int x1] (wMd cI b M) r (wMd cI b M) := by
  refine st_I rfl (by decide) (Nat.le_of_ble_eq_true rfl) ?_
  intro p e s m args below meth c A ls hx hb hr hml hlocks hown hts hA hK hD0 hG hP hS hl
  have hown : s.vm.findClass RX9 = some m.cls := hown
  have hDa : ∀ M, va_D A (wMd cI b M) := fun M => hD0.adr rfl
  have htb : ∀ w ∈ BIG, w.before args s = true := fun w h => hts w (List.mem_cons_of_mem _ h)
  have hl : lv_has ls 2 [(0, .ref (b 0)), (1, .int x1)] := hl
  have j32 : ∀ (s0 : Int32) (H : Heap) (locs : List Loc) (ls : Array Slot), fX9_money_j32 M s0 = some r → va_P D vwCl (wMd cI b M) H → va_S A s.heap H locs → lv_has ls 2 [] → W p l e rmX9_money s m args below meth c H locs 0 0 (MQ below (qI D r (wMd cI b M) A) args s 0 0 A) (F0 m 32 ls [.int s0]) := by
    intro s0 H locs ls hF hP hS hl
    exact rt_I hx hb hr hlocks hS hP (so_use hF) dX9_money_32
  refine lv_iload_n hx hb dX9_money_0 rfl (lv_at hl 1 rfl) ?_
  refine lv_iconst (v := 0) hx hb dX9_money_1 (by decide) ?_
  refine lv_bipush (v := 6) hx hb dX9_money_2 (by decide) ?_
  obtain ⟨r1, hr1, hF⟩ := bd_use hF
  refine cl_SI ⟨hx, hb, hml, hown, htb⟩ (kX9_in l D cS g cI x1 0 6 _ hr1) (va_cwS 3 htb (gX9_in bw4_68) rfl rfl rfl hdX9_in ⟨Nat.le_of_ble_eq_true rfl, Nat.le_of_ble_eq_true rfl⟩) hK (hDa _) hG hA hP hS sg_nil hl.1 rfl rfl (Nat.le_of_ble_eq_true rfl) dX9_money_4 (fun H locs hP hS => ?_)
  refine lv_if_ne (tgt := 14) hx hb dX9_money_7 (by decide) (fun c2 => ?_) (fun c2 => ?_)
  · have hF := it_f hF c2
    refine lv_iload_n hx hb dX9_money_14 rfl (lv_at hl 1 rfl) ?_
    refine lv_if_ne (tgt := 27) hx hb dX9_money_15 (by decide) (fun c3 => ?_) (fun c3 => ?_)
    · have hF := it_f hF c3
      refine lv_aload_n hx hb dX9_money_27 rfl (lv_at hl 0 rfl) ?_
      refine lv_iload_n hx hb dX9_money_28 rfl (lv_at hl 1 rfl) ?_
      obtain ⟨r4, hr4, hF⟩ := bd_use hF
      refine cl_VI ⟨hx, hb, hml, hown, htb⟩ (kX9_sumOf l D cS g cI b M x1 _ hr4) (cwV 1 htb (gX9_sumOf bw5_50) rfl rfl rfl hdX9_sumOf ⟨Nat.le_of_ble_eq_true rfl, Nat.le_of_ble_eq_true rfl⟩) hK (hDa _) hG hA hP hS (sr_Md_Md cI b M) hl.1 rfl 0 (pMd_0 _ _ _) rfl rfl (Nat.le_of_ble_eq_true rfl) dX9_money_29 (fun H locs hP hS => ?_)
      exact j32 r4 _ _ _ hF hP hS (lv_sub hl [] rfl)
    · have hF := it_t hF c3
      refine lv_aload_n hx hb dX9_money_18 rfl (lv_at hl 0 rfl) ?_
      refine va_get (ci := 9) (v := .ref (b 1)) (C := RX9) (T := TX9) (N := 10) hx hb htb kin9 hown hK hP 0 (pMd_0 cI b M) rfl 0 (by decide) (htb _ bw4_25) (fun _ h9 => h9) rfl dX9_money_19 ?_
      refine lv_iconst (v := 3) hx hb dX9_money_22 (by decide) ?_
      obtain ⟨hi, hF⟩ := rd_use hF
      refine va_iald hx hb hK hP 1 0 (pMd_1 cI b M) rfl hi dX9_money_23 ?_
      refine lv_topi (fun v5 ev5 => ?_)
      have hF := hF v5 ev5
      refine lv_goto (tgt := 32) hx hb dX9_money_24 (by decide) ?_
      exact j32 v5 _ _ _ hF hP hS (lv_sub hl [] rfl)
  · have hF := it_t hF c2
    refine lv_iconst (v := (-1)) hx hb dX9_money_10 (by decide) ?_
    refine lv_goto (tgt := 32) hx hb dX9_money_11 (by decide) ?_
    exact j32 (-1) _ _ _ hF hP hS (lv_sub hl [] rfl)
noncomputable def fX9_forecast_j78  (M : Md) (s0 : Int32) : Option (Int32) := some s0
noncomputable def fX9_forecast  (M : Md) (x1 : Int32) (x2 : Int32) : Option (Int32) := (fX9_isBooking M x1).bind fun r1 => if r1 = 0 then (some (-1)) else ((fX9_in x2 0 2).bind fun r3 => if r3 = 0 then (some (-1)) else ((fX9_its M x1 3).bind fun r5 => if r5 = 0 then ((fX9_startOf M x1 0).bind fun r7 => (fX9_its M x1 1).bind fun r8 => nm (r7 - r8) fun v9 => if x2 = 0 then (fX9_forecast_j78 M r7) else (if x2 = 1 then (fX9_forecast_j78 M v9) else ((fX9_its M x1 4).bind fun r12 => (fX9_shareOf M r12 v9).bind fun r13 => fX9_forecast_j78 M r13))) else (some (-9))))
abbrev vX9_forecast : List Cond := Cond.code yX9_forecast cX9_forecast 5 (some .int) :: BIG
theorem gX9_forecast {own : String} {idx : Nat} (h : (Cond.methodLink own idx yX9_forecast) ∈ BIG) : GoodIn BIG (wsV own idx RX9 yX9_forecast vX9_forecast) := gdV h bw5_55 bw5_56 bw1_11 bw5_57
def rmX9_forecast : Room := { frames := 3, cells := 0, slots := 0, locals := 72 }
theorem hdX9_forecast : yX9_forecast.cls = RX9 ∧ yX9_forecast.cls ≠ "java/lang/invoke/MethodHandle" ∧ yX9_forecast.cls ≠ "java/lang/invoke/VarHandle" ∧ (parseMethodDescriptor yX9_forecast.desc).map (fun d => d.parameters.length) = some 2 := by decide +kernel
set_option maxHeartbeats 4000000 in
set_option maxRecDepth 100000 in
theorem kX9_forecast (l : Launch) (D : va_G) (cS : ClassId) (g : Nat → Nat) (cI : ClassId) (b : Nat → Nat) (M : Md) (x1 : Int32) (x2 : Int32) (r : Int32) (hF : fX9_forecast M x1 x2 = some r) : mI l yX9_forecast vX9_forecast rmX9_forecast D cI cS g [.ref (b 0), .int x1, .int x2] (wMd cI b M) r (wMd cI b M) := by
  refine st_I rfl (by decide) (Nat.le_of_ble_eq_true rfl) ?_
  intro p e s m args below meth c A ls hx hb hr hml hlocks hown hts hA hK hD0 hG hP hS hl
  have hown : s.vm.findClass RX9 = some m.cls := hown
  have hDa : ∀ M, va_D A (wMd cI b M) := fun M => hD0.adr rfl
  have htb : ∀ w ∈ BIG, w.before args s = true := fun w h => hts w (List.mem_cons_of_mem _ h)
  have hl : lv_has ls 5 [(0, .ref (b 0)), (1, .int x1), (2, .int x2)] := hl
  have j78 : ∀ (s0 : Int32) (H : Heap) (locs : List Loc) (ls : Array Slot), fX9_forecast_j78 M s0 = some r → va_P D vwCl (wMd cI b M) H → va_S A s.heap H locs → lv_has ls 5 [] → W p l e rmX9_forecast s m args below meth c H locs 0 0 (MQ below (qI D r (wMd cI b M) A) args s 0 0 A) (F0 m 78 ls [.int s0]) := by
    intro s0 H locs ls hF hP hS hl
    exact rt_I hx hb hr hlocks hS hP (so_use hF) dX9_forecast_78
  refine lv_aload_n hx hb dX9_forecast_0 rfl (lv_at hl 0 rfl) ?_
  refine lv_iload_n hx hb dX9_forecast_1 rfl (lv_at hl 1 rfl) ?_
  obtain ⟨r1, hr1, hF⟩ := bd_use hF
  refine cl_VI ⟨hx, hb, hml, hown, htb⟩ (kX9_isBooking l D cS g cI b M x1 _ hr1) (cwV 1 htb (gX9_isBooking bw4_133) rfl rfl rfl hdX9_isBooking ⟨Nat.le_of_ble_eq_true rfl, Nat.le_of_ble_eq_true rfl⟩) hK (hDa _) hG hA hP hS (sr_Md_Md cI b M) hl.1 rfl 0 (pMd_0 _ _ _) rfl rfl (Nat.le_of_ble_eq_true rfl) dX9_forecast_2 (fun H locs hP hS => ?_)
  refine lv_if_eq (tgt := 17) hx hb dX9_forecast_5 (by decide) (fun c2 => ?_) (fun c2 => ?_)
  · have hF := it_t hF c2
    refine lv_iconst (v := (-1)) hx hb dX9_forecast_17 (by decide) ?_
    exact rt_I hx hb hr hlocks hS hP (so_use hF) dX9_forecast_18
  · have hF := it_f hF c2
    refine lv_iload_n hx hb dX9_forecast_8 rfl (lv_at hl 2 rfl) ?_
    refine lv_iconst (v := 0) hx hb dX9_forecast_9 (by decide) ?_
    refine lv_iconst (v := 2) hx hb dX9_forecast_10 (by decide) ?_
    obtain ⟨r3, hr3, hF⟩ := bd_use hF
    refine cl_SI ⟨hx, hb, hml, hown, htb⟩ (kX9_in l D cS g cI x2 0 2 _ hr3) (va_cwS 3 htb (gX9_in bw4_68) rfl rfl rfl hdX9_in ⟨Nat.le_of_ble_eq_true rfl, Nat.le_of_ble_eq_true rfl⟩) hK (hDa _) hG hA hP hS sg_nil hl.1 rfl rfl (Nat.le_of_ble_eq_true rfl) dX9_forecast_11 (fun H locs hP hS => ?_)
    refine lv_if_ne (tgt := 19) hx hb dX9_forecast_14 (by decide) (fun c4 => ?_) (fun c4 => ?_)
    · have hF := it_f hF c4
      refine lv_aload_n hx hb dX9_forecast_19 rfl (lv_at hl 0 rfl) ?_
      refine lv_iload_n hx hb dX9_forecast_20 rfl (lv_at hl 1 rfl) ?_
      refine lv_iconst (v := 3) hx hb dX9_forecast_21 (by decide) ?_
      obtain ⟨r5, hr5, hF⟩ := bd_use hF
      refine cl_VI ⟨hx, hb, hml, hown, htb⟩ (kX9_its l D cS g cI b M x1 3 _ hr5) (cwV 2 htb (gX9_its bw4_118) rfl rfl rfl hdX9_its ⟨Nat.le_of_ble_eq_true rfl, Nat.le_of_ble_eq_true rfl⟩) hK (hDa _) hG hA hP hS (sr_Md_Md cI b M) hl.1 rfl 0 (pMd_0 _ _ _) rfl rfl (Nat.le_of_ble_eq_true rfl) dX9_forecast_22 (fun H locs hP hS => ?_)
      refine lv_if_eq (tgt := 31) hx hb dX9_forecast_25 (by decide) (fun c6 => ?_) (fun c6 => ?_)
      · have hF := it_t hF c6
        refine lv_aload_n hx hb dX9_forecast_31 rfl (lv_at hl 0 rfl) ?_
        refine lv_iload_n hx hb dX9_forecast_32 rfl (lv_at hl 1 rfl) ?_
        refine lv_iconst (v := 0) hx hb dX9_forecast_33 (by decide) ?_
        obtain ⟨r7, hr7, hF⟩ := bd_use hF
        refine cl_VI ⟨hx, hb, hml, hown, htb⟩ (kX9_startOf l D cS g cI b M x1 0 _ hr7) (cwV 2 htb (gX9_startOf bw4_149) rfl rfl rfl hdX9_startOf ⟨Nat.le_of_ble_eq_true rfl, Nat.le_of_ble_eq_true rfl⟩) hK (hDa _) hG hA hP hS (sr_Md_Md cI b M) hl.1 rfl 0 (pMd_0 _ _ _) rfl rfl (Nat.le_of_ble_eq_true rfl) dX9_forecast_34 (fun H locs hP hS => ?_)
        refine lv_istore_n (lv' := [(3, .int r7), (0, .ref (b 0)), (1, .int x1), (2, .int x2)]) hx hb dX9_forecast_37 rfl hl (by decide) rfl (fun ls hl => ?_)
        refine lv_iload_n hx hb dX9_forecast_38 rfl (lv_at hl 0 rfl) ?_
        refine lv_aload_n hx hb dX9_forecast_39 rfl (lv_at hl 1 rfl) ?_
        refine lv_iload_n hx hb dX9_forecast_40 rfl (lv_at hl 2 rfl) ?_
        refine lv_iconst (v := 1) hx hb dX9_forecast_41 (by decide) ?_
        obtain ⟨r8, hr8, hF⟩ := bd_use hF
        refine cl_VI ⟨hx, hb, hml, hown, htb⟩ (kX9_its l D cS g cI b M x1 1 _ hr8) (cwV 2 htb (gX9_its bw4_118) rfl rfl rfl hdX9_its ⟨Nat.le_of_ble_eq_true rfl, Nat.le_of_ble_eq_true rfl⟩) hK (hDa _) hG hA hP hS (sr_Md_Md cI b M) hl.1 rfl 0 (pMd_0 _ _ _) rfl rfl (Nat.le_of_ble_eq_true rfl) dX9_forecast_42 (fun H locs hP hS => ?_)
        refine lv_isub hx hb dX9_forecast_45 ?_
        refine lv_topi (fun v9 ev9 => ?_)
        have hF := nm_use hF ev9
        refine lv_istore (lv' := [(4, .int v9), (3, .int r7), (0, .ref (b 0)), (1, .int x1), (2, .int x2)]) hx hb dX9_forecast_46 hl (by decide) rfl (fun ls hl => ?_)
        refine lv_iload_n hx hb dX9_forecast_48 rfl (lv_at hl 4 rfl) ?_
        refine lv_if_ne (tgt := 56) hx hb dX9_forecast_49 (by decide) (fun c10 => ?_) (fun c10 => ?_)
        · have hF := it_f hF c10
          refine lv_iload_n hx hb dX9_forecast_56 rfl (lv_at hl 4 rfl) ?_
          refine lv_iconst (v := 1) hx hb dX9_forecast_57 (by decide) ?_
          refine lv_icmp_ne (tgt := 66) hx hb dX9_forecast_58 (by decide) (fun c11 => ?_) (fun c11 => ?_)
          · have hF := it_f hF c11
            refine lv_aload_n hx hb dX9_forecast_66 rfl (lv_at hl 2 rfl) ?_
            refine lv_aload_n hx hb dX9_forecast_67 rfl (lv_at hl 2 rfl) ?_
            refine lv_iload_n hx hb dX9_forecast_68 rfl (lv_at hl 3 rfl) ?_
            refine lv_iconst (v := 4) hx hb dX9_forecast_69 (by decide) ?_
            obtain ⟨r12, hr12, hF⟩ := bd_use hF
            refine cl_VI ⟨hx, hb, hml, hown, htb⟩ (kX9_its l D cS g cI b M x1 4 _ hr12) (cwV 2 htb (gX9_its bw4_118) rfl rfl rfl hdX9_its ⟨Nat.le_of_ble_eq_true rfl, Nat.le_of_ble_eq_true rfl⟩) hK (hDa _) hG hA hP hS (sr_Md_Md cI b M) hl.1 rfl 0 (pMd_0 _ _ _) rfl rfl (Nat.le_of_ble_eq_true rfl) dX9_forecast_70 (fun H locs hP hS => ?_)
            refine lv_iload hx hb dX9_forecast_73 (lv_at hl 0 rfl) ?_
            obtain ⟨r13, hr13, hF⟩ := bd_use hF
            refine cl_VI ⟨hx, hb, hml, hown, htb⟩ (kX9_shareOf l D cS g cI b M r12 v9 _ hr13) (cwV 2 htb (gX9_shareOf bw4_188) rfl rfl rfl hdX9_shareOf ⟨Nat.le_of_ble_eq_true rfl, Nat.le_of_ble_eq_true rfl⟩) hK (hDa _) hG hA hP hS (sr_Md_Md cI b M) hl.1 rfl 0 (pMd_0 _ _ _) rfl rfl (Nat.le_of_ble_eq_true rfl) dX9_forecast_75 (fun H locs hP hS => ?_)
            exact j78 r13 _ _ _ hF hP hS (lv_sub hl [] rfl)
          · have hF := it_t hF c11
            refine lv_iload hx hb dX9_forecast_61 (lv_at hl 0 rfl) ?_
            refine lv_goto (tgt := 78) hx hb dX9_forecast_63 (by decide) ?_
            exact j78 v9 _ _ _ hF hP hS (lv_sub hl [] rfl)
        · have hF := it_t hF c10
          refine lv_iload_n hx hb dX9_forecast_52 rfl (lv_at hl 1 rfl) ?_
          refine lv_goto (tgt := 78) hx hb dX9_forecast_53 (by decide) ?_
          exact j78 r7 _ _ _ hF hP hS (lv_sub hl [] rfl)
      · have hF := it_f hF c6
        refine lv_bipush (v := (-9)) hx hb dX9_forecast_28 (by decide) ?_
        exact rt_I hx hb hr hlocks hS hP (so_use hF) dX9_forecast_30
    · have hF := it_t hF c4
      refine lv_iconst (v := (-1)) hx hb dX9_forecast_17 (by decide) ?_
      exact rt_I hx hb hr hlocks hS hP (so_use hF) dX9_forecast_18
noncomputable def fX9_freeTime_l23  (M : Md) (x1 : Int32) : Nat → Int32 → Option (Int32) := fun fu => Nat.rec (motive := fun _ => Int32 → Option (Int32)) (fun _ => none) (fun _ ih => fun x3 => if 720 < x3 then (some (-9)) else ((fX9_isPossible M x1 x3 (-9)).bind fun r6 => if r6 = 0 then (nm (x3 + 1) fun v8 => ih v8) else (some x3))) fu
theorem fX9_freeTime_l23_s  (M : Md) (x1 : Int32) (fu : Nat) (x3 : Int32) : fX9_freeTime_l23 M x1 (fu + 1) x3 = (if 720 < x3 then (some (-9)) else ((fX9_isPossible M x1 x3 (-9)).bind fun r6 => if r6 = 0 then (nm (x3 + 1) fun v8 => (fX9_freeTime_l23 M x1 fu) v8) else (some x3))) := rfl
theorem fX9_freeTime_l23_z  (M : Md) (x1 : Int32) (x3 : Int32) : fX9_freeTime_l23 M x1 0 x3 = none := rfl
noncomputable def fX9_freeTime  (M : Md) (x1 : Int32) (x2 : Int32) : Option (Int32) := (fX9_isRoom M x1).bind fun r1 => if r1 = 0 then (some (-1)) else ((fX9_in x2 0 720).bind fun r3 => if r3 = 0 then (some (-1)) else (fX9_freeTime_l23 M x1 FU x2))
abbrev vX9_freeTime : List Cond := Cond.code yX9_freeTime cX9_freeTime 4 (some .int) :: BIG
theorem gX9_freeTime {own : String} {idx : Nat} (h : (Cond.methodLink own idx yX9_freeTime) ∈ BIG) : GoodIn BIG (wsV own idx RX9 yX9_freeTime vX9_freeTime) := gdV h bw5_59 bw5_60 bw1_11 bw5_61
def rmX9_freeTime : Room := { frames := 2, cells := 0, slots := 0, locals := 48 }
theorem hdX9_freeTime : yX9_freeTime.cls = RX9 ∧ yX9_freeTime.cls ≠ "java/lang/invoke/MethodHandle" ∧ yX9_freeTime.cls ≠ "java/lang/invoke/VarHandle" ∧ (parseMethodDescriptor yX9_freeTime.desc).map (fun d => d.parameters.length) = some 2 := by decide +kernel
set_option maxHeartbeats 4000000 in
set_option maxRecDepth 100000 in
theorem kX9_freeTime (l : Launch) (D : va_G) (cS : ClassId) (g : Nat → Nat) (cI : ClassId) (b : Nat → Nat) (M : Md) (x1 : Int32) (x2 : Int32) (r : Int32) (hF : fX9_freeTime M x1 x2 = some r) : mI l yX9_freeTime vX9_freeTime rmX9_freeTime D cI cS g [.ref (b 0), .int x1, .int x2] (wMd cI b M) r (wMd cI b M) := by
  refine st_I rfl (by decide) (Nat.le_of_ble_eq_true rfl) ?_
  intro p e s m args below meth c A ls hx hb hr hml hlocks hown hts hA hK hD0 hG hP hS hl
  have hown : s.vm.findClass RX9 = some m.cls := hown
  have hDa : ∀ M, va_D A (wMd cI b M) := fun M => hD0.adr rfl
  have htb : ∀ w ∈ BIG, w.before args s = true := fun w h => hts w (List.mem_cons_of_mem _ h)
  have hl : lv_has ls 4 [(0, .ref (b 0)), (1, .int x1), (2, .int x2)] := hl
  have l23 : ∀ (x1 : Int32) (fu : Nat) (x3 : Int32) (H : Heap) (locs : List Loc) (ls : Array Slot), fX9_freeTime_l23 M x1 fu x3 = some r → va_P D vwCl (wMd cI b M) H → va_S A s.heap H locs → lv_has ls 4 [(0, .ref (b 0)), (1, .int x1), (3, .int x3)] → W p l e rmX9_freeTime s m args below meth c H locs 0 0 (MQ below (qI D r (wMd cI b M) A) args s 0 0 A) (F0 m 23 ls []) := by
    intro x1  fu
    induction fu with
    | zero => intro x3 H locs ls hF; exact nn_use hF
    | succ fu ihn =>
      intro x3 H locs ls hF hP hS hl 
      rw [fX9_freeTime_l23_s] at hF
      refine lv_iload_n hx hb dX9_freeTime_23 rfl (lv_at hl 2 rfl) ?_
      refine lv_sipush (v := 720) hx hb dX9_freeTime_24 (by decide) ?_
      refine lv_icmp_gt (tgt := 49) hx hb dX9_freeTime_27 (by decide) (fun c5 => ?_) (fun c5 => ?_)
      · have hF := it_t hF c5
        refine lv_bipush (v := (-9)) hx hb dX9_freeTime_49 (by decide) ?_
        exact rt_I hx hb hr hlocks hS hP (so_use hF) dX9_freeTime_51
      · have hF := it_f hF c5
        refine lv_aload_n hx hb dX9_freeTime_30 rfl (lv_at hl 0 rfl) ?_
        refine lv_iload_n hx hb dX9_freeTime_31 rfl (lv_at hl 1 rfl) ?_
        refine lv_iload_n hx hb dX9_freeTime_32 rfl (lv_at hl 2 rfl) ?_
        refine lv_bipush (v := (-9)) hx hb dX9_freeTime_33 (by decide) ?_
        obtain ⟨r6, hr6, hF⟩ := bd_use hF
        refine cl_VI ⟨hx, hb, hml, hown, htb⟩ (kX9_isPossible l D cS g cI b M x1 x3 (-9) _ hr6) (cwV 3 htb (gX9_isPossible bw4_114) rfl rfl rfl hdX9_isPossible ⟨Nat.le_of_ble_eq_true rfl, Nat.le_of_ble_eq_true rfl⟩) hK (hDa _) hG hA hP hS (sr_Md_Md cI b M) hl.1 rfl 0 (pMd_0 _ _ _) rfl rfl (Nat.le_of_ble_eq_true rfl) dX9_freeTime_35 (fun H locs hP hS => ?_)
        refine lv_if_eq (tgt := 43) hx hb dX9_freeTime_38 (by decide) (fun c7 => ?_) (fun c7 => ?_)
        · have hF := it_t hF c7
          obtain ⟨v8, ev8⟩ : ∃ z : Int32, z = x3 + 1 := ⟨_, rfl⟩
          refine lv_iinc (v := v8) (lv' := [(3, .int v8), (0, .ref (b 0)), (1, .int x1)]) hx hb dX9_freeTime_43 hl (k := 2) rfl (by rw [ev8]; rfl) (by decide) rfl (fun ls hl => ?_)
          have hF := nm_use hF ev8
          refine lv_goto (tgt := 23) hx hb dX9_freeTime_46 (by decide) ?_
          exact ihn v8 _ _ _ hF hP hS (lv_sub hl [1, 2, 0] rfl)
        · have hF := it_f hF c7
          refine lv_iload_n hx hb dX9_freeTime_41 rfl (lv_at hl 2 rfl) ?_
          exact rt_I hx hb hr hlocks hS hP (so_use hF) dX9_freeTime_42
  refine lv_aload_n hx hb dX9_freeTime_0 rfl (lv_at hl 0 rfl) ?_
  refine lv_iload_n hx hb dX9_freeTime_1 rfl (lv_at hl 1 rfl) ?_
  obtain ⟨r1, hr1, hF⟩ := bd_use hF
  refine cl_VI ⟨hx, hb, hml, hown, htb⟩ (kX9_isRoom l D cS g cI b M x1 _ hr1) (cwV 1 htb (gX9_isRoom bw4_79) rfl rfl rfl hdX9_isRoom ⟨Nat.le_of_ble_eq_true rfl, Nat.le_of_ble_eq_true rfl⟩) hK (hDa _) hG hA hP hS (sr_Md_Md cI b M) hl.1 rfl 0 (pMd_0 _ _ _) rfl rfl (Nat.le_of_ble_eq_true rfl) dX9_freeTime_2 (fun H locs hP hS => ?_)
  refine lv_if_eq (tgt := 19) hx hb dX9_freeTime_5 (by decide) (fun c2 => ?_) (fun c2 => ?_)
  · have hF := it_t hF c2
    refine lv_iconst (v := (-1)) hx hb dX9_freeTime_19 (by decide) ?_
    exact rt_I hx hb hr hlocks hS hP (so_use hF) dX9_freeTime_20
  · have hF := it_f hF c2
    refine lv_iload_n hx hb dX9_freeTime_8 rfl (lv_at hl 2 rfl) ?_
    refine lv_iconst (v := 0) hx hb dX9_freeTime_9 (by decide) ?_
    refine lv_sipush (v := 720) hx hb dX9_freeTime_10 (by decide) ?_
    obtain ⟨r3, hr3, hF⟩ := bd_use hF
    refine cl_SI ⟨hx, hb, hml, hown, htb⟩ (kX9_in l D cS g cI x2 0 720 _ hr3) (va_cwS 3 htb (gX9_in bw4_68) rfl rfl rfl hdX9_in ⟨Nat.le_of_ble_eq_true rfl, Nat.le_of_ble_eq_true rfl⟩) hK (hDa _) hG hA hP hS sg_nil hl.1 rfl rfl (Nat.le_of_ble_eq_true rfl) dX9_freeTime_13 (fun H locs hP hS => ?_)
    refine lv_if_ne (tgt := 21) hx hb dX9_freeTime_16 (by decide) (fun c4 => ?_) (fun c4 => ?_)
    · have hF := it_f hF c4
      refine lv_iload_n hx hb dX9_freeTime_21 rfl (lv_at hl 2 rfl) ?_
      refine lv_istore_n (lv' := [(3, .int x2), (0, .ref (b 0)), (1, .int x1), (2, .int x2)]) hx hb dX9_freeTime_22 rfl hl (by decide) rfl (fun ls hl => ?_)
      refine l23 x1  _ x2 _ _ _ hF hP hS (lv_sub hl [1, 2, 0] rfl)
    · have hF := it_t hF c4
      refine lv_iconst (v := (-1)) hx hb dX9_freeTime_19 (by decide) ?_
      exact rt_I hx hb hr hlocks hS hP (so_use hF) dX9_freeTime_20
noncomputable def fX9_areMergeable_j77  (M : Md) (s0 : Int32) : Option (Int32) := Zb s0 (some s0)
noncomputable def fX9_areMergeable_j76  (M : Md) : Option (Int32) := fX9_areMergeable_j77 M 0
noncomputable def fX9_areMergeable_j43  (M : Md) (x1 : Int32) (x2 : Int32) (x3 : Int32) (s0 : Int32) : Option (Int32) := if s0 = 0 then (fX9_areMergeable_j76 M) else ((fX9_its M x1 2).bind fun r4 => (fX9_its M x2 2).bind fun r5 => (fX9_of M x3 3).bind fun r6 => if r6 < (r4 + r5) then (fX9_areMergeable_j76 M) else (fX9_areMergeable_j77 M 1))
noncomputable def fX9_areMergeable_j42  (M : Md) (x1 : Int32) (x2 : Int32) (x3 : Int32) : Option (Int32) := fX9_areMergeable_j43 M x1 x2 x3 0
noncomputable def fX9_areMergeable  (M : Md) (x1 : Int32) (x2 : Int32) (x3 : Int32) : Option (Int32) := (fX9_its M x1 3).bind fun r1 => if r1 = 0 then ((fX9_its M x2 3).bind fun r8 => if r8 = 0 then ((fX9_its M x1 0).bind fun r10 => if r10 = x3 then ((fX9_its M x2 0).bind fun r12 => if r12 = x3 then (fX9_areMergeable_j43 M x1 x2 x3 1) else (fX9_areMergeable_j42 M x1 x2 x3)) else (fX9_areMergeable_j42 M x1 x2 x3)) else (fX9_areMergeable_j42 M x1 x2 x3)) else (fX9_areMergeable_j42 M x1 x2 x3)
abbrev vX9_areMergeable : List Cond := Cond.code yX9_areMergeable cX9_areMergeable 5 (some .boolean) :: BIG
theorem gX9_areMergeable {own : String} {idx : Nat} (h : (Cond.methodLink own idx yX9_areMergeable) ∈ BIG) : GoodIn BIG (wsV own idx RX9 yX9_areMergeable vX9_areMergeable) := gdV h bw5_68 bs55 bw1_11 bw5_69
def rmX9_areMergeable : Room := { frames := 1, cells := 0, slots := 0, locals := 22 }
theorem hdX9_areMergeable : yX9_areMergeable.cls = RX9 ∧ yX9_areMergeable.cls ≠ "java/lang/invoke/MethodHandle" ∧ yX9_areMergeable.cls ≠ "java/lang/invoke/VarHandle" ∧ (parseMethodDescriptor yX9_areMergeable.desc).map (fun d => d.parameters.length) = some 3 := by decide +kernel
set_option maxHeartbeats 4000000 in
set_option maxRecDepth 100000 in
theorem kX9_areMergeable (l : Launch) (D : va_G) (cS : ClassId) (g : Nat → Nat) (cI : ClassId) (b : Nat → Nat) (M : Md) (x1 : Int32) (x2 : Int32) (x3 : Int32) (r : Int32) (hF : fX9_areMergeable M x1 x2 x3 = some r) : mI l yX9_areMergeable vX9_areMergeable rmX9_areMergeable D cI cS g [.ref (b 0), .int x1, .int x2, .int x3] (wMd cI b M) r (wMd cI b M) := by
  refine st_I rfl (by decide) (Nat.le_of_ble_eq_true rfl) ?_
  intro p e s m args below meth c A ls hx hb hr hml hlocks hown hts hA hK hD0 hG hP hS hl
  have hown : s.vm.findClass RX9 = some m.cls := hown
  have hDa : ∀ M, va_D A (wMd cI b M) := fun M => hD0.adr rfl
  have htb : ∀ w ∈ BIG, w.before args s = true := fun w h => hts w (List.mem_cons_of_mem _ h)
  have hl : lv_has ls 5 [(0, .ref (b 0)), (1, .int x1), (2, .int x2), (3, .int x3)] := hl
  have j77 : ∀ (s0 : Int32) (H : Heap) (locs : List Loc) (ls : Array Slot), fX9_areMergeable_j77 M s0 = some r → va_P D vwCl (wMd cI b M) H → va_S A s.heap H locs → lv_has ls 5 [] → W p l e rmX9_areMergeable s m args below meth c H locs 0 0 (MQ below (qI D r (wMd cI b M) A) args s 0 0 A) (F0 m 77 ls [.int s0]) := by
    intro s0 H locs ls hF hP hS hl
    obtain ⟨hz, hF⟩ := zb_use hF
    exact rt_Z hx hb hr hlocks hS hP hz (so_use hF) dX9_areMergeable_77
  have j76 : ∀ (H : Heap) (locs : List Loc) (ls : Array Slot), fX9_areMergeable_j76 M = some r → va_P D vwCl (wMd cI b M) H → va_S A s.heap H locs → lv_has ls 5 [] → W p l e rmX9_areMergeable s m args below meth c H locs 0 0 (MQ below (qI D r (wMd cI b M) A) args s 0 0 A) (F0 m 76 ls []) := by
    intro H locs ls hF hP hS hl
    refine lv_iconst (v := 0) hx hb dX9_areMergeable_76 (by decide) ?_
    exact j77 0 _ _ _ hF hP hS (lv_sub hl [] rfl)
  have j43 : ∀ (x1 : Int32) (x2 : Int32) (x3 : Int32) (s0 : Int32) (H : Heap) (locs : List Loc) (ls : Array Slot), fX9_areMergeable_j43 M x1 x2 x3 s0 = some r → va_P D vwCl (wMd cI b M) H → va_S A s.heap H locs → lv_has ls 5 [(0, .ref (b 0)), (1, .int x1), (2, .int x2), (3, .int x3)] → W p l e rmX9_areMergeable s m args below meth c H locs 0 0 (MQ below (qI D r (wMd cI b M) A) args s 0 0 A) (F0 m 43 ls [.int s0]) := by
    intro x1 x2 x3 s0 H locs ls hF hP hS hl
    refine lv_istore (lv' := [(4, .int s0), (0, .ref (b 0)), (1, .int x1), (2, .int x2), (3, .int x3)]) hx hb dX9_areMergeable_43 hl (by decide) rfl (fun ls hl => ?_)
    refine lv_iload hx hb dX9_areMergeable_45 (lv_at hl 0 rfl) ?_
    refine lv_if_eq (tgt := 76) hx hb dX9_areMergeable_47 (by decide) (fun c3 => ?_) (fun c3 => ?_)
    · have hF := it_t hF c3
      exact j76  _ _ _ hF hP hS (lv_sub hl [] rfl)
    · have hF := it_f hF c3
      refine lv_aload_n hx hb dX9_areMergeable_50 rfl (lv_at hl 1 rfl) ?_
      refine lv_iload_n hx hb dX9_areMergeable_51 rfl (lv_at hl 2 rfl) ?_
      refine lv_iconst (v := 2) hx hb dX9_areMergeable_52 (by decide) ?_
      obtain ⟨r4, hr4, hF⟩ := bd_use hF
      refine cl_VI ⟨hx, hb, hml, hown, htb⟩ (kX9_its l D cS g cI b M x1 2 _ hr4) (cwV 2 htb (gX9_its bw4_118) rfl rfl rfl hdX9_its ⟨Nat.le_of_ble_eq_true rfl, Nat.le_of_ble_eq_true rfl⟩) hK (hDa _) hG hA hP hS (sr_Md_Md cI b M) hl.1 rfl 0 (pMd_0 _ _ _) rfl rfl (Nat.le_of_ble_eq_true rfl) dX9_areMergeable_53 (fun H locs hP hS => ?_)
      refine lv_aload_n hx hb dX9_areMergeable_56 rfl (lv_at hl 1 rfl) ?_
      refine lv_iload_n hx hb dX9_areMergeable_57 rfl (lv_at hl 3 rfl) ?_
      refine lv_iconst (v := 2) hx hb dX9_areMergeable_58 (by decide) ?_
      obtain ⟨r5, hr5, hF⟩ := bd_use hF
      refine cl_VI ⟨hx, hb, hml, hown, htb⟩ (kX9_its l D cS g cI b M x2 2 _ hr5) (cwV 2 htb (gX9_its bw4_118) rfl rfl rfl hdX9_its ⟨Nat.le_of_ble_eq_true rfl, Nat.le_of_ble_eq_true rfl⟩) hK (hDa _) hG hA hP hS (sr_Md_Md cI b M) hl.1 rfl 0 (pMd_0 _ _ _) rfl rfl (Nat.le_of_ble_eq_true rfl) dX9_areMergeable_59 (fun H locs hP hS => ?_)
      refine lv_iadd hx hb dX9_areMergeable_62 ?_
      refine lv_aload_n hx hb dX9_areMergeable_63 rfl (lv_at hl 1 rfl) ?_
      refine lv_iload_n hx hb dX9_areMergeable_64 rfl (lv_at hl 4 rfl) ?_
      refine lv_iconst (v := 3) hx hb dX9_areMergeable_65 (by decide) ?_
      obtain ⟨r6, hr6, hF⟩ := bd_use hF
      refine cl_VI ⟨hx, hb, hml, hown, htb⟩ (kX9_of l D cS g cI b M x3 3 _ hr6) (cwV 2 htb (gX9_of bw4_83) rfl rfl rfl hdX9_of ⟨Nat.le_of_ble_eq_true rfl, Nat.le_of_ble_eq_true rfl⟩) hK (hDa _) hG hA hP hS (sr_Md_Md cI b M) hl.1 rfl 0 (pMd_0 _ _ _) rfl rfl (Nat.le_of_ble_eq_true rfl) dX9_areMergeable_66 (fun H locs hP hS => ?_)
      refine lv_icmp_gt (tgt := 76) hx hb dX9_areMergeable_69 (by decide) (fun c7 => ?_) (fun c7 => ?_)
      · have hF := it_t hF c7
        exact j76  _ _ _ hF hP hS (lv_sub hl [] rfl)
      · have hF := it_f hF c7
        refine lv_iconst (v := 1) hx hb dX9_areMergeable_72 (by decide) ?_
        refine lv_goto (tgt := 77) hx hb dX9_areMergeable_73 (by decide) ?_
        exact j77 1 _ _ _ hF hP hS (lv_sub hl [] rfl)
  have j42 : ∀ (x1 : Int32) (x2 : Int32) (x3 : Int32) (H : Heap) (locs : List Loc) (ls : Array Slot), fX9_areMergeable_j42 M x1 x2 x3 = some r → va_P D vwCl (wMd cI b M) H → va_S A s.heap H locs → lv_has ls 5 [(0, .ref (b 0)), (1, .int x1), (2, .int x2), (3, .int x3)] → W p l e rmX9_areMergeable s m args below meth c H locs 0 0 (MQ below (qI D r (wMd cI b M) A) args s 0 0 A) (F0 m 42 ls []) := by
    intro x1 x2 x3 H locs ls hF hP hS hl
    refine lv_iconst (v := 0) hx hb dX9_areMergeable_42 (by decide) ?_
    exact j43 x1 x2 x3 0 _ _ _ hF hP hS (lv_sub hl [0, 1, 2, 3] rfl)
  refine lv_aload_n hx hb dX9_areMergeable_0 rfl (lv_at hl 0 rfl) ?_
  refine lv_iload_n hx hb dX9_areMergeable_1 rfl (lv_at hl 1 rfl) ?_
  refine lv_iconst (v := 3) hx hb dX9_areMergeable_2 (by decide) ?_
  obtain ⟨r1, hr1, hF⟩ := bd_use hF
  refine cl_VI ⟨hx, hb, hml, hown, htb⟩ (kX9_its l D cS g cI b M x1 3 _ hr1) (cwV 2 htb (gX9_its bw4_118) rfl rfl rfl hdX9_its ⟨Nat.le_of_ble_eq_true rfl, Nat.le_of_ble_eq_true rfl⟩) hK (hDa _) hG hA hP hS (sr_Md_Md cI b M) hl.1 rfl 0 (pMd_0 _ _ _) rfl rfl (Nat.le_of_ble_eq_true rfl) dX9_areMergeable_3 (fun H locs hP hS => ?_)
  refine lv_if_ne (tgt := 42) hx hb dX9_areMergeable_6 (by decide) (fun c2 => ?_) (fun c2 => ?_)
  · have hF := it_f hF c2
    exact j42 x1 x2 x3 _ _ _ hF hP hS (lv_sub hl [0, 1, 2, 3] rfl)
  · have hF := it_t hF c2
    refine lv_aload_n hx hb dX9_areMergeable_9 rfl (lv_at hl 0 rfl) ?_
    refine lv_iload_n hx hb dX9_areMergeable_10 rfl (lv_at hl 2 rfl) ?_
    refine lv_iconst (v := 3) hx hb dX9_areMergeable_11 (by decide) ?_
    obtain ⟨r8, hr8, hF⟩ := bd_use hF
    refine cl_VI ⟨hx, hb, hml, hown, htb⟩ (kX9_its l D cS g cI b M x2 3 _ hr8) (cwV 2 htb (gX9_its bw4_118) rfl rfl rfl hdX9_its ⟨Nat.le_of_ble_eq_true rfl, Nat.le_of_ble_eq_true rfl⟩) hK (hDa _) hG hA hP hS (sr_Md_Md cI b M) hl.1 rfl 0 (pMd_0 _ _ _) rfl rfl (Nat.le_of_ble_eq_true rfl) dX9_areMergeable_12 (fun H locs hP hS => ?_)
    refine lv_if_ne (tgt := 42) hx hb dX9_areMergeable_15 (by decide) (fun c9 => ?_) (fun c9 => ?_)
    · have hF := it_f hF c9
      exact j42 x1 x2 x3 _ _ _ hF hP hS (lv_sub hl [0, 1, 2, 3] rfl)
    · have hF := it_t hF c9
      refine lv_aload_n hx hb dX9_areMergeable_18 rfl (lv_at hl 0 rfl) ?_
      refine lv_iload_n hx hb dX9_areMergeable_19 rfl (lv_at hl 1 rfl) ?_
      refine lv_iconst (v := 0) hx hb dX9_areMergeable_20 (by decide) ?_
      obtain ⟨r10, hr10, hF⟩ := bd_use hF
      refine cl_VI ⟨hx, hb, hml, hown, htb⟩ (kX9_its l D cS g cI b M x1 0 _ hr10) (cwV 2 htb (gX9_its bw4_118) rfl rfl rfl hdX9_its ⟨Nat.le_of_ble_eq_true rfl, Nat.le_of_ble_eq_true rfl⟩) hK (hDa _) hG hA hP hS (sr_Md_Md cI b M) hl.1 rfl 0 (pMd_0 _ _ _) rfl rfl (Nat.le_of_ble_eq_true rfl) dX9_areMergeable_21 (fun H locs hP hS => ?_)
      refine lv_iload_n hx hb dX9_areMergeable_24 rfl (lv_at hl 3 rfl) ?_
      refine lv_icmp_ne (tgt := 42) hx hb dX9_areMergeable_25 (by decide) (fun c11 => ?_) (fun c11 => ?_)
      · have hF := it_f hF c11
        exact j42 x1 x2 x3 _ _ _ hF hP hS (lv_sub hl [0, 1, 2, 3] rfl)
      · have hF := it_t hF c11
        refine lv_aload_n hx hb dX9_areMergeable_28 rfl (lv_at hl 0 rfl) ?_
        refine lv_iload_n hx hb dX9_areMergeable_29 rfl (lv_at hl 2 rfl) ?_
        refine lv_iconst (v := 0) hx hb dX9_areMergeable_30 (by decide) ?_
        obtain ⟨r12, hr12, hF⟩ := bd_use hF
        refine cl_VI ⟨hx, hb, hml, hown, htb⟩ (kX9_its l D cS g cI b M x2 0 _ hr12) (cwV 2 htb (gX9_its bw4_118) rfl rfl rfl hdX9_its ⟨Nat.le_of_ble_eq_true rfl, Nat.le_of_ble_eq_true rfl⟩) hK (hDa _) hG hA hP hS (sr_Md_Md cI b M) hl.1 rfl 0 (pMd_0 _ _ _) rfl rfl (Nat.le_of_ble_eq_true rfl) dX9_areMergeable_31 (fun H locs hP hS => ?_)
        refine lv_iload_n hx hb dX9_areMergeable_34 rfl (lv_at hl 3 rfl) ?_
        refine lv_icmp_ne (tgt := 42) hx hb dX9_areMergeable_35 (by decide) (fun c13 => ?_) (fun c13 => ?_)
        · have hF := it_f hF c13
          exact j42 x1 x2 x3 _ _ _ hF hP hS (lv_sub hl [0, 1, 2, 3] rfl)
        · have hF := it_t hF c13
          refine lv_iconst (v := 1) hx hb dX9_areMergeable_38 (by decide) ?_
          refine lv_goto (tgt := 43) hx hb dX9_areMergeable_39 (by decide) ?_
          exact j43 x1 x2 x3 1 _ _ _ hF hP hS (lv_sub hl [0, 1, 2, 3] rfl)
noncomputable def fX9_mergeable_j107  (x1 : Int32) (x2 : Int32) (x6 : Int32) (kk : Int32 → Int32 → Int32 → Option (Int32)) (ih : Int32 → Int32 → Int32 → Int32 → Option (Int32)) (M : Md) (x3 : Int32) (x4 : Int32) (x5 : Int32) (x7 : Int32) : Option (Int32) := nm (x7 + 1) fun v15 => ih x3 x4 x5 v15
noncomputable def fX9_mergeable_l50  (M : Md) (x1 : Int32) (x2 : Int32) (x6 : Int32) (kk : Int32 → Int32 → Int32 → Option (Int32)) : Nat → Int32 → Int32 → Int32 → Int32 → Option (Int32) := fun fu => Nat.rec (motive := fun _ => Int32 → Int32 → Int32 → Int32 → Option (Int32)) (fun _ _ _ _ => none) (fun _ ih => fun x3 x4 x5 x7 => Rd (M.1) 1553 1 fun v8 => if v8 ≤ x7 then (kk x3 x4 x5) else ((fX9_its M x6 2).bind fun r10 => (fX9_its M x7 2).bind fun r11 => nm (r10 + r11) fun v12 => (fX9_areMergeable M x6 x7 x1).bind fun r13 => if r13 = 0 then (fX9_mergeable_j107 x1 x2 x6 kk ih M x3 x4 x5 x7) else (if v12 ≤ x3 then (fX9_mergeable_j107 x1 x2 x6 kk ih M x3 x4 x5 x7) else (fX9_mergeable_j107 x1 x2 x6 kk ih M v12 x6 x7 x7)))) fu
theorem fX9_mergeable_l50_s  (M : Md) (x1 : Int32) (x2 : Int32) (x6 : Int32) (kk : Int32 → Int32 → Int32 → Option (Int32)) (fu : Nat) (x3 : Int32) (x4 : Int32) (x5 : Int32) (x7 : Int32) : fX9_mergeable_l50 M x1 x2 x6 kk (fu + 1) x3 x4 x5 x7 = (Rd (M.1) 1553 1 fun v8 => if v8 ≤ x7 then (kk x3 x4 x5) else ((fX9_its M x6 2).bind fun r10 => (fX9_its M x7 2).bind fun r11 => nm (r10 + r11) fun v12 => (fX9_areMergeable M x6 x7 x1).bind fun r13 => if r13 = 0 then (fX9_mergeable_j107 x1 x2 x6 kk (fX9_mergeable_l50 M x1 x2 x6 kk fu) M x3 x4 x5 x7) else (if v12 ≤ x3 then (fX9_mergeable_j107 x1 x2 x6 kk (fX9_mergeable_l50 M x1 x2 x6 kk fu) M x3 x4 x5 x7) else (fX9_mergeable_j107 x1 x2 x6 kk (fX9_mergeable_l50 M x1 x2 x6 kk fu) M v12 x6 x7 x7)))) := rfl
theorem fX9_mergeable_l50_z  (M : Md) (x1 : Int32) (x2 : Int32) (x6 : Int32) (kk : Int32 → Int32 → Int32 → Option (Int32)) (x3 : Int32) (x4 : Int32) (x5 : Int32) (x7 : Int32) : fX9_mergeable_l50 M x1 x2 x6 kk 0 x3 x4 x5 x7 = none := rfl
noncomputable def fX9_mergeable_l33  (M : Md) (x1 : Int32) (x2 : Int32) (kk : Int32 → Int32 → Int32 → Option (Int32)) : Nat → Int32 → Int32 → Int32 → Int32 → Option (Int32) := fun fu => Nat.rec (motive := fun _ => Int32 → Int32 → Int32 → Int32 → Option (Int32)) (fun _ _ _ _ => none) (fun _ ih => fun x3 x4 x5 x6 => Rd (M.1) 1553 1 fun v5 => if v5 ≤ x6 then (kk x3 x4 x5) else (nm (x6 + 1) fun v7 => fX9_mergeable_l50 M x1 x2 x6 (fun y17 y18 y19 => nm (x6 + 1) fun v20 => ih y17 y18 y19 v20) FU x3 x4 x5 v7)) fu
theorem fX9_mergeable_l33_s  (M : Md) (x1 : Int32) (x2 : Int32) (kk : Int32 → Int32 → Int32 → Option (Int32)) (fu : Nat) (x3 : Int32) (x4 : Int32) (x5 : Int32) (x6 : Int32) : fX9_mergeable_l33 M x1 x2 kk (fu + 1) x3 x4 x5 x6 = (Rd (M.1) 1553 1 fun v5 => if v5 ≤ x6 then (kk x3 x4 x5) else (nm (x6 + 1) fun v7 => fX9_mergeable_l50 M x1 x2 x6 (fun y17 y18 y19 => nm (x6 + 1) fun v20 => (fX9_mergeable_l33 M x1 x2 kk fu) y17 y18 y19 v20) FU x3 x4 x5 v7)) := rfl
theorem fX9_mergeable_l33_z  (M : Md) (x1 : Int32) (x2 : Int32) (kk : Int32 → Int32 → Int32 → Option (Int32)) (x3 : Int32) (x4 : Int32) (x5 : Int32) (x6 : Int32) : fX9_mergeable_l33 M x1 x2 kk 0 x3 x4 x5 x6 = none := rfl
noncomputable def fX9_mergeable_j139  (M : Md) (s0 : Int32) : Option (Int32) := some s0
noncomputable def fX9_mergeable  (M : Md) (x1 : Int32) (x2 : Int32) : Option (Int32) := (fX9_isRoom M x1).bind fun r1 => if r1 = 0 then (some (-1)) else ((fX9_in x2 0 2).bind fun r3 => if r3 = 0 then (some (-1)) else (fX9_mergeable_l33 M x1 x2 (fun y21 y22 y23 => if x2 = 0 then (fX9_mergeable_j139 M y22) else (if x2 = 1 then (fX9_mergeable_j139 M y23) else (fX9_mergeable_j139 M y21))) FU (-9) (-9) (-9) 0))
abbrev vX9_mergeable : List Cond := Cond.code yX9_mergeable cX9_mergeable 9 (some .int) :: BIG
theorem gX9_mergeable {own : String} {idx : Nat} (h : (Cond.methodLink own idx yX9_mergeable) ∈ BIG) : GoodIn BIG (wsV own idx RX9 yX9_mergeable vX9_mergeable) := gdV h bw5_63 bw5_64 bw1_11 bw5_65
def rmX9_mergeable : Room := { frames := 2, cells := 0, slots := 0, locals := 46 }
theorem hdX9_mergeable : yX9_mergeable.cls = RX9 ∧ yX9_mergeable.cls ≠ "java/lang/invoke/MethodHandle" ∧ yX9_mergeable.cls ≠ "java/lang/invoke/VarHandle" ∧ (parseMethodDescriptor yX9_mergeable.desc).map (fun d => d.parameters.length) = some 2 := by decide +kernel
set_option maxHeartbeats 4000000 in
set_option maxRecDepth 100000 in
theorem kX9_mergeable (l : Launch) (D : va_G) (cS : ClassId) (g : Nat → Nat) (cI : ClassId) (b : Nat → Nat) (M : Md) (x1 : Int32) (x2 : Int32) (r : Int32) (hF : fX9_mergeable M x1 x2 = some r) : mI l yX9_mergeable vX9_mergeable rmX9_mergeable D cI cS g [.ref (b 0), .int x1, .int x2] (wMd cI b M) r (wMd cI b M) := by
  refine st_I rfl (by decide) (Nat.le_of_ble_eq_true rfl) ?_
  intro p e s m args below meth c A ls hx hb hr hml hlocks hown hts hA hK hD0 hG hP hS hl
  have hown : s.vm.findClass RX9 = some m.cls := hown
  have hDa : ∀ M, va_D A (wMd cI b M) := fun M => hD0.adr rfl
  have htb : ∀ w ∈ BIG, w.before args s = true := fun w h => hts w (List.mem_cons_of_mem _ h)
  have hl : lv_has ls 9 [(0, .ref (b 0)), (1, .int x1), (2, .int x2)] := hl
  have l50 : ∀ (x1 : Int32) (x2 : Int32) (x6 : Int32) (kk : Int32 → Int32 → Int32 → Option (Int32)) (fu : Nat) (x3 : Int32) (x4 : Int32) (x5 : Int32) (x7 : Int32) (H : Heap) (locs : List Loc) (ls : Array Slot), fX9_mergeable_l50 M x1 x2 x6 kk fu x3 x4 x5 x7 = some r → va_P D vwCl (wMd cI b M) H → va_S A s.heap H locs → lv_has ls 9 [(0, .ref (b 0)), (1, .int x1), (2, .int x2), (3, .int x3), (4, .int x4), (5, .int x5), (6, .int x6), (7, .int x7)] → (∀ (x3 : Int32) (x4 : Int32) (x5 : Int32) (H : Heap) (locs : List Loc) (ls : Array Slot), kk x3 x4 x5 = some r → va_P D vwCl (wMd cI b M) H → va_S A s.heap H locs → lv_has ls 9 [(0, .ref (b 0)), (1, .int x1), (2, .int x2), (3, .int x3), (4, .int x4), (5, .int x5), (6, .int x6)] → W p l e rmX9_mergeable s m args below meth c H locs 0 0 (MQ below (qI D r (wMd cI b M) A) args s 0 0 A) (F0 m 113 ls [])) → W p l e rmX9_mergeable s m args below meth c H locs 0 0 (MQ below (qI D r (wMd cI b M) A) args s 0 0 A) (F0 m 50 ls []) := by
    intro x1 x2 x6 kk fu
    induction fu with
    | zero => intro x3 x4 x5 x7 H locs ls hF; exact nn_use hF
    | succ fu ihn =>
      intro x3 x4 x5 x7 H locs ls hF hP hS hl after
      rw [fX9_mergeable_l50_s] at hF
      have j107 : ∀ (x3 : Int32) (x4 : Int32) (x5 : Int32) (x7 : Int32) (H : Heap) (locs : List Loc) (ls : Array Slot), fX9_mergeable_j107 x1 x2 x6 kk (fX9_mergeable_l50 M x1 x2 x6 kk fu) M x3 x4 x5 x7 = some r → va_P D vwCl (wMd cI b M) H → va_S A s.heap H locs → lv_has ls 9 [(0, .ref (b 0)), (1, .int x1), (2, .int x2), (3, .int x3), (4, .int x4), (5, .int x5), (6, .int x6), (7, .int x7)] → W p l e rmX9_mergeable s m args below meth c H locs 0 0 (MQ below (qI D r (wMd cI b M) A) args s 0 0 A) (F0 m 107 ls []) := by
        intro x3 x4 x5 x7 H locs ls hF hP hS hl
        obtain ⟨v15, ev15⟩ : ∃ z : Int32, z = x7 + 1 := ⟨_, rfl⟩
        refine lv_iinc (v := v15) (lv' := [(7, .int v15), (0, .ref (b 0)), (1, .int x1), (2, .int x2), (3, .int x3), (4, .int x4), (5, .int x5), (6, .int x6)]) hx hb dX9_mergeable_107 hl (k := 7) rfl (by rw [ev15]; rfl) (by decide) rfl (fun ls hl => ?_)
        have hF := nm_use hF ev15
        refine lv_goto (tgt := 50) hx hb dX9_mergeable_110 (by decide) ?_
        exact ihn x3 x4 x5 v15 _ _ _ hF hP hS (lv_sub hl [1, 2, 3, 4, 5, 6, 7, 0] rfl) after
      refine lv_iload hx hb dX9_mergeable_50 (lv_at hl 7 rfl) ?_
      refine lv_aload_n hx hb dX9_mergeable_52 rfl (lv_at hl 0 rfl) ?_
      refine va_get (ci := 9) (v := .ref (b 1)) (C := RX9) (T := TX9) (N := 10) hx hb htb kin9 hown hK hP 0 (pMd_0 cI b M) rfl 0 (by decide) (htb _ bw4_25) (fun _ h9 => h9) rfl dX9_mergeable_53 ?_
      refine lv_iconst (v := 1) hx hb dX9_mergeable_56 (by decide) ?_
      obtain ⟨hi, hF⟩ := rd_use hF
      refine va_iald hx hb hK hP 1 0 (pMd_1 cI b M) rfl hi dX9_mergeable_57 ?_
      refine lv_topi (fun v8 ev8 => ?_)
      have hF := hF v8 ev8
      refine lv_icmp_ge (tgt := 113) hx hb dX9_mergeable_58 (by decide) (fun c9 => ?_) (fun c9 => ?_)
      · have hF := it_t hF c9
        exact after x3 x4 x5 _ _ _ hF hP hS (lv_sub hl [0, 1, 2, 3, 4, 5, 6] rfl)
      · have hF := it_f hF c9
        refine lv_aload_n hx hb dX9_mergeable_61 rfl (lv_at hl 0 rfl) ?_
        refine lv_iload hx hb dX9_mergeable_62 (lv_at hl 6 rfl) ?_
        refine lv_iconst (v := 2) hx hb dX9_mergeable_64 (by decide) ?_
        obtain ⟨r10, hr10, hF⟩ := bd_use hF
        refine cl_VI ⟨hx, hb, hml, hown, htb⟩ (kX9_its l D cS g cI b M x6 2 _ hr10) (cwV 2 htb (gX9_its bw4_118) rfl rfl rfl hdX9_its ⟨Nat.le_of_ble_eq_true rfl, Nat.le_of_ble_eq_true rfl⟩) hK (hDa _) hG hA hP hS (sr_Md_Md cI b M) hl.1 rfl 0 (pMd_0 _ _ _) rfl rfl (Nat.le_of_ble_eq_true rfl) dX9_mergeable_65 (fun H locs hP hS => ?_)
        refine lv_aload_n hx hb dX9_mergeable_68 rfl (lv_at hl 0 rfl) ?_
        refine lv_iload hx hb dX9_mergeable_69 (lv_at hl 7 rfl) ?_
        refine lv_iconst (v := 2) hx hb dX9_mergeable_71 (by decide) ?_
        obtain ⟨r11, hr11, hF⟩ := bd_use hF
        refine cl_VI ⟨hx, hb, hml, hown, htb⟩ (kX9_its l D cS g cI b M x7 2 _ hr11) (cwV 2 htb (gX9_its bw4_118) rfl rfl rfl hdX9_its ⟨Nat.le_of_ble_eq_true rfl, Nat.le_of_ble_eq_true rfl⟩) hK (hDa _) hG hA hP hS (sr_Md_Md cI b M) hl.1 rfl 0 (pMd_0 _ _ _) rfl rfl (Nat.le_of_ble_eq_true rfl) dX9_mergeable_72 (fun H locs hP hS => ?_)
        refine lv_iadd hx hb dX9_mergeable_75 ?_
        refine lv_topi (fun v12 ev12 => ?_)
        have hF := nm_use hF ev12
        refine lv_istore (lv' := [(8, .int v12), (0, .ref (b 0)), (1, .int x1), (2, .int x2), (3, .int x3), (4, .int x4), (5, .int x5), (6, .int x6), (7, .int x7)]) hx hb dX9_mergeable_76 hl (by decide) rfl (fun ls hl => ?_)
        refine lv_aload_n hx hb dX9_mergeable_78 rfl (lv_at hl 1 rfl) ?_
        refine lv_iload hx hb dX9_mergeable_79 (lv_at hl 7 rfl) ?_
        refine lv_iload hx hb dX9_mergeable_81 (lv_at hl 8 rfl) ?_
        refine lv_iload_n hx hb dX9_mergeable_83 rfl (lv_at hl 2 rfl) ?_
        obtain ⟨r13, hr13, hF⟩ := bd_use hF
        refine cl_VI ⟨hx, hb, hml, hown, htb⟩ (kX9_areMergeable l D cS g cI b M x6 x7 x1 _ hr13) (cwV 3 htb (gX9_areMergeable bw5_66) rfl rfl rfl hdX9_areMergeable ⟨Nat.le_of_ble_eq_true rfl, Nat.le_of_ble_eq_true rfl⟩) hK (hDa _) hG hA hP hS (sr_Md_Md cI b M) hl.1 rfl 0 (pMd_0 _ _ _) rfl rfl (Nat.le_of_ble_eq_true rfl) dX9_mergeable_84 (fun H locs hP hS => ?_)
        refine lv_if_eq (tgt := 107) hx hb dX9_mergeable_87 (by decide) (fun c14 => ?_) (fun c14 => ?_)
        · have hF := it_t hF c14
          exact j107 x3 x4 x5 x7 _ _ _ hF hP hS (lv_sub hl [1, 2, 3, 4, 5, 6, 7, 8] rfl)
        · have hF := it_f hF c14
          refine lv_iload hx hb dX9_mergeable_90 (lv_at hl 0 rfl) ?_
          refine lv_iload_n hx hb dX9_mergeable_92 rfl (lv_at hl 4 rfl) ?_
          refine lv_icmp_le (tgt := 107) hx hb dX9_mergeable_93 (by decide) (fun c16 => ?_) (fun c16 => ?_)
          · have hF := it_t hF c16
            exact j107 x3 x4 x5 x7 _ _ _ hF hP hS (lv_sub hl [1, 2, 3, 4, 5, 6, 7, 8] rfl)
          · have hF := it_f hF c16
            refine lv_iload hx hb dX9_mergeable_96 (lv_at hl 0 rfl) ?_
            refine lv_istore_n (lv' := [(3, .int v12), (8, .int v12), (0, .ref (b 0)), (1, .int x1), (2, .int x2), (4, .int x4), (5, .int x5), (6, .int x6), (7, .int x7)]) hx hb dX9_mergeable_98 rfl hl (by decide) rfl (fun ls hl => ?_)
            refine lv_iload hx hb dX9_mergeable_99 (lv_at hl 7 rfl) ?_
            refine lv_istore (lv' := [(4, .int x6), (3, .int v12), (8, .int v12), (0, .ref (b 0)), (1, .int x1), (2, .int x2), (5, .int x5), (6, .int x6), (7, .int x7)]) hx hb dX9_mergeable_101 hl (by decide) rfl (fun ls hl => ?_)
            refine lv_iload hx hb dX9_mergeable_103 (lv_at hl 8 rfl) ?_
            refine lv_istore (lv' := [(5, .int x7), (4, .int x6), (3, .int v12), (8, .int v12), (0, .ref (b 0)), (1, .int x1), (2, .int x2), (6, .int x6), (7, .int x7)]) hx hb dX9_mergeable_105 hl (by decide) rfl (fun ls hl => ?_)
            exact j107 v12 x6 x7 x7 _ _ _ hF hP hS (lv_sub hl [4, 5, 6, 2, 1, 0, 7, 8] rfl)
  have l33 : ∀ (x1 : Int32) (x2 : Int32) (kk : Int32 → Int32 → Int32 → Option (Int32)) (fu : Nat) (x3 : Int32) (x4 : Int32) (x5 : Int32) (x6 : Int32) (H : Heap) (locs : List Loc) (ls : Array Slot), fX9_mergeable_l33 M x1 x2 kk fu x3 x4 x5 x6 = some r → va_P D vwCl (wMd cI b M) H → va_S A s.heap H locs → lv_has ls 9 [(0, .ref (b 0)), (1, .int x1), (2, .int x2), (3, .int x3), (4, .int x4), (5, .int x5), (6, .int x6)] → (∀ (x3 : Int32) (x4 : Int32) (x5 : Int32) (H : Heap) (locs : List Loc) (ls : Array Slot), kk x3 x4 x5 = some r → va_P D vwCl (wMd cI b M) H → va_S A s.heap H locs → lv_has ls 9 [(2, .int x2), (3, .int x3), (4, .int x4), (5, .int x5)] → W p l e rmX9_mergeable s m args below meth c H locs 0 0 (MQ below (qI D r (wMd cI b M) A) args s 0 0 A) (F0 m 119 ls [])) → W p l e rmX9_mergeable s m args below meth c H locs 0 0 (MQ below (qI D r (wMd cI b M) A) args s 0 0 A) (F0 m 33 ls []) := by
    intro x1 x2 kk fu
    induction fu with
    | zero => intro x3 x4 x5 x6 H locs ls hF; exact nn_use hF
    | succ fu ihn =>
      intro x3 x4 x5 x6 H locs ls hF hP hS hl after
      rw [fX9_mergeable_l33_s] at hF
      refine lv_iload hx hb dX9_mergeable_33 (lv_at hl 6 rfl) ?_
      refine lv_aload_n hx hb dX9_mergeable_35 rfl (lv_at hl 0 rfl) ?_
      refine va_get (ci := 9) (v := .ref (b 1)) (C := RX9) (T := TX9) (N := 10) hx hb htb kin9 hown hK hP 0 (pMd_0 cI b M) rfl 0 (by decide) (htb _ bw4_25) (fun _ h9 => h9) rfl dX9_mergeable_36 ?_
      refine lv_iconst (v := 1) hx hb dX9_mergeable_39 (by decide) ?_
      obtain ⟨hi, hF⟩ := rd_use hF
      refine va_iald hx hb hK hP 1 0 (pMd_1 cI b M) rfl hi dX9_mergeable_40 ?_
      refine lv_topi (fun v5 ev5 => ?_)
      have hF := hF v5 ev5
      refine lv_icmp_ge (tgt := 119) hx hb dX9_mergeable_41 (by decide) (fun c6 => ?_) (fun c6 => ?_)
      · have hF := it_t hF c6
        exact after x3 x4 x5 _ _ _ hF hP hS (lv_sub hl [2, 3, 4, 5] rfl)
      · have hF := it_f hF c6
        refine lv_iload hx hb dX9_mergeable_44 (lv_at hl 6 rfl) ?_
        refine lv_iconst (v := 1) hx hb dX9_mergeable_46 (by decide) ?_
        refine lv_iadd hx hb dX9_mergeable_47 ?_
        refine lv_topi (fun v7 ev7 => ?_)
        have hF := nm_use hF ev7
        refine lv_istore (lv' := [(7, .int v7), (0, .ref (b 0)), (1, .int x1), (2, .int x2), (3, .int x3), (4, .int x4), (5, .int x5), (6, .int x6)]) hx hb dX9_mergeable_48 hl (by decide) rfl (fun ls hl => ?_)
        refine l50 x1 x2 x6 _ _ x3 x4 x5 v7 _ _ _ hF hP hS (lv_sub hl [1, 2, 3, 4, 5, 6, 7, 0] rfl) ?_
        · intro y17 y18 y19 H locs ls hF hP hS hl
          obtain ⟨v20, ev20⟩ : ∃ z : Int32, z = x6 + 1 := ⟨_, rfl⟩
          refine lv_iinc (v := v20) (lv' := [(6, .int v20), (0, .ref (b 0)), (1, .int x1), (2, .int x2), (3, .int y17), (4, .int y18), (5, .int y19)]) hx hb dX9_mergeable_113 hl (k := 6) rfl (by rw [ev20]; rfl) (by decide) rfl (fun ls hl => ?_)
          have hF := nm_use hF ev20
          refine lv_goto (tgt := 33) hx hb dX9_mergeable_116 (by decide) ?_
          exact ihn y17 y18 y19 v20 _ _ _ hF hP hS (lv_sub hl [1, 2, 3, 4, 5, 6, 0] rfl) after
  have j139 : ∀ (s0 : Int32) (H : Heap) (locs : List Loc) (ls : Array Slot), fX9_mergeable_j139 M s0 = some r → va_P D vwCl (wMd cI b M) H → va_S A s.heap H locs → lv_has ls 9 [] → W p l e rmX9_mergeable s m args below meth c H locs 0 0 (MQ below (qI D r (wMd cI b M) A) args s 0 0 A) (F0 m 139 ls [.int s0]) := by
    intro s0 H locs ls hF hP hS hl
    exact rt_I hx hb hr hlocks hS hP (so_use hF) dX9_mergeable_139
  refine lv_aload_n hx hb dX9_mergeable_0 rfl (lv_at hl 0 rfl) ?_
  refine lv_iload_n hx hb dX9_mergeable_1 rfl (lv_at hl 1 rfl) ?_
  obtain ⟨r1, hr1, hF⟩ := bd_use hF
  refine cl_VI ⟨hx, hb, hml, hown, htb⟩ (kX9_isRoom l D cS g cI b M x1 _ hr1) (cwV 1 htb (gX9_isRoom bw4_79) rfl rfl rfl hdX9_isRoom ⟨Nat.le_of_ble_eq_true rfl, Nat.le_of_ble_eq_true rfl⟩) hK (hDa _) hG hA hP hS (sr_Md_Md cI b M) hl.1 rfl 0 (pMd_0 _ _ _) rfl rfl (Nat.le_of_ble_eq_true rfl) dX9_mergeable_2 (fun H locs hP hS => ?_)
  refine lv_if_eq (tgt := 17) hx hb dX9_mergeable_5 (by decide) (fun c2 => ?_) (fun c2 => ?_)
  · have hF := it_t hF c2
    refine lv_iconst (v := (-1)) hx hb dX9_mergeable_17 (by decide) ?_
    exact rt_I hx hb hr hlocks hS hP (so_use hF) dX9_mergeable_18
  · have hF := it_f hF c2
    refine lv_iload_n hx hb dX9_mergeable_8 rfl (lv_at hl 2 rfl) ?_
    refine lv_iconst (v := 0) hx hb dX9_mergeable_9 (by decide) ?_
    refine lv_iconst (v := 2) hx hb dX9_mergeable_10 (by decide) ?_
    obtain ⟨r3, hr3, hF⟩ := bd_use hF
    refine cl_SI ⟨hx, hb, hml, hown, htb⟩ (kX9_in l D cS g cI x2 0 2 _ hr3) (va_cwS 3 htb (gX9_in bw4_68) rfl rfl rfl hdX9_in ⟨Nat.le_of_ble_eq_true rfl, Nat.le_of_ble_eq_true rfl⟩) hK (hDa _) hG hA hP hS sg_nil hl.1 rfl rfl (Nat.le_of_ble_eq_true rfl) dX9_mergeable_11 (fun H locs hP hS => ?_)
    refine lv_if_ne (tgt := 19) hx hb dX9_mergeable_14 (by decide) (fun c4 => ?_) (fun c4 => ?_)
    · have hF := it_f hF c4
      refine lv_bipush (v := (-9)) hx hb dX9_mergeable_19 (by decide) ?_
      refine lv_istore_n (lv' := [(3, .int (-9)), (0, .ref (b 0)), (1, .int x1), (2, .int x2)]) hx hb dX9_mergeable_21 rfl hl (by decide) rfl (fun ls hl => ?_)
      refine lv_bipush (v := (-9)) hx hb dX9_mergeable_22 (by decide) ?_
      refine lv_istore (lv' := [(4, .int (-9)), (3, .int (-9)), (0, .ref (b 0)), (1, .int x1), (2, .int x2)]) hx hb dX9_mergeable_24 hl (by decide) rfl (fun ls hl => ?_)
      refine lv_bipush (v := (-9)) hx hb dX9_mergeable_26 (by decide) ?_
      refine lv_istore (lv' := [(5, .int (-9)), (4, .int (-9)), (3, .int (-9)), (0, .ref (b 0)), (1, .int x1), (2, .int x2)]) hx hb dX9_mergeable_28 hl (by decide) rfl (fun ls hl => ?_)
      refine lv_iconst (v := 0) hx hb dX9_mergeable_30 (by decide) ?_
      refine lv_istore (lv' := [(6, .int 0), (5, .int (-9)), (4, .int (-9)), (3, .int (-9)), (0, .ref (b 0)), (1, .int x1), (2, .int x2)]) hx hb dX9_mergeable_31 hl (by decide) rfl (fun ls hl => ?_)
      refine l33 x1 x2 _ _ (-9) (-9) (-9) 0 _ _ _ hF hP hS (lv_sub hl [4, 5, 6, 3, 2, 1, 0] rfl) ?_
      · intro y21 y22 y23 H locs ls hF hP hS hl
        refine lv_iload_n hx hb dX9_mergeable_119 rfl (lv_at hl 0 rfl) ?_
        refine lv_if_ne (tgt := 128) hx hb dX9_mergeable_120 (by decide) (fun c24 => ?_) (fun c24 => ?_)
        · have hF := it_f hF c24
          refine lv_iload_n hx hb dX9_mergeable_128 rfl (lv_at hl 0 rfl) ?_
          refine lv_iconst (v := 1) hx hb dX9_mergeable_129 (by decide) ?_
          refine lv_icmp_ne (tgt := 138) hx hb dX9_mergeable_130 (by decide) (fun c25 => ?_) (fun c25 => ?_)
          · have hF := it_f hF c25
            refine lv_iload_n hx hb dX9_mergeable_138 rfl (lv_at hl 1 rfl) ?_
            exact j139 y21 _ _ _ hF hP hS (lv_sub hl [] rfl)
          · have hF := it_t hF c25
            refine lv_iload hx hb dX9_mergeable_133 (lv_at hl 3 rfl) ?_
            refine lv_goto (tgt := 139) hx hb dX9_mergeable_135 (by decide) ?_
            exact j139 y23 _ _ _ hF hP hS (lv_sub hl [] rfl)
        · have hF := it_t hF c24
          refine lv_iload hx hb dX9_mergeable_123 (lv_at hl 2 rfl) ?_
          refine lv_goto (tgt := 139) hx hb dX9_mergeable_125 (by decide) ?_
          exact j139 y22 _ _ _ hF hP hS (lv_sub hl [] rfl)
    · have hF := it_t hF c4
      refine lv_iconst (v := (-1)) hx hb dX9_mergeable_17 (by decide) ?_
      exact rt_I hx hb hr hlocks hS hP (so_use hF) dX9_mergeable_18

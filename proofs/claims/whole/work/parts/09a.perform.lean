noncomputable def fX3_obey_j80  (N : Pg × Vn) (x2 : Int32) (x3 : Int32) (x4 : Int32) (x5 : Int32) (s0 : Int32) : Option (Int32 × (Pg × Vn)) := if x2 = 0 then (b2 (fX0_newRoom (N.2) x3 x4 x5 s0) fun r7 M6 => nm ((N.1, M6)) fun M8 => some (r7, M8)) else (if x2 = 1 then (b2 (fX0_newVoucher (N.2) x3) fun r11 M10 => nm ((N.1, M10)) fun M12 => some (r11, M12)) else (if x2 = 2 then (b2 (fX0_newBooking (N.2) x3 x4 x5 (-1)) fun r15 M14 => nm ((N.1, M14)) fun M16 => some (r15, M16)) else (if x2 = 3 then (b2 (fX0_newBooking (N.2) x3 x4 x5 s0) fun r19 M18 => nm ((N.1, M18)) fun M20 => some (r19, M20)) else (if x2 = 4 then (b2 (fX0_letPlay (N.2) x3 x4 x5 s0) fun r23 M22 => nm ((N.1, M22)) fun M24 => some (r23, M24)) else (if x2 = 5 then (b2 (fX0_callOff (N.2) x3) fun r27 M26 => nm ((N.1, M26)) fun M28 => some (r27, M28)) else (if x2 = 6 then (b2 (fX0_joinTeams (N.2) x3 x4) fun r31 M30 => nm ((N.1, M30)) fun M32 => some (r31, M32)) else (some ((-1), N))))))))
noncomputable def fX3_obey_j59  (N : Pg × Vn) (x2 : Int32) (x3 : Int32) (x4 : Int32) (s0 : Int32) : Option (Int32 × (Pg × Vn)) := if (4 : Int32) ≤ 3 then (fX3_obey_j80 N x2 x3 x4 s0 0) else (Rd (N.1.2.1) 4 3 fun v33 => fX3_obey_j80 N x2 x3 x4 s0 v33)
noncomputable def fX3_obey_j38  (N : Pg × Vn) (x2 : Int32) (x3 : Int32) (s0 : Int32) : Option (Int32 × (Pg × Vn)) := if (4 : Int32) ≤ 2 then (fX3_obey_j59 N x2 x3 s0 0) else (Rd (N.1.2.1) 4 2 fun v34 => fX3_obey_j59 N x2 x3 s0 v34)
noncomputable def fX3_obey_j18  (N : Pg × Vn) (x2 : Int32) (s0 : Int32) : Option (Int32 × (Pg × Vn)) := if (4 : Int32) ≤ 1 then (fX3_obey_j38 N x2 s0 0) else (Rd (N.1.2.1) 4 1 fun v35 => fX3_obey_j38 N x2 s0 v35)
noncomputable def fX3_obey  (N : Pg × Vn) (x2 : Int32) : Option (Int32 × (Pg × Vn)) := if (4 : Int32) ≤ 0 then (fX3_obey_j18 N x2 0) else (Rd (N.1.2.1) 4 0 fun v36 => fX3_obey_j18 N x2 v36)
abbrev vX3_obey : List Cond := Cond.code yX3_obey cX3_obey 7 (some .int) :: BIG
theorem gX3_obey {own : String} {idx : Nat} (h : (Cond.methodLink own idx yX3_obey) ∈ BIG) : GoodIn BIG (wsV own idx RX3 yX3_obey vX3_obey) := gdV h bw3_124 bs17 bw1_10 bw3_125
def rmX3_obey : Room := { frames := 5, cells := 0, slots := 0, locals := 126 }
theorem hdX3_obey : yX3_obey.cls = RX3 ∧ yX3_obey.cls ≠ "java/lang/invoke/MethodHandle" ∧ yX3_obey.cls ≠ "java/lang/invoke/VarHandle" ∧ (parseMethodDescriptor yX3_obey.desc).map (fun d => d.parameters.length) = some 2 := by decide +kernel
set_option maxHeartbeats 4000000 in
set_option maxRecDepth 100000 in
theorem kX3_obey (l : Launch) (D : va_G) (cS : ClassId) (g : Nat → Nat) (cI : ClassId) (q : Nat → Nat) (d : Nat) (a : Nat → Nat) (N : Pg × Vn) (x2 : Int32) (r : Int32) (M' : Pg × Vn) (hF : fX3_obey N x2 = some (r, M')) : mI l yX3_obey vX3_obey rmX3_obey D cI cS g [.ref (q 0), .ref d, .int x2] (wPd cI q d a N) r (wPd cI q d a (M')) := by
  refine st_I rfl (by decide) (Nat.le_of_ble_eq_true rfl) ?_
  intro p e s m args below meth c A ls hx hb hr hml hlocks hown hts hA hK hD0 hG hP hS hl
  have hown : s.vm.findClass RX3 = some m.cls := hown
  have hDa : ∀ N, va_D A (wPd cI q d a N) := fun N => hD0.adr rfl
  have htb : ∀ w ∈ BIG, w.before args s = true := fun w h => hts w (List.mem_cons_of_mem _ h)
  have hl : lv_has ls 7 [(0, .ref (q 0)), (1, .ref d), (2, .int x2)] := hl
  have j80 : ∀ (N : Pg × Vn) (x2 : Int32) (x3 : Int32) (x4 : Int32) (x5 : Int32) (s0 : Int32) (H : Heap) (locs : List Loc) (ls : Array Slot), fX3_obey_j80 N x2 x3 x4 x5 s0 = some (r, M') → va_P D vwCl (wPd cI q d a N) H → va_S A s.heap H locs → lv_has ls 7 [(1, .ref d), (2, .int x2), (3, .int x3), (4, .int x4), (5, .int x5)] → W p l e rmX3_obey s m args below meth c H locs 0 0 (MQ below (qI D r (wPd cI q d a (M')) A) args s 0 0 A) (F0 m 80 ls [.int s0]) := by
    intro N x2 x3 x4 x5 s0 H locs ls hF hP hS hl
    refine lv_istore (lv' := [(6, .int s0), (1, .ref d), (2, .int x2), (3, .int x3), (4, .int x4), (5, .int x5)]) hx hb dX3_obey_80 hl (by decide) rfl (fun ls hl => ?_)
    refine lv_iload_n hx hb dX3_obey_82 rfl (lv_at hl 2 rfl) ?_
    by_cases c5 : x2 = 0
    · have hF := it_t hF c5
      refine lv_tableIn (x := x2) (off := 41) (tgt := 124) hx hb dX3_obey_83 (by rw [c5]; decide) (by rw [c5]; decide) (by rw [c5]; rfl) (by decide) ?_
      refine lv_aload_n hx hb dX3_obey_124 rfl (lv_at hl 1 rfl) ?_
      refine lv_iload_n hx hb dX3_obey_125 rfl (lv_at hl 3 rfl) ?_
      refine lv_iload hx hb dX3_obey_126 (lv_at hl 4 rfl) ?_
      refine lv_iload hx hb dX3_obey_128 (lv_at hl 5 rfl) ?_
      refine lv_iload hx hb dX3_obey_130 (lv_at hl 0 rfl) ?_
      obtain ⟨r7, M6, hM6, hF⟩ := b2_use hF
      refine cl_VI ⟨hx, hb, hml, hown, htb⟩ (kX0_newRoom l D cS g cI d a (N.2) x3 x4 x5 s0 _ _ hM6) (cwV 4 htb (gX0_newRoom bw3_126) rfl rfl rfl hdX0_newRoom ⟨Nat.le_of_ble_eq_true rfl, Nat.le_of_ble_eq_true rfl⟩) hK (hDa _) hG hA hP hS (sg_Pd_Dk cI q d a N M6) hl.1 rfl 0 (pDk_0 _ _ _ _) rfl rfl (Nat.le_of_ble_eq_true rfl) dX3_obey_132 (fun H locs hP hS => ?_)
      obtain ⟨M8, eM8⟩ : ∃ z : Pg × Vn, z = (N.1, M6) := ⟨_, rfl⟩
      have hF := nm_use hF eM8
      have hP : va_P D vwCl (wPd cI q d a M8) H := by rw [eM8]; exact hP
      obtain ⟨er, eM⟩ := pr_use hF
      exact rt_I hx hb hr hlocks hS (by rw [← eM]; exact hP) er dX3_obey_135
    · have hF := it_f hF c5
      by_cases c9 : x2 = 1
      · have hF := it_t hF c9
        refine lv_tableIn (x := x2) (off := 53) (tgt := 136) hx hb dX3_obey_83 (by rw [c9]; decide) (by rw [c9]; decide) (by rw [c9]; rfl) (by decide) ?_
        refine lv_aload_n hx hb dX3_obey_136 rfl (lv_at hl 1 rfl) ?_
        refine lv_iload_n hx hb dX3_obey_137 rfl (lv_at hl 3 rfl) ?_
        obtain ⟨r11, M10, hM10, hF⟩ := b2_use hF
        refine cl_VI ⟨hx, hb, hml, hown, htb⟩ (kX0_newVoucher l D cS g cI d a (N.2) x3 _ _ hM10) (cwV 1 htb (gX0_newVoucher bw3_127) rfl rfl rfl hdX0_newVoucher ⟨Nat.le_of_ble_eq_true rfl, Nat.le_of_ble_eq_true rfl⟩) hK (hDa _) hG hA hP hS (sg_Pd_Dk cI q d a N M10) hl.1 rfl 0 (pDk_0 _ _ _ _) rfl rfl (Nat.le_of_ble_eq_true rfl) dX3_obey_138 (fun H locs hP hS => ?_)
        obtain ⟨M12, eM12⟩ : ∃ z : Pg × Vn, z = (N.1, M10) := ⟨_, rfl⟩
        have hF := nm_use hF eM12
        have hP : va_P D vwCl (wPd cI q d a M12) H := by rw [eM12]; exact hP
        obtain ⟨er, eM⟩ := pr_use hF
        exact rt_I hx hb hr hlocks hS (by rw [← eM]; exact hP) er dX3_obey_141
      · have hF := it_f hF c9
        by_cases c13 : x2 = 2
        · have hF := it_t hF c13
          refine lv_tableIn (x := x2) (off := 59) (tgt := 142) hx hb dX3_obey_83 (by rw [c13]; decide) (by rw [c13]; decide) (by rw [c13]; rfl) (by decide) ?_
          refine lv_aload_n hx hb dX3_obey_142 rfl (lv_at hl 1 rfl) ?_
          refine lv_iload_n hx hb dX3_obey_143 rfl (lv_at hl 3 rfl) ?_
          refine lv_iload hx hb dX3_obey_144 (lv_at hl 4 rfl) ?_
          refine lv_iload hx hb dX3_obey_146 (lv_at hl 5 rfl) ?_
          refine lv_iconst (v := (-1)) hx hb dX3_obey_148 (by decide) ?_
          obtain ⟨r15, M14, hM14, hF⟩ := b2_use hF
          refine cl_VI ⟨hx, hb, hml, hown, htb⟩ (kX0_newBooking l D cS g cI d a (N.2) x3 x4 x5 (-1) _ _ hM14) (cwV 4 htb (gX0_newBooking bw3_128) rfl rfl rfl hdX0_newBooking ⟨Nat.le_of_ble_eq_true rfl, Nat.le_of_ble_eq_true rfl⟩) hK (hDa _) hG hA hP hS (sg_Pd_Dk cI q d a N M14) hl.1 rfl 0 (pDk_0 _ _ _ _) rfl rfl (Nat.le_of_ble_eq_true rfl) dX3_obey_149 (fun H locs hP hS => ?_)
          obtain ⟨M16, eM16⟩ : ∃ z : Pg × Vn, z = (N.1, M14) := ⟨_, rfl⟩
          have hF := nm_use hF eM16
          have hP : va_P D vwCl (wPd cI q d a M16) H := by rw [eM16]; exact hP
          obtain ⟨er, eM⟩ := pr_use hF
          exact rt_I hx hb hr hlocks hS (by rw [← eM]; exact hP) er dX3_obey_152
        · have hF := it_f hF c13
          by_cases c17 : x2 = 3
          · have hF := it_t hF c17
            refine lv_tableIn (x := x2) (off := 70) (tgt := 153) hx hb dX3_obey_83 (by rw [c17]; decide) (by rw [c17]; decide) (by rw [c17]; rfl) (by decide) ?_
            refine lv_aload_n hx hb dX3_obey_153 rfl (lv_at hl 1 rfl) ?_
            refine lv_iload_n hx hb dX3_obey_154 rfl (lv_at hl 3 rfl) ?_
            refine lv_iload hx hb dX3_obey_155 (lv_at hl 4 rfl) ?_
            refine lv_iload hx hb dX3_obey_157 (lv_at hl 5 rfl) ?_
            refine lv_iload hx hb dX3_obey_159 (lv_at hl 0 rfl) ?_
            obtain ⟨r19, M18, hM18, hF⟩ := b2_use hF
            refine cl_VI ⟨hx, hb, hml, hown, htb⟩ (kX0_newBooking l D cS g cI d a (N.2) x3 x4 x5 s0 _ _ hM18) (cwV 4 htb (gX0_newBooking bw3_128) rfl rfl rfl hdX0_newBooking ⟨Nat.le_of_ble_eq_true rfl, Nat.le_of_ble_eq_true rfl⟩) hK (hDa _) hG hA hP hS (sg_Pd_Dk cI q d a N M18) hl.1 rfl 0 (pDk_0 _ _ _ _) rfl rfl (Nat.le_of_ble_eq_true rfl) dX3_obey_161 (fun H locs hP hS => ?_)
            obtain ⟨M20, eM20⟩ : ∃ z : Pg × Vn, z = (N.1, M18) := ⟨_, rfl⟩
            have hF := nm_use hF eM20
            have hP : va_P D vwCl (wPd cI q d a M20) H := by rw [eM20]; exact hP
            obtain ⟨er, eM⟩ := pr_use hF
            exact rt_I hx hb hr hlocks hS (by rw [← eM]; exact hP) er dX3_obey_164
          · have hF := it_f hF c17
            by_cases c21 : x2 = 4
            · have hF := it_t hF c21
              refine lv_tableIn (x := x2) (off := 82) (tgt := 165) hx hb dX3_obey_83 (by rw [c21]; decide) (by rw [c21]; decide) (by rw [c21]; rfl) (by decide) ?_
              refine lv_aload_n hx hb dX3_obey_165 rfl (lv_at hl 1 rfl) ?_
              refine lv_iload_n hx hb dX3_obey_166 rfl (lv_at hl 3 rfl) ?_
              refine lv_iload hx hb dX3_obey_167 (lv_at hl 4 rfl) ?_
              refine lv_iload hx hb dX3_obey_169 (lv_at hl 5 rfl) ?_
              refine lv_iload hx hb dX3_obey_171 (lv_at hl 0 rfl) ?_
              obtain ⟨r23, M22, hM22, hF⟩ := b2_use hF
              refine cl_VI ⟨hx, hb, hml, hown, htb⟩ (kX0_letPlay l D cS g cI d a (N.2) x3 x4 x5 s0 _ _ hM22) (cwV 4 htb (gX0_letPlay bw3_129) rfl rfl rfl hdX0_letPlay ⟨Nat.le_of_ble_eq_true rfl, Nat.le_of_ble_eq_true rfl⟩) hK (hDa _) hG hA hP hS (sg_Pd_Dk cI q d a N M22) hl.1 rfl 0 (pDk_0 _ _ _ _) rfl rfl (Nat.le_of_ble_eq_true rfl) dX3_obey_173 (fun H locs hP hS => ?_)
              obtain ⟨M24, eM24⟩ : ∃ z : Pg × Vn, z = (N.1, M22) := ⟨_, rfl⟩
              have hF := nm_use hF eM24
              have hP : va_P D vwCl (wPd cI q d a M24) H := by rw [eM24]; exact hP
              obtain ⟨er, eM⟩ := pr_use hF
              exact rt_I hx hb hr hlocks hS (by rw [← eM]; exact hP) er dX3_obey_176
            · have hF := it_f hF c21
              by_cases c25 : x2 = 5
              · have hF := it_t hF c25
                refine lv_tableIn (x := x2) (off := 94) (tgt := 177) hx hb dX3_obey_83 (by rw [c25]; decide) (by rw [c25]; decide) (by rw [c25]; rfl) (by decide) ?_
                refine lv_aload_n hx hb dX3_obey_177 rfl (lv_at hl 1 rfl) ?_
                refine lv_iload_n hx hb dX3_obey_178 rfl (lv_at hl 3 rfl) ?_
                obtain ⟨r27, M26, hM26, hF⟩ := b2_use hF
                refine cl_VI ⟨hx, hb, hml, hown, htb⟩ (kX0_callOff l D cS g cI d a (N.2) x3 _ _ hM26) (cwV 1 htb (gX0_callOff bw3_130) rfl rfl rfl hdX0_callOff ⟨Nat.le_of_ble_eq_true rfl, Nat.le_of_ble_eq_true rfl⟩) hK (hDa _) hG hA hP hS (sg_Pd_Dk cI q d a N M26) hl.1 rfl 0 (pDk_0 _ _ _ _) rfl rfl (Nat.le_of_ble_eq_true rfl) dX3_obey_179 (fun H locs hP hS => ?_)
                obtain ⟨M28, eM28⟩ : ∃ z : Pg × Vn, z = (N.1, M26) := ⟨_, rfl⟩
                have hF := nm_use hF eM28
                have hP : va_P D vwCl (wPd cI q d a M28) H := by rw [eM28]; exact hP
                obtain ⟨er, eM⟩ := pr_use hF
                exact rt_I hx hb hr hlocks hS (by rw [← eM]; exact hP) er dX3_obey_182
              · have hF := it_f hF c25
                by_cases c29 : x2 = 6
                · have hF := it_t hF c29
                  refine lv_tableIn (x := x2) (off := 100) (tgt := 183) hx hb dX3_obey_83 (by rw [c29]; decide) (by rw [c29]; decide) (by rw [c29]; rfl) (by decide) ?_
                  refine lv_aload_n hx hb dX3_obey_183 rfl (lv_at hl 1 rfl) ?_
                  refine lv_iload_n hx hb dX3_obey_184 rfl (lv_at hl 3 rfl) ?_
                  refine lv_iload hx hb dX3_obey_185 (lv_at hl 4 rfl) ?_
                  obtain ⟨r31, M30, hM30, hF⟩ := b2_use hF
                  refine cl_VI ⟨hx, hb, hml, hown, htb⟩ (kX0_joinTeams l D cS g cI d a (N.2) x3 x4 _ _ hM30) (cwV 2 htb (gX0_joinTeams bw3_131) rfl rfl rfl hdX0_joinTeams ⟨Nat.le_of_ble_eq_true rfl, Nat.le_of_ble_eq_true rfl⟩) hK (hDa _) hG hA hP hS (sg_Pd_Dk cI q d a N M30) hl.1 rfl 0 (pDk_0 _ _ _ _) rfl rfl (Nat.le_of_ble_eq_true rfl) dX3_obey_187 (fun H locs hP hS => ?_)
                  obtain ⟨M32, eM32⟩ : ∃ z : Pg × Vn, z = (N.1, M30) := ⟨_, rfl⟩
                  have hF := nm_use hF eM32
                  have hP : va_P D vwCl (wPd cI q d a M32) H := by rw [eM32]; exact hP
                  obtain ⟨er, eM⟩ := pr_use hF
                  exact rt_I hx hb hr hlocks hS (by rw [← eM]; exact hP) er dX3_obey_190
                · have hF := it_f hF c29
                  refine lv_tableOut (x := x2) (tgt := 191) hx hb dX3_obey_83 (sw_out7 c5 c9 c13 c17 c21 c25 c29) (by decide) ?_
                  refine lv_iconst (v := (-1)) hx hb dX3_obey_191 (by decide) ?_
                  obtain ⟨er, eM⟩ := pr_use hF
                  exact rt_I hx hb hr hlocks hS (by rw [← eM]; exact hP) er dX3_obey_192
  have j59 : ∀ (N : Pg × Vn) (x2 : Int32) (x3 : Int32) (x4 : Int32) (s0 : Int32) (H : Heap) (locs : List Loc) (ls : Array Slot), fX3_obey_j59 N x2 x3 x4 s0 = some (r, M') → va_P D vwCl (wPd cI q d a N) H → va_S A s.heap H locs → lv_has ls 7 [(0, .ref (q 0)), (1, .ref d), (2, .int x2), (3, .int x3), (4, .int x4)] → W p l e rmX3_obey s m args below meth c H locs 0 0 (MQ below (qI D r (wPd cI q d a (M')) A) args s 0 0 A) (F0 m 59 ls [.int s0]) := by
    intro N x2 x3 x4 s0 H locs ls hF hP hS hl
    refine lv_istore (lv' := [(5, .int s0), (0, .ref (q 0)), (1, .ref d), (2, .int x2), (3, .int x3), (4, .int x4)]) hx hb dX3_obey_59 hl (by decide) rfl (fun ls hl => ?_)
    refine lv_aload_n hx hb dX3_obey_61 rfl (lv_at hl 1 rfl) ?_
    refine va_get (ci := 3) (v := .ref (q 2)) (C := RX3) (T := TX3) (N := 6) hx hb htb kin3 hown hK hP 0 (pPd_0 cI q d a N) rfl 1 (by decide) (htb _ bw1_197) (fun _ h9 => h9) rfl dX3_obey_62 ?_
    refine va_alen (v := 4) hx hb hK hP 2 0 (pPd_2 cI q d a N) rfl rfl dX3_obey_65 ?_
    refine lv_iconst (v := 3) hx hb dX3_obey_66 (by decide) ?_
    refine lv_icmp_le (tgt := 79) hx hb dX3_obey_67 (by decide) (fun c4 => ?_) (fun c4 => ?_)
    · have hF := it_t hF c4
      refine lv_iconst (v := 0) hx hb dX3_obey_79 (by decide) ?_
      exact j80 N x2 x3 x4 s0 0 _ _ _ hF hP hS (lv_sub hl [2, 3, 4, 5, 0] rfl)
    · have hF := it_f hF c4
      refine lv_aload_n hx hb dX3_obey_70 rfl (lv_at hl 1 rfl) ?_
      refine va_get (ci := 3) (v := .ref (q 2)) (C := RX3) (T := TX3) (N := 6) hx hb htb kin3 hown hK hP 0 (pPd_0 cI q d a N) rfl 1 (by decide) (htb _ bw1_197) (fun _ h9 => h9) rfl dX3_obey_71 ?_
      refine lv_iconst (v := 3) hx hb dX3_obey_74 (by decide) ?_
      obtain ⟨hi, hF⟩ := rd_use hF
      refine va_iald hx hb hK hP 2 0 (pPd_2 cI q d a N) rfl hi dX3_obey_75 ?_
      refine lv_topi (fun v33 ev33 => ?_)
      have hF := hF v33 ev33
      refine lv_goto (tgt := 80) hx hb dX3_obey_76 (by decide) ?_
      exact j80 N x2 x3 x4 s0 v33 _ _ _ hF hP hS (lv_sub hl [2, 3, 4, 5, 0] rfl)
  have j38 : ∀ (N : Pg × Vn) (x2 : Int32) (x3 : Int32) (s0 : Int32) (H : Heap) (locs : List Loc) (ls : Array Slot), fX3_obey_j38 N x2 x3 s0 = some (r, M') → va_P D vwCl (wPd cI q d a N) H → va_S A s.heap H locs → lv_has ls 7 [(0, .ref (q 0)), (1, .ref d), (2, .int x2), (3, .int x3)] → W p l e rmX3_obey s m args below meth c H locs 0 0 (MQ below (qI D r (wPd cI q d a (M')) A) args s 0 0 A) (F0 m 38 ls [.int s0]) := by
    intro N x2 x3 s0 H locs ls hF hP hS hl
    refine lv_istore (lv' := [(4, .int s0), (0, .ref (q 0)), (1, .ref d), (2, .int x2), (3, .int x3)]) hx hb dX3_obey_38 hl (by decide) rfl (fun ls hl => ?_)
    refine lv_aload_n hx hb dX3_obey_40 rfl (lv_at hl 1 rfl) ?_
    refine va_get (ci := 3) (v := .ref (q 2)) (C := RX3) (T := TX3) (N := 6) hx hb htb kin3 hown hK hP 0 (pPd_0 cI q d a N) rfl 1 (by decide) (htb _ bw1_197) (fun _ h9 => h9) rfl dX3_obey_41 ?_
    refine va_alen (v := 4) hx hb hK hP 2 0 (pPd_2 cI q d a N) rfl rfl dX3_obey_44 ?_
    refine lv_iconst (v := 2) hx hb dX3_obey_45 (by decide) ?_
    refine lv_icmp_le (tgt := 58) hx hb dX3_obey_46 (by decide) (fun c3 => ?_) (fun c3 => ?_)
    · have hF := it_t hF c3
      refine lv_iconst (v := 0) hx hb dX3_obey_58 (by decide) ?_
      exact j59 N x2 x3 s0 0 _ _ _ hF hP hS (lv_sub hl [1, 2, 3, 4, 0] rfl)
    · have hF := it_f hF c3
      refine lv_aload_n hx hb dX3_obey_49 rfl (lv_at hl 1 rfl) ?_
      refine va_get (ci := 3) (v := .ref (q 2)) (C := RX3) (T := TX3) (N := 6) hx hb htb kin3 hown hK hP 0 (pPd_0 cI q d a N) rfl 1 (by decide) (htb _ bw1_197) (fun _ h9 => h9) rfl dX3_obey_50 ?_
      refine lv_iconst (v := 2) hx hb dX3_obey_53 (by decide) ?_
      obtain ⟨hi, hF⟩ := rd_use hF
      refine va_iald hx hb hK hP 2 0 (pPd_2 cI q d a N) rfl hi dX3_obey_54 ?_
      refine lv_topi (fun v34 ev34 => ?_)
      have hF := hF v34 ev34
      refine lv_goto (tgt := 59) hx hb dX3_obey_55 (by decide) ?_
      exact j59 N x2 x3 s0 v34 _ _ _ hF hP hS (lv_sub hl [1, 2, 3, 4, 0] rfl)
  have j18 : ∀ (N : Pg × Vn) (x2 : Int32) (s0 : Int32) (H : Heap) (locs : List Loc) (ls : Array Slot), fX3_obey_j18 N x2 s0 = some (r, M') → va_P D vwCl (wPd cI q d a N) H → va_S A s.heap H locs → lv_has ls 7 [(0, .ref (q 0)), (1, .ref d), (2, .int x2)] → W p l e rmX3_obey s m args below meth c H locs 0 0 (MQ below (qI D r (wPd cI q d a (M')) A) args s 0 0 A) (F0 m 18 ls [.int s0]) := by
    intro N x2 s0 H locs ls hF hP hS hl
    refine lv_istore_n (lv' := [(3, .int s0), (0, .ref (q 0)), (1, .ref d), (2, .int x2)]) hx hb dX3_obey_18 rfl hl (by decide) rfl (fun ls hl => ?_)
    refine lv_aload_n hx hb dX3_obey_19 rfl (lv_at hl 1 rfl) ?_
    refine va_get (ci := 3) (v := .ref (q 2)) (C := RX3) (T := TX3) (N := 6) hx hb htb kin3 hown hK hP 0 (pPd_0 cI q d a N) rfl 1 (by decide) (htb _ bw1_197) (fun _ h9 => h9) rfl dX3_obey_20 ?_
    refine va_alen (v := 4) hx hb hK hP 2 0 (pPd_2 cI q d a N) rfl rfl dX3_obey_23 ?_
    refine lv_iconst (v := 1) hx hb dX3_obey_24 (by decide) ?_
    refine lv_icmp_le (tgt := 37) hx hb dX3_obey_25 (by decide) (fun c2 => ?_) (fun c2 => ?_)
    · have hF := it_t hF c2
      refine lv_iconst (v := 0) hx hb dX3_obey_37 (by decide) ?_
      exact j38 N x2 s0 0 _ _ _ hF hP hS (lv_sub hl [1, 2, 3, 0] rfl)
    · have hF := it_f hF c2
      refine lv_aload_n hx hb dX3_obey_28 rfl (lv_at hl 1 rfl) ?_
      refine va_get (ci := 3) (v := .ref (q 2)) (C := RX3) (T := TX3) (N := 6) hx hb htb kin3 hown hK hP 0 (pPd_0 cI q d a N) rfl 1 (by decide) (htb _ bw1_197) (fun _ h9 => h9) rfl dX3_obey_29 ?_
      refine lv_iconst (v := 1) hx hb dX3_obey_32 (by decide) ?_
      obtain ⟨hi, hF⟩ := rd_use hF
      refine va_iald hx hb hK hP 2 0 (pPd_2 cI q d a N) rfl hi dX3_obey_33 ?_
      refine lv_topi (fun v35 ev35 => ?_)
      have hF := hF v35 ev35
      refine lv_goto (tgt := 38) hx hb dX3_obey_34 (by decide) ?_
      exact j38 N x2 s0 v35 _ _ _ hF hP hS (lv_sub hl [1, 2, 3, 0] rfl)
  refine lv_aload_n hx hb dX3_obey_0 rfl (lv_at hl 0 rfl) ?_
  refine va_get (ci := 3) (v := .ref (q 2)) (C := RX3) (T := TX3) (N := 6) hx hb htb kin3 hown hK hP 0 (pPd_0 cI q d a N) rfl 1 (by decide) (htb _ bw1_197) (fun _ h9 => h9) rfl dX3_obey_1 ?_
  refine va_alen (v := 4) hx hb hK hP 2 0 (pPd_2 cI q d a N) rfl rfl dX3_obey_4 ?_
  refine lv_if_le (tgt := 17) hx hb dX3_obey_5 (by decide) (fun c1 => ?_) (fun c1 => ?_)
  · have hF := it_t hF c1
    refine lv_iconst (v := 0) hx hb dX3_obey_17 (by decide) ?_
    exact j18 N x2 0 _ _ _ hF hP hS (lv_sub hl [0, 1, 2] rfl)
  · have hF := it_f hF c1
    refine lv_aload_n hx hb dX3_obey_8 rfl (lv_at hl 0 rfl) ?_
    refine va_get (ci := 3) (v := .ref (q 2)) (C := RX3) (T := TX3) (N := 6) hx hb htb kin3 hown hK hP 0 (pPd_0 cI q d a N) rfl 1 (by decide) (htb _ bw1_197) (fun _ h9 => h9) rfl dX3_obey_9 ?_
    refine lv_iconst (v := 0) hx hb dX3_obey_12 (by decide) ?_
    obtain ⟨hi, hF⟩ := rd_use hF
    refine va_iald hx hb hK hP 2 0 (pPd_2 cI q d a N) rfl hi dX3_obey_13 ?_
    refine lv_topi (fun v36 ev36 => ?_)
    have hF := hF v36 ev36
    refine lv_goto (tgt := 18) hx hb dX3_obey_14 (by decide) ?_
    exact j18 N x2 v36 _ _ _ hF hP hS (lv_sub hl [0, 1, 2] rfl)
noncomputable def fX3_perform_l7  (kk : (Pg × Vn) → Option (Int32 × (Pg × Vn))) : Nat → (Pg × Vn) → Int32 → Option (Int32 × (Pg × Vn)) := fun fu => Nat.rec (motive := fun _ => (Pg × Vn) → Int32 → Option (Int32 × (Pg × Vn))) (fun _ _ => none) (fun _ ih => fun N x2 => if 140 < x2 then (some ((-1000) - (N.1.2.2.1), N)) else ((fX3_readToken (N.1)).bind fun M3 => nm ((M3, N.2)) fun M4 => if (M4.1.2.2.2.1) = 0 then (some (x2, M4)) else (nm (M4.1.2.2.2.2.1) fun v6 => (fX3_commandWord (M4.1)).bind fun r7 => if r7 = (-1) then (kk M4) else (b2 (fX3_readNumbers (M4.1) r7) fun r10 M9 => nm ((M9, M4.2)) fun M11 => if r10 = 0 then (kk M11) else ((fX3_readToken (M11.1)).bind fun M13 => nm ((M13, M11.2)) fun M14 => (fX3_isSemicolon (M14.1)).bind fun r15 => if r15 = 0 then (some ((-1000) - (M14.1.2.2.2.2.1), M14)) else (b2 (fX3_obey M14 r7) fun r18 M17 => if 0 ≤ r18 then (nm (x2 + 1) fun v20 => ih M17 v20) else (some ((-1000) - v6, M17)))))))) fu
theorem fX3_perform_l7_s  (kk : (Pg × Vn) → Option (Int32 × (Pg × Vn))) (fu : Nat) (N : Pg × Vn) (x2 : Int32) : fX3_perform_l7 kk (fu + 1) N x2 = (if 140 < x2 then (some ((-1000) - (N.1.2.2.1), N)) else ((fX3_readToken (N.1)).bind fun M3 => nm ((M3, N.2)) fun M4 => if (M4.1.2.2.2.1) = 0 then (some (x2, M4)) else (nm (M4.1.2.2.2.2.1) fun v6 => (fX3_commandWord (M4.1)).bind fun r7 => if r7 = (-1) then (kk M4) else (b2 (fX3_readNumbers (M4.1) r7) fun r10 M9 => nm ((M9, M4.2)) fun M11 => if r10 = 0 then (kk M11) else ((fX3_readToken (M11.1)).bind fun M13 => nm ((M13, M11.2)) fun M14 => (fX3_isSemicolon (M14.1)).bind fun r15 => if r15 = 0 then (some ((-1000) - (M14.1.2.2.2.2.1), M14)) else (b2 (fX3_obey M14 r7) fun r18 M17 => if 0 ≤ r18 then (nm (x2 + 1) fun v20 => (fX3_perform_l7 kk fu) M17 v20) else (some ((-1000) - v6, M17)))))))) := rfl
theorem fX3_perform_l7_z  (kk : (Pg × Vn) → Option (Int32 × (Pg × Vn))) (N : Pg × Vn) (x2 : Int32) : fX3_perform_l7 kk 0 N x2 = none := rfl
noncomputable def fX3_perform  (N : Pg × Vn) : Option (Int32 × (Pg × Vn)) := nm (((N.1.1, N.1.2.1, N.1.2.2.1, N.1.2.2.2.1, N.1.2.2.2.2.1, 0), N.2)) fun M1 => fX3_perform_l7 (fun M21 => some ((-1000) - (M21.1.2.2.2.2.1), M21)) FU M1 0
abbrev vX3_perform : List Cond := Cond.code yX3_perform cX3_perform 5 (some .int) :: BIG
theorem gX3_perform {own : String} {idx : Nat} (h : (Cond.methodLink own idx yX3_perform) ∈ BIG) : GoodIn BIG (wsV own idx RX3 yX3_perform vX3_perform) := gdV h bw3_26 bw3_27 bw1_10 bw3_28
def rmX3_perform : Room := { frames := 6, cells := 0, slots := 0, locals := 152 }
theorem hdX3_perform : yX3_perform.cls = RX3 ∧ yX3_perform.cls ≠ "java/lang/invoke/MethodHandle" ∧ yX3_perform.cls ≠ "java/lang/invoke/VarHandle" ∧ (parseMethodDescriptor yX3_perform.desc).map (fun d => d.parameters.length) = some 1 := by decide +kernel
set_option maxHeartbeats 4000000 in
set_option maxRecDepth 100000 in
theorem kX3_perform (l : Launch) (D : va_G) (cS : ClassId) (g : Nat → Nat) (cI : ClassId) (q : Nat → Nat) (d : Nat) (a : Nat → Nat) (N : Pg × Vn) (r : Int32) (M' : Pg × Vn) (hF : fX3_perform N = some (r, M')) : mI l yX3_perform vX3_perform rmX3_perform D cI cS g [.ref (q 0), .ref d] (wPd cI q d a N) r (wPd cI q d a (M')) := by
  refine st_I rfl (by decide) (Nat.le_of_ble_eq_true rfl) ?_
  intro p e s m args below meth c A ls hx hb hr hml hlocks hown hts hA hK hD0 hG hP hS hl
  have hown : s.vm.findClass RX3 = some m.cls := hown
  have hDa : ∀ N, va_D A (wPd cI q d a N) := fun N => hD0.adr rfl
  have htb : ∀ w ∈ BIG, w.before args s = true := fun w h => hts w (List.mem_cons_of_mem _ h)
  have hl : lv_has ls 5 [(0, .ref (q 0)), (1, .ref d)] := hl
  have l7 : ∀ (kk : (Pg × Vn) → Option (Int32 × (Pg × Vn))) (fu : Nat) (N : Pg × Vn) (x2 : Int32) (H : Heap) (locs : List Loc) (ls : Array Slot), fX3_perform_l7 kk fu N x2 = some (r, M') → va_P D vwCl (wPd cI q d a N) H → va_S A s.heap H locs → lv_has ls 5 [(0, .ref (q 0)), (1, .ref d), (2, .int x2)] → (∀ (N : Pg × Vn) (H : Heap) (locs : List Loc) (ls : Array Slot), kk N = some (r, M') → va_P D vwCl (wPd cI q d a N) H → va_S A s.heap H locs → lv_has ls 5 [(0, .ref (q 0))] → W p l e rmX3_perform s m args below meth c H locs 0 0 (MQ below (qI D r (wPd cI q d a (M')) A) args s 0 0 A) (F0 m 53 ls [])) → W p l e rmX3_perform s m args below meth c H locs 0 0 (MQ below (qI D r (wPd cI q d a (M')) A) args s 0 0 A) (F0 m 7 ls []) := by
    intro kk fu
    induction fu with
    | zero => intro N x2 H locs ls hF; exact nn_use hF
    | succ fu ihn =>
      intro N x2 H locs ls hF hP hS hl after
      rw [fX3_perform_l7_s] at hF
      refine lv_iload_n hx hb dX3_perform_7 rfl (lv_at hl 2 rfl) ?_
      refine lv_sipush (v := 140) hx hb dX3_perform_8 (by decide) ?_
      refine lv_icmp_gt (tgt := 104) hx hb dX3_perform_11 (by decide) (fun c2 => ?_) (fun c2 => ?_)
      · have hF := it_t hF c2
        refine lv_sipush (v := (-1000)) hx hb dX3_perform_104 (by decide) ?_
        refine lv_aload_n hx hb dX3_perform_107 rfl (lv_at hl 0 rfl) ?_
        refine va_get (ci := 3) (v := .int (N.1.2.2.1)) (C := RX3) (T := TX3) (N := 6) hx hb htb kin3 hown hK hP 0 (pPd_0 cI q d a N) rfl 2 (by decide) (htb _ bw1_198) (fun _ h9 => h9) rfl dX3_perform_108 ?_
        refine lv_isub hx hb dX3_perform_111 ?_
        obtain ⟨er, eM⟩ := pr_use hF
        exact rt_I hx hb hr hlocks hS (by rw [← eM]; exact hP) er dX3_perform_112
      · have hF := it_f hF c2
        refine lv_aload_n hx hb dX3_perform_14 rfl (lv_at hl 0 rfl) ?_
        obtain ⟨M3, hM3, hF⟩ := bd_use hF
        refine cl_VV ⟨hx, hb, hml, hown, htb⟩ (kX3_readToken l D cS g cI q (N.1)  _ hM3) (cwV 0 htb (gX3_readToken bw3_29) rfl rfl rfl hdX3_readToken ⟨Nat.le_of_ble_eq_true rfl, Nat.le_of_ble_eq_true rfl⟩) hK (hDa _) hG hA hP hS (sg_Pd_Pg cI q d a N M3) hl.1 rfl 0 (pPg_0 _ _ _) rfl rfl (Nat.le_of_ble_eq_true rfl) dX3_perform_15 (fun H locs hP hS => ?_)
        obtain ⟨M4, eM4⟩ : ∃ z : Pg × Vn, z = (M3, N.2) := ⟨_, rfl⟩
        have hF := nm_use hF eM4
        have hP : va_P D vwCl (wPd cI q d a M4) H := by rw [eM4]; exact hP
        refine lv_aload_n hx hb dX3_perform_18 rfl (lv_at hl 0 rfl) ?_
        refine va_get (ci := 3) (v := .int (M4.1.2.2.2.1)) (C := RX3) (T := TX3) (N := 6) hx hb htb kin3 hown hK hP 0 (pPd_0 cI q d a M4) rfl 3 (by decide) (htb _ bw1_199) (fun _ h9 => h9) rfl dX3_perform_19 ?_
        refine lv_if_ne (tgt := 27) hx hb dX3_perform_22 (by decide) (fun c5 => ?_) (fun c5 => ?_)
        · have hF := it_f hF c5
          refine lv_aload_n hx hb dX3_perform_27 rfl (lv_at hl 0 rfl) ?_
          refine va_get (ci := 3) (v := .int (M4.1.2.2.2.2.1)) (C := RX3) (T := TX3) (N := 6) hx hb htb kin3 hown hK hP 0 (pPd_0 cI q d a M4) rfl 4 (by decide) (htb _ bw1_200) (fun _ h9 => h9) rfl dX3_perform_28 ?_
          refine lv_topi (fun v6 ev6 => ?_)
          have hF := nm_use hF ev6
          refine lv_istore_n (lv' := [(3, .int v6), (0, .ref (q 0)), (1, .ref d), (2, .int x2)]) hx hb dX3_perform_31 rfl hl (by decide) rfl (fun ls hl => ?_)
          refine lv_aload_n hx hb dX3_perform_32 rfl (lv_at hl 1 rfl) ?_
          obtain ⟨r7, hr7, hF⟩ := bd_use hF
          refine cl_VI ⟨hx, hb, hml, hown, htb⟩ (kX3_commandWord l D cS g cI q (M4.1)  _ hr7) (cwV 0 htb (gX3_commandWord bw3_41) rfl rfl rfl hdX3_commandWord ⟨Nat.le_of_ble_eq_true rfl, Nat.le_of_ble_eq_true rfl⟩) hK (hDa _) hG hA hP hS (sr_Pd_Pg cI q d a M4) hl.1 rfl 0 (pPg_0 _ _ _) rfl rfl (Nat.le_of_ble_eq_true rfl) dX3_perform_33 (fun H locs hP hS => ?_)
          refine lv_istore (lv' := [(4, .int r7), (3, .int v6), (0, .ref (q 0)), (1, .ref d), (2, .int x2)]) hx hb dX3_perform_36 hl (by decide) rfl (fun ls hl => ?_)
          refine lv_iload hx hb dX3_perform_38 (lv_at hl 0 rfl) ?_
          refine lv_iconst (v := (-1)) hx hb dX3_perform_40 (by decide) ?_
          refine lv_icmp_eq (tgt := 53) hx hb dX3_perform_41 (by decide) (fun c8 => ?_) (fun c8 => ?_)
          · have hF := it_t hF c8
            exact after M4 _ _ _ hF hP hS (lv_sub hl [2] rfl)
          · have hF := it_f hF c8
            refine lv_aload_n hx hb dX3_perform_44 rfl (lv_at hl 2 rfl) ?_
            refine lv_iload hx hb dX3_perform_45 (lv_at hl 0 rfl) ?_
            obtain ⟨r10, M9, hM9, hF⟩ := b2_use hF
            refine cl_VI ⟨hx, hb, hml, hown, htb⟩ (kX3_readNumbers l D cS g cI q (M4.1) r7 _ _ hM9) (cwV 1 htb (gX3_readNumbers bw3_104) rfl rfl rfl hdX3_readNumbers ⟨Nat.le_of_ble_eq_true rfl, Nat.le_of_ble_eq_true rfl⟩) hK (hDa _) hG hA hP hS (sg_Pd_Pg cI q d a M4 M9) hl.1 rfl 0 (pPg_0 _ _ _) rfl rfl (Nat.le_of_ble_eq_true rfl) dX3_perform_47 (fun H locs hP hS => ?_)
            obtain ⟨M11, eM11⟩ : ∃ z : Pg × Vn, z = (M9, M4.2) := ⟨_, rfl⟩
            have hF := nm_use hF eM11
            have hP : va_P D vwCl (wPd cI q d a M11) H := by rw [eM11]; exact hP
            refine lv_if_ne (tgt := 62) hx hb dX3_perform_50 (by decide) (fun c12 => ?_) (fun c12 => ?_)
            · have hF := it_f hF c12
              refine lv_aload_n hx hb dX3_perform_62 rfl (lv_at hl 2 rfl) ?_
              obtain ⟨M13, hM13, hF⟩ := bd_use hF
              refine cl_VV ⟨hx, hb, hml, hown, htb⟩ (kX3_readToken l D cS g cI q (M11.1)  _ hM13) (cwV 0 htb (gX3_readToken bw3_29) rfl rfl rfl hdX3_readToken ⟨Nat.le_of_ble_eq_true rfl, Nat.le_of_ble_eq_true rfl⟩) hK (hDa _) hG hA hP hS (sg_Pd_Pg cI q d a M11 M13) hl.1 rfl 0 (pPg_0 _ _ _) rfl rfl (Nat.le_of_ble_eq_true rfl) dX3_perform_63 (fun H locs hP hS => ?_)
              obtain ⟨M14, eM14⟩ : ∃ z : Pg × Vn, z = (M13, M11.2) := ⟨_, rfl⟩
              have hF := nm_use hF eM14
              have hP : va_P D vwCl (wPd cI q d a M14) H := by rw [eM14]; exact hP
              refine lv_aload_n hx hb dX3_perform_66 rfl (lv_at hl 2 rfl) ?_
              obtain ⟨r15, hr15, hF⟩ := bd_use hF
              refine cl_VI ⟨hx, hb, hml, hown, htb⟩ (kX3_isSemicolon l D cS g cI q (M14.1)  _ hr15) (cwV 0 htb (gX3_isSemicolon bw3_118) rfl rfl rfl hdX3_isSemicolon ⟨Nat.le_of_ble_eq_true rfl, Nat.le_of_ble_eq_true rfl⟩) hK (hDa _) hG hA hP hS (sr_Pd_Pg cI q d a M14) hl.1 rfl 0 (pPg_0 _ _ _) rfl rfl (Nat.le_of_ble_eq_true rfl) dX3_perform_67 (fun H locs hP hS => ?_)
              refine lv_if_ne (tgt := 82) hx hb dX3_perform_70 (by decide) (fun c16 => ?_) (fun c16 => ?_)
              · have hF := it_f hF c16
                refine lv_aload_n hx hb dX3_perform_82 rfl (lv_at hl 2 rfl) ?_
                refine lv_aload_n hx hb dX3_perform_83 rfl (lv_at hl 3 rfl) ?_
                refine lv_iload hx hb dX3_perform_84 (lv_at hl 0 rfl) ?_
                obtain ⟨r18, M17, hM17, hF⟩ := b2_use hF
                refine cl_VI ⟨hx, hb, hml, hown, htb⟩ (kX3_obey l D cS g cI q d a M14 r7 _ _ hM17) (cwV 2 htb (gX3_obey bw3_122) rfl rfl rfl hdX3_obey ⟨Nat.le_of_ble_eq_true rfl, Nat.le_of_ble_eq_true rfl⟩) hK (hDa _) hG hA hP hS (sg_Pd_Pd cI q d a M14 M17) hl.1 rfl 0 (pPd_0 _ _ _ _ _) rfl rfl (Nat.le_of_ble_eq_true rfl) dX3_perform_86 (fun H locs hP hS => ?_)
                refine lv_if_ge (tgt := 98) hx hb dX3_perform_89 (by decide) (fun c19 => ?_) (fun c19 => ?_)
                · have hF := it_t hF c19
                  obtain ⟨v20, ev20⟩ : ∃ z : Int32, z = x2 + 1 := ⟨_, rfl⟩
                  refine lv_iinc (v := v20) (lv' := [(2, .int v20), (4, .int r7), (3, .int v6), (0, .ref (q 0)), (1, .ref d)]) hx hb dX3_perform_98 hl (k := 4) rfl (by rw [ev20]; rfl) (by decide) rfl (fun ls hl => ?_)
                  have hF := nm_use hF ev20
                  refine lv_goto (tgt := 7) hx hb dX3_perform_101 (by decide) ?_
                  exact ihn M17 v20 _ _ _ hF hP hS (lv_sub hl [3, 4, 0] rfl) after
                · have hF := it_f hF c19
                  refine lv_sipush (v := (-1000)) hx hb dX3_perform_92 (by decide) ?_
                  refine lv_iload_n hx hb dX3_perform_95 rfl (lv_at hl 1 rfl) ?_
                  refine lv_isub hx hb dX3_perform_96 ?_
                  obtain ⟨er, eM⟩ := pr_use hF
                  exact rt_I hx hb hr hlocks hS (by rw [← eM]; exact hP) er dX3_perform_97
              · have hF := it_t hF c16
                refine lv_sipush (v := (-1000)) hx hb dX3_perform_73 (by decide) ?_
                refine lv_aload_n hx hb dX3_perform_76 rfl (lv_at hl 2 rfl) ?_
                refine va_get (ci := 3) (v := .int (M14.1.2.2.2.2.1)) (C := RX3) (T := TX3) (N := 6) hx hb htb kin3 hown hK hP 0 (pPd_0 cI q d a M14) rfl 4 (by decide) (htb _ bw1_200) (fun _ h9 => h9) rfl dX3_perform_77 ?_
                refine lv_isub hx hb dX3_perform_80 ?_
                obtain ⟨er, eM⟩ := pr_use hF
                exact rt_I hx hb hr hlocks hS (by rw [← eM]; exact hP) er dX3_perform_81
            · have hF := it_t hF c12
              exact after M11 _ _ _ hF hP hS (lv_sub hl [2] rfl)
        · have hF := it_t hF c5
          refine lv_iload_n hx hb dX3_perform_25 rfl (lv_at hl 2 rfl) ?_
          obtain ⟨er, eM⟩ := pr_use hF
          exact rt_I hx hb hr hlocks hS (by rw [← eM]; exact hP) er dX3_perform_26
  refine lv_aload_n hx hb dX3_perform_0 rfl (lv_at hl 0 rfl) ?_
  refine lv_iconst (v := 0) hx hb dX3_perform_1 (by decide) ?_
  refine va_put (ci := 3) (v := .int 0) (ty := .int) (C := RX3) (T := TX3) (N := 6) hx hb htb kin3 tyX3 tyX3_ok nmX3 hown hK hP (hDa _) hS 0 (pPd_0 cI q d a N) rfl 5 (by decide) (htb _ bw1_201) (fun _ h9 => h9) rfl (by decide +kernel) rfl rfl (Nat.le_of_ble_eq_true rfl) dX3_perform_2 (fun H locs hP _ hS => ?_)
  obtain ⟨M1, eM1⟩ : ∃ z : Pg × Vn, z = ((N.1.1, N.1.2.1, N.1.2.2.1, N.1.2.2.2.1, N.1.2.2.2.2.1, 0), N.2) := ⟨_, rfl⟩
  have hF := nm_use hF eM1
  have hP : va_P D vwCl (wPd cI q d a M1) H := by rw [eM1]; exact hP
  refine lv_iconst (v := 0) hx hb dX3_perform_5 (by decide) ?_
  refine lv_istore_n (lv' := [(2, .int 0), (0, .ref (q 0)), (1, .ref d)]) hx hb dX3_perform_6 rfl hl (by decide) rfl (fun ls hl => ?_)
  refine l7  _ _ M1 0 _ _ _ hF hP hS (lv_sub hl [1, 2, 0] rfl) ?_
  · intro M21 H locs ls hF hP hS hl
    refine lv_sipush (v := (-1000)) hx hb dX3_perform_53 (by decide) ?_
    refine lv_aload_n hx hb dX3_perform_56 rfl (lv_at hl 0 rfl) ?_
    refine va_get (ci := 3) (v := .int (M21.1.2.2.2.2.1)) (C := RX3) (T := TX3) (N := 6) hx hb htb kin3 hown hK hP 0 (pPd_0 cI q d a M21) rfl 4 (by decide) (htb _ bw1_200) (fun _ h9 => h9) rfl dX3_perform_57 ?_
    refine lv_isub hx hb dX3_perform_60 ?_
    obtain ⟨er, eM⟩ := pr_use hF
    exact rt_I hx hb hr hlocks hS (by rw [← eM]; exact hP) er dX3_perform_61

/-! The loop of the law, and its start. -/
section LOOP
variable {p : Program} {l : Launch} {e : Env} {s : State} {m : MethodId} {below : List Frame} {meth : Method} {c : Code} {D : va_G} {cI cS : ClassId} {g : Nat → Nat} {b L : Nat} {xs : Nat → Int32} {xx xd xo hh ha : Nat} {z : Nat → Nat → Nat} {zn q bm : Nat → Nat} {cells slots : Nat}
set_option maxHeartbeats 4000000 in
set_option maxRecDepth 100000 in
theorem lw_loop (hL : L ≤ 2560) (C0 : lw_At p s m meth c b L xs) (hK : va_K D vwCl (tI cI cS) s) (hG : GG g (fun q : Nat => s.heap.size ≤ q) s s.heap) (hDa : ∀ M mm, va_D (fun q : Nat => s.heap.size ≤ q) (wXX cI cS xx xd xo hh ha z zn q M ++ wMd cI bm mm)) (hf : cells ≤ room_1.cells ∧ slots ≤ room_1.slots) :
    ∀ (n j : Nat), j ≤ 512 → j + n = 513 → ∀ (M : Xm) (mm : Md) (H : Heap) (locs : List Loc) (ls : Array Slot), Inv (145 * (j : Int)) M mm → va_P D vwCl (wXX cI cS xx xd xo hh ha z zn q M ++ wMd cI bm mm) H → va_S (fun q : Nat => s.heap.size ≤ q) s.heap H locs → lv_has ls 4 [(0, .ref b), (1, .ref xx), (2, .ref (bm 0)), (3, .int (iI (5 * (j : Int))))] →
      W p l e room_1 s m #[Value.ref b] below meth c H locs cells slots (lw_Z below #[Value.ref b] s) (F0 m 18 ls []) := by
  obtain ⟨hx, hb, hr, hml, hown, hts, hX, hbl, hlocks, hgv⟩ := C0
  have hown : s.vm.findClass RL = some m.cls := hown
  have htb : ∀ w ∈ BIG, w.before #[Value.ref b] s = true := fun w h => hts w (big_in w h)
  have hA : ∀ q : Nat, s.heap.size ≤ q → (fun q : Nat => s.heap.size ≤ q) q := fun _ h => h
  have hbA : ¬ (fun q : Nat => s.heap.size ≤ q) b := Nat.not_le.mpr hbl
  intro n
  induction n with
  | zero =>
    intro j h1 h2
    exact absurd h2 (by omega)
  | succ n ih =>
    intro j hj hjn M mm H locs ls hI hP hS hl
    refine lv_iload_n hx hb dL_law_18 rfl (lv_at hl 3 rfl) ?_
    refine lv_aload_n hx hb dL_law_19 rfl (lv_at hl 0 rfl) ?_
    refine va_slen hx hb hX hbl hbA hS dL_law_20 ?_
    refine lv_iconst (v := 5) hx hb dL_law_21 (by decide) ?_
    refine lv_isub hx hb dL_law_22 ?_
    rw [show Int32.ofNat L - 5 = iI ((L : Int) - 5) from (congrArg (· - (5 : Int32)) (nI_iI L)).trans (iS (L : Int) 5)]
    refine lv_icmp_gt (tgt := 926) hx hb dL_law_23 (by decide) (fun c1 => ?_) (fun c1 => ?_)
    · refine lv_iconst (v := 1) hx hb dL_law_926 (by decide) ?_
      refine va_forget (fun q hq => hS.2.2 q hq) ?_
      refine W.widen (k := 600000) (n := 7302250) hf.1 hf.2 ?_
      exact lw_ret hx hb hr hlocks dL_law_927
    · have hlt : 5 * (j : Int) + 5 ≤ L := by
        rw [iLt (by omega) (by omega) (by omega) (by omega)] at c1
        omega
      have hv : ∀ d : Int, 0 ≤ d → d < 5 → vp_in (iI (5 * (j : Int) + d)) L := fun d d0 d1 => vp_in_iff.mpr (by rw [iT (by omega) (by omega)]; omega)
      have h0 : vp_in (iI (5 * (j : Int))) L := by have := hv 0 (by omega) (by omega); rwa [show 5 * (j : Int) + 0 = 5 * (j : Int) by omega] at this
      have h1 : vp_in (iI (5 * (j : Int)) + 1) L := by rw [show (1 : Int32) = iI 1 from rfl, iA]; exact hv 1 (by omega) (by omega)
      have h2 : vp_in (iI (5 * (j : Int)) + 2) L := by rw [show (2 : Int32) = iI 2 from rfl, iA]; exact hv 2 (by omega) (by omega)
      have h3 : vp_in (iI (5 * (j : Int)) + 3) L := by rw [show (3 : Int32) = iI 3 from rfl, iA]; exact hv 3 (by omega) (by omega)
      have h4 : vp_in (iI (5 * (j : Int)) + 4) L := by rw [show (4 : Int32) = iI 4 from rfl, iA]; exact hv 4 (by omega) (by omega)
      have kk : ∀ (M' : Xm) (mm' : Md) (H : Heap) (locs : List Loc), Inv (145 * (j : Int) + 145) M' mm' → va_P D vwCl (wXX cI cS xx xd xo hh ha z zn q M' ++ wMd cI bm mm') H → va_S (fun q : Nat => s.heap.size ≤ q) s.heap H locs → W p l e room_1 s m #[Value.ref b] below meth c H locs cells slots (lw_Z below #[Value.ref b] s) (F0 m 920 ls []) := by
        intro M' mm' H locs hI hP hS
        refine lv_iinc (v := iI (5 * ((j + 1 : Nat) : Int))) (lv' := [(3, .int (iI (5 * ((j + 1 : Nat) : Int)))), (0, .ref b), (1, .ref xx), (2, .ref (bm 0))]) hx hb dL_law_920 hl (k := 3) rfl ((iA _ 5).trans (congrArg Int32.ofInt (by omega))) (by decide) rfl (fun ls hl => ?_)
        refine lv_goto (tgt := 18) hx hb dL_law_923 (by decide) ?_
        exact ih (j + 1) (by omega) (by omega) M' mm' H locs ls (by rw [show 145 * ((j + 1 : Nat) : Int) = 145 * (j : Int) + 145 by omega]; exact hI) hP hS (lv_sub hl [1, 2, 3, 0] rfl)
      clear ih
      refine lv_aload_n hx hb dL_law_26 rfl (lv_at hl 0 rfl) ?_
      refine lv_iload_n hx hb dL_law_27 rfl (lv_at hl 3 rfl) ?_
      refine va_sld hx hb hX hbl hbA hS h0 dL_law_28 ?_
      refine lv_bipush (v := 31) hx hb dL_law_29 (by decide) ?_
      refine lv_iand hx hb dL_law_31 ?_
      generalize xs (iI (5 * (j : Int))).toNatClampNeg &&& 31 = x
      have hKb : 145 * (j : Int) + 145 ≤ 80000 := by omega
      rcases sw_26 x with hx26 | ⟨k, hk, rfl⟩
      · refine lv_tableOut (x := x) (tgt := 920) hx hb dL_law_32 hx26 (by decide) ?_
        exact kk M mm H locs (hI.mono (by omega) hKb) hP hS
      · rcases (show k = 0 ∨ k = 1 ∨ k = 2 ∨ k = 3 ∨ k = 4 ∨ k = 5 ∨ k = 6 ∨ k = 7 ∨ k = 8 ∨ k = 9 ∨ k = 10 ∨ k = 11 ∨ k = 12 ∨ k = 13 ∨ k = 14 ∨ k = 15 ∨ k = 16 ∨ k = 17 ∨ k = 18 ∨ k = 19 ∨ k = 20 ∨ k = 21 ∨ k = 22 ∨ k = 23 ∨ k = 24 ∨ k = 25 by omega) with rfl | rfl | rfl | rfl | rfl | rfl | rfl | rfl | rfl | rfl | rfl | rfl | rfl | rfl | rfl | rfl | rfl | rfl | rfl | rfl | rfl | rfl | rfl | rfl | rfl | rfl
        · refine lv_tableIn (x := iI ((0 : Nat) : Int)) (off := 120) (tgt := 152) hx hb dL_law_32 (by decide) (by decide) (by decide) (by decide) ?_
          exact lw_c0 hx hb hml hown htb hX hbl hbA hA hK hG hDa hf h1 h2 h3 h4 hKb hI hP hS hl kk
        · refine lv_tableIn (x := iI ((1 : Nat) : Int)) (off := 173) (tgt := 205) hx hb dL_law_32 (by decide) (by decide) (by decide) (by decide) ?_
          exact lw_c1 hx hb hml hown htb hX hbl hbA hA hK hG hDa hf h1 h2 hKb hI hP hS hl kk
        · refine lv_tableIn (x := iI ((2 : Nat) : Int)) (off := 206) (tgt := 238) hx hb dL_law_32 (by decide) (by decide) (by decide) (by decide) ?_
          exact lw_c2 hx hb hml hown htb hX hbl hbA hA hK hG hDa hf h1 h2 hKb hI hP hS hl kk
        · refine lv_tableIn (x := iI ((3 : Nat) : Int)) (off := 239) (tgt := 271) hx hb dL_law_32 (by decide) (by decide) (by decide) (by decide) ?_
          exact lw_c3 hx hb hml hown htb hX hbl hbA hA hK hG hDa hf h1 hKb hI hP hS hl kk
        · refine lv_tableIn (x := iI ((4 : Nat) : Int)) (off := 262) (tgt := 294) hx hb dL_law_32 (by decide) (by decide) (by decide) (by decide) ?_
          exact lw_c4 hx hb hml hown htb hX hbl hbA hA hK hG hDa hf h1 h2 h3 h4 hKb hI hP hS hl kk
        · refine lv_tableIn (x := iI ((5 : Nat) : Int)) (off := 315) (tgt := 347) hx hb dL_law_32 (by decide) (by decide) (by decide) (by decide) ?_
          exact lw_c5 hx hb hml hown htb hX hbl hbA hA hK hG hDa hf h1 h2 hKb hI hP hS hl kk
        · refine lv_tableIn (x := iI ((6 : Nat) : Int)) (off := 348) (tgt := 380) hx hb dL_law_32 (by decide) (by decide) (by decide) (by decide) ?_
          exact lw_c6 hx hb hml hown htb hX hbl hbA hA hK hG hDa hf h1 hKb hI hP hS hl kk
        · refine lv_tableIn (x := iI ((7 : Nat) : Int)) (off := 371) (tgt := 403) hx hb dL_law_32 (by decide) (by decide) (by decide) (by decide) ?_
          exact lw_c7 hx hb hml hown htb hX hbl hbA hA hK hG hDa hf h1 h2 hKb hI hP hS hl kk
        · refine lv_tableIn (x := iI ((8 : Nat) : Int)) (off := 404) (tgt := 436) hx hb dL_law_32 (by decide) (by decide) (by decide) (by decide) ?_
          exact lw_c8 hx hb hml hown htb hX hbl hbA hA hK hG hDa hf h1 h2 h3 h4 hKb hI hP hS hl kk
        · refine lv_tableIn (x := iI ((9 : Nat) : Int)) (off := 457) (tgt := 489) hx hb dL_law_32 (by decide) (by decide) (by decide) (by decide) ?_
          exact lw_c9 hx hb hml hown htb hX hbl hbA hA hK hG hDa hf h1 hKb hI hP hS hl kk
        · refine lv_tableIn (x := iI ((10 : Nat) : Int)) (off := 480) (tgt := 512) hx hb dL_law_32 (by decide) (by decide) (by decide) (by decide) ?_
          exact lw_c10 hx hb hml hown htb hX hbl hbA hA hK hG hDa hf h1 hKb hI hP hS hl kk
        · refine lv_tableIn (x := iI ((11 : Nat) : Int)) (off := 503) (tgt := 535) hx hb dL_law_32 (by decide) (by decide) (by decide) (by decide) ?_
          exact lw_c11 hx hb hml hown htb hX hbl hbA hA hK hG hDa hf hKb hI hP hS hl kk
        · refine lv_tableIn (x := iI ((12 : Nat) : Int)) (off := 516) (tgt := 548) hx hb dL_law_32 (by decide) (by decide) (by decide) (by decide) ?_
          exact lw_c12 hx hb hml hown htb hX hbl hbA hA hK hG hDa hf h1 hKb hI hP hS hl kk
        · refine lv_tableIn (x := iI ((13 : Nat) : Int)) (off := 539) (tgt := 571) hx hb dL_law_32 (by decide) (by decide) (by decide) (by decide) ?_
          exact lw_c13 hx hb hml hown htb hX hbl hbA hA hK hG hDa hf hKb hI hP hS hl kk
        · refine lv_tableIn (x := iI ((14 : Nat) : Int)) (off := 552) (tgt := 584) hx hb dL_law_32 (by decide) (by decide) (by decide) (by decide) ?_
          exact lw_c14 hx hb hml hown htb hX hbl hbA hA hK hG hDa hf hKb hI hP hS hl kk
        · refine lv_tableIn (x := iI ((15 : Nat) : Int)) (off := 565) (tgt := 597) hx hb dL_law_32 (by decide) (by decide) (by decide) (by decide) ?_
          exact lw_c15 hx hb hml hown htb hX hbl hbA hA hK hG hDa hf h1 hKb hI hP hS hl kk
        · refine lv_tableIn (x := iI ((16 : Nat) : Int)) (off := 588) (tgt := 620) hx hb dL_law_32 (by decide) (by decide) (by decide) (by decide) ?_
          exact lw_c16 hx hb hml hown htb hX hbl hbA hA hK hG hDa hf h1 h2 hKb hI hP hS hl kk
        · refine lv_tableIn (x := iI ((17 : Nat) : Int)) (off := 621) (tgt := 653) hx hb dL_law_32 (by decide) (by decide) (by decide) (by decide) ?_
          exact lw_c17 hx hb hml hown htb hX hbl hbA hA hK hG hDa hf h1 h2 hKb hI hP hS hl kk
        · refine lv_tableIn (x := iI ((18 : Nat) : Int)) (off := 654) (tgt := 686) hx hb dL_law_32 (by decide) (by decide) (by decide) (by decide) ?_
          exact lw_c18 hx hb hml hown htb hX hbl hbA hA hK hG hDa hf h1 h2 hKb hI hP hS hl kk
        · refine lv_tableIn (x := iI ((19 : Nat) : Int)) (off := 687) (tgt := 719) hx hb dL_law_32 (by decide) (by decide) (by decide) (by decide) ?_
          exact lw_c19 hx hb hml hown htb hX hbl hbA hA hK hG hDa hf h1 hKb hI hP hS hl kk
        · refine lv_tableIn (x := iI ((20 : Nat) : Int)) (off := 710) (tgt := 742) hx hb dL_law_32 (by decide) (by decide) (by decide) (by decide) ?_
          exact lw_c20 hx hb hml hown htb hX hbl hbA hA hK hG hDa hf h1 h2 hKb hI hP hS hl kk
        · refine lv_tableIn (x := iI ((21 : Nat) : Int)) (off := 743) (tgt := 775) hx hb dL_law_32 (by decide) (by decide) (by decide) (by decide) ?_
          exact lw_c21 hx hb hml hown htb hX hbl hbA hA hK hG hDa hf h1 h2 hKb hI hP hS hl kk
        · refine lv_tableIn (x := iI ((22 : Nat) : Int)) (off := 776) (tgt := 808) hx hb dL_law_32 (by decide) (by decide) (by decide) (by decide) ?_
          exact lw_c22 hx hb hml hown htb hX hbl hbA hA hK hG hDa hf h1 h2 hKb hI hP hS hl kk
        · refine lv_tableIn (x := iI ((23 : Nat) : Int)) (off := 809) (tgt := 841) hx hb dL_law_32 (by decide) (by decide) (by decide) (by decide) ?_
          exact lw_c23 hx hb hml hown htb hX hbl hbA hA hK hG hDa hf h1 hKb hI hP hS hl kk
        · refine lv_tableIn (x := iI ((24 : Nat) : Int)) (off := 832) (tgt := 864) hx hb dL_law_32 (by decide) (by decide) (by decide) (by decide) ?_
          exact lw_c24 hx hb hml hown htb hX hbl hbA hA hK hG hDa hf h1 h2 hKb hI hP hS hl kk
        · refine lv_tableIn (x := iI ((25 : Nat) : Int)) (off := 865) (tgt := 897) hx hb dL_law_32 (by decide) (by decide) (by decide) (by decide) ?_
          exact lw_c25 hx hb hml hown htb hX hbl hbA hA hK hG hDa hf h1 hKb hI hP hS hl kk
end LOOP
section KN
variable {s : State} {b : Nat}
theorem lw_kn (htb : ∀ w ∈ BIG, w.before #[Value.ref b] s = true) (hO : (Cond.arrayOver (.object RX5)).before #[Value.ref b] s = true) : ∃ (D : va_G) (cI cS : ClassId), va_K D vwCl (tI cI cS) s := by
  obtain ⟨c0, i0, k0⟩ := u_known (C := RX0) (T := TX0) (N := 5) (n := 5) htb kin0 (htb _ bw1_137)
  obtain ⟨c1, i1, k1⟩ := u_known (C := RX1) (T := TX1) (N := 2) (n := 2) htb kin1 (htb _ bw1_175)
  obtain ⟨c2, i2, k2⟩ := u_known (C := RX2) (T := TX2) (N := 3) (n := 3) htb kin2 (htb _ bw1_159)
  obtain ⟨c3, i3, k3⟩ := u_known (C := RX3) (T := TX3) (N := 6) (n := 6) htb kin3 (htb _ bw1_191)
  obtain ⟨c4, i4, k4⟩ := u_known (C := RX4) (T := TX4) (N := 2) (n := 2) htb kin4 (htb _ bw1_108)
  obtain ⟨c5, i5, k5⟩ := u_known (C := RX5) (T := TX5) (N := 3) (n := 3) htb kin5 (htb _ bw1_26)
  obtain ⟨c6, i6, k6⟩ := u_known (C := RX6) (T := TX6) (N := 4) (n := 4) htb kin6 (htb _ bw1_38)
  obtain ⟨c7, i7, k7⟩ := u_known (C := RX7) (T := TX7) (N := 6) (n := 6) htb kin7 (htb _ bw1_32)
  obtain ⟨c8, i8, k8⟩ := u_known (C := RX8) (T := TX8) (N := 6) (n := 6) htb kin8 (htb _ bw1_18)
  obtain ⟨c9, i9, k9⟩ := u_known (C := RX9) (T := TX9) (N := 10) (n := 10) htb kin9 (htb _ bw4_20)
  obtain ⟨cI, kI, comp, f1, f2, f3⟩ := Cond.arrayClass_spec (htb _ bw1_59)
  obtain ⟨comp2, cS, kS, g1, g2, g3, g4, g5⟩ := Cond.arrayOver_spec hO
  refine ⟨(fun k => if k = 0 then c0 else if k = 1 then c1 else if k = 2 then c2 else if k = 3 then c3 else if k = 4 then c4 else if k = 5 then c5 else if k = 6 then c6 else if k = 7 then c7 else if k = 8 then c8 else c9, fun k => if k = 0 then i0 else if k = 1 then i1 else if k = 2 then i2 else if k = 3 then i3 else if k = 4 then i4 else if k = 5 then i5 else if k = 6 then i6 else if k = 7 then i7 else if k = 8 then i8 else i9), cI, cS, fun k q hq => ?_, fun k q hq => ?_⟩
  · match k, hq with
    | 0, hq => cases hq; exact k0
    | 1, hq => cases hq; exact k1
    | 2, hq => cases hq; exact k2
    | 3, hq => cases hq; exact k3
    | 4, hq => cases hq; exact k4
    | 5, hq => cases hq; exact k5
    | 6, hq => cases hq; exact k6
    | 7, hq => cases hq; exact k7
    | 8, hq => cases hq; exact k8
    | 9, hq => cases hq; exact k9
    | k + 10, hq => cases hq
  · match k, hq with
    | 0, hq => cases hq; exact ⟨fun n z => ⟨fun k h => (by cases h), kI, f2, comp, f3⟩, f1⟩
    | 1, hq => cases hq; exact ⟨fun n z => ⟨fun k h => (by cases h), kS, g3, comp2, g4⟩, kS, comp2, g3, g4, g1, g5⟩
    | k + 2, hq => cases hq
end KN
set_option maxHeartbeats 4000000 in
set_option maxRecDepth 100000 in
theorem whole_start {p : Program} {e : Env} {s : State} {m : MethodId} {below : List Frame} {meth : Method} {c : Code} (l : Launch) (hflags : l.flags = flags0) {b L : Nat} {xs : Nat → Int32} (hL : L ≤ 2560) (C0 : lw_At p s m meth c b L xs) : W p l e room_1 s m #[Value.ref b] below meth c s.heap [] 0 0 (lw_Z below #[Value.ref b] s) (entryFrame m ([Value.ref b] : List Value).toArray 4) := by
  obtain ⟨hx, hb, hr, hml, hown, hts, hX, hbl, hlocks, hgv⟩ := id C0
  have hown : s.vm.findClass RL = some m.cls := hown
  have hb : c.code = cL_law := hb
  have htb : ∀ w ∈ BIG, w.before #[Value.ref b] s = true := fun w h => hts w (big_in w h)
  have hO0 : (Cond.arrayOver (.object RX5)).before #[Value.ref b] s = true := hts _ (by decide +kernel)
  have hO : va_AO RX5 s := va_AO.of hO0
  obtain ⟨g, hG⟩ := gg_start hts hgv
  obtain ⟨D, cI, cS, hK⟩ := lw_kn htb hO0
  have hA : ∀ q : Nat, s.heap.size ≤ q → (fun q : Nat => s.heap.size ≤ q) q := fun _ h => h
  have hbA : ¬ (fun q : Nat => s.heap.size ≤ q) b := Nat.not_le.mpr hbl
  have hS : va_S (fun q : Nat => s.heap.size ≤ q) s.heap s.heap [] := va_S.rf
  have hP : va_P D vwCl [] s.heap := fun k q h => by simp at h
  have hD : va_D (fun q : Nat => s.heap.size ≤ q) [] := ⟨fun i j p q h => by simp at h, fun k q h => by simp at h⟩
  have hl := lv_entry ([.ref b]) (n := 4) (Nat.le_of_ble_eq_true rfl)
  rw [lg_entry_eq]
  generalize (lg_sl ([.ref b]) ++ List.replicate (4 - (lg_sl ([.ref b])).length) Slot.unset).toArray = ls at hl ⊢
  have hl : lv_has ls 4 [(0, .ref b)] := hl
  refine va_new (ci := 8) (fs := [.null, .null, .null, .null, .null, .null]) (C := RX8) (T := TX8) (N := 6) hx hb htb kin8 tyX8 tyX8_ok hown (htb _ bw1_17) (htb _ bw1_18) (htb _ bw1_1) hK hP hD hS hA rfl (fun j hj => by rcases (show j = 0 ∨ j = 1 ∨ j = 2 ∨ j = 3 ∨ j = 4 ∨ j = 5 by omega) with rfl | rfl | rfl | rfl | rfl | rfl <;> rfl) (Nat.le_of_ble_eq_true rfl) (Nat.le_of_ble_eq_true rfl) dL_law_0 (fun v H hP hD hS => ?_)
  refine lv_dup hx hb dL_law_3 rfl ?_
  have hP : va_P D vwCl ([(v, .inr (8, [.null, .null, .null, .null, .null, .null]))] ++ []) H := hP
  have hD : va_D (fun q : Nat => s.heap.size ≤ q) ([(v, .inr (8, [.null, .null, .null, .null, .null, .null]))] ++ []) := hD
  refine cl_C ⟨hx, hb, hml, hown, htb⟩ (kX8_init l D cS g cI v) (cwI 0 htb gX8_init rfl rfl rfl (htb _ bw1_1) (htb _ bw1_19) (htb _ bw1_20) rfl hdX8_init ⟨Nat.le_of_ble_eq_true rfl, Nat.le_of_ble_eq_true rfl⟩) hK hD hG hO hA hP hS hl.1 rfl rfl (Nat.le_of_ble_eq_true rfl) ⟨Nat.le_of_ble_eq_true rfl, Nat.le_of_ble_eq_true rfl⟩ dL_law_4 (fun u H locs hu hP hD hS => ?_)
  refine lv_astore_n (lv' := [(1, .ref v), (0, .ref b)]) hx hb dL_law_7 rfl hl (by decide) rfl (fun ls hl => ?_)
  refine va_new (ci := 9) (fs := [.null, .null, .null, .int 0, .null, .int 0, .int 0, .int 0, .long 0, .null]) (C := RX9) (T := TX9) (N := 10) hx hb htb kin9 tyX9 tyX9_ok hown (htb _ bw4_19) (htb _ bw4_20) (htb _ bw1_11) hK hP hD hS hA rfl (fun j hj => by rcases (show j = 0 ∨ j = 1 ∨ j = 2 ∨ j = 3 ∨ j = 4 ∨ j = 5 ∨ j = 6 ∨ j = 7 ∨ j = 8 ∨ j = 9 by omega) with rfl | rfl | rfl | rfl | rfl | rfl | rfl | rfl | rfl | rfl <;> rfl) (Nat.le_of_ble_eq_true rfl) (Nat.le_of_ble_eq_true rfl) dL_law_8 (fun v9 H hP hD hS => ?_)
  refine lv_dup hx hb dL_law_11 rfl ?_
  have hP := va_P.perm List.perm_append_comm hP
  have hD := va_D.perm List.perm_append_comm hD
  refine cl_C ⟨hx, hb, hml, hown, htb⟩ (kX9_init l D cS g cI v9) (cwI 0 htb gX9_init rfl rfl rfl (htb _ bw1_11) (htb _ bw4_21) (htb _ bw4_22) rfl hdX9_init ⟨Nat.le_of_ble_eq_true rfl, Nat.le_of_ble_eq_true rfl⟩) hK hD hG hO hA hP hS hl.1 rfl rfl (Nat.le_of_ble_eq_true rfl) ⟨Nat.le_of_ble_eq_true rfl, Nat.le_of_ble_eq_true rfl⟩ dL_law_12 (fun u9 H locs hu9 hP hD hS => ?_)
  refine lv_astore_n (lv' := [(2, .ref v9), (1, .ref v), (0, .ref b)]) hx hb dL_law_15 rfl hl (by decide) rfl (fun ls hl => ?_)
  refine lv_iconst (v := 0) hx hb dL_law_16 (by decide) ?_
  refine lv_istore_n (lv' := [(3, .int 0), (2, .ref v9), (1, .ref v), (0, .ref b)]) hx hb dL_law_17 rfl hl (by decide) rfl (fun ls hl => ?_)
  have hP := va_P.perm List.perm_append_comm hP
  have hD := va_D.perm List.perm_append_comm hD
  obtain ⟨xd, xo, hh, ha, z, zn, q, M⟩ := u
  have hP : va_P D vwCl ((wXX cI cS v xd xo hh ha z zn q M ++ []) ++ wMd cI (q6 v9 u9) m00) H := hP
  have hD : va_D (fun q : Nat => s.heap.size ≤ q) ((wXX cI cS v xd xo hh ha z zn q M ++ []) ++ wMd cI (q6 v9 u9) m00) := hD
  rw [List.append_nil] at hP hD
  have hu : X00 M := hu
  have hDa : ∀ M' mm', va_D (fun q : Nat => s.heap.size ≤ q) (wXX cI cS v xd xo hh ha z zn q M' ++ wMd cI (q6 v9 u9) mm') := fun M' mm' => hD.adr (by rw [List.map_append, List.map_append, adr_XX cI cS v xd xo hh ha z zn q M' M]; rfl)
  exact lw_loop hL C0 hK hG hDa ⟨Nat.le_of_ble_eq_true rfl, Nat.le_of_ble_eq_true rfl⟩ 513 0 (by omega) rfl M m00 H locs ls (Inv00 hu) hP hS (lv_sub hl [3, 2, 1, 0] rfl)

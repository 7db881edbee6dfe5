noncomputable def fL_isSo2_j135  (x10 : Int32) (kk : XSm → Int32 → Option (Int32 × XSm)) (ih : XSm → Int32 → Int32 → Option (Int32 × XSm)) (N : XSm) (x11 : Int32) (s0 : Int32) : Option (Int32 × XSm) := nm (x11 + 1) fun v6 => ih N s0 v6
noncomputable def fL_isSo2_j134  (x10 : Int32) (kk : XSm → Int32 → Option (Int32 × XSm)) (ih : XSm → Int32 → Int32 → Option (Int32 × XSm)) (N : XSm) (x11 : Int32) : Option (Int32 × XSm) := fL_isSo2_j135 x10 kk ih N x11 0
noncomputable def fL_isSo2_l97  (x10 : Int32) (kk : XSm → Int32 → Option (Int32 × XSm)) : Nat → XSm → Int32 → Int32 → Option (Int32 × XSm) := fun fu => Nat.rec (motive := fun _ => XSm → Int32 → Int32 → Option (Int32 × XSm)) (fun _ _ _ => none) (fun _ ih => fun N x7 x11 => if 11 ≤ x11 then (kk N x7) else (if x7 = 0 then (fL_isSo2_j134 x10 kk ih N x11) else (b2 (fX8_room (N.1.1) x10 x11) fun r8 M7 => nm (((M7, N.1.2), N.2)) fun M9 => Rd (M9.1.2.2.2.1) 33 ((11 * x10) + x11) fun v10 => if r8 = v10 then (fL_isSo2_j135 x10 kk ih M9 x11 1) else (fL_isSo2_j134 x10 kk ih M9 x11)))) fu
theorem fL_isSo2_l97_s  (x10 : Int32) (kk : XSm → Int32 → Option (Int32 × XSm)) (fu : Nat) (N : XSm) (x7 : Int32) (x11 : Int32) : fL_isSo2_l97 x10 kk (fu + 1) N x7 x11 = (if 11 ≤ x11 then (kk N x7) else (if x7 = 0 then (fL_isSo2_j134 x10 kk (fL_isSo2_l97 x10 kk fu) N x11) else (b2 (fX8_room (N.1.1) x10 x11) fun r8 M7 => nm (((M7, N.1.2), N.2)) fun M9 => Rd (M9.1.2.2.2.1) 33 ((11 * x10) + x11) fun v10 => if r8 = v10 then (fL_isSo2_j135 x10 kk (fL_isSo2_l97 x10 kk fu) M9 x11 1) else (fL_isSo2_j134 x10 kk (fL_isSo2_l97 x10 kk fu) M9 x11)))) := rfl
theorem fL_isSo2_l97_z  (x10 : Int32) (kk : XSm → Int32 → Option (Int32 × XSm)) (N : XSm) (x7 : Int32) (x11 : Int32) : fL_isSo2_l97 x10 kk 0 N x7 x11 = none := rfl
noncomputable def fL_isSo2_j199  (kk : XSm → Int32 → Option (Int32 × XSm)) (ih : XSm → Int32 → Int32 → Option (Int32 × XSm)) (N : XSm) (x10 : Int32) (s0 : Int32) : Option (Int32 × XSm) := nm (x10 + 1) fun v16 => ih N s0 v16
noncomputable def fL_isSo2_j198  (kk : XSm → Int32 → Option (Int32 × XSm)) (ih : XSm → Int32 → Int32 → Option (Int32 × XSm)) (N : XSm) (x10 : Int32) : Option (Int32 × XSm) := fL_isSo2_j199 kk ih N x10 0
noncomputable def fL_isSo2_j179  (kk : XSm → Int32 → Option (Int32 × XSm)) (ih : XSm → Int32 → Int32 → Option (Int32 × XSm)) (N : XSm) (x10 : Int32) (s0 : Int32) (s1 : Int32) : Option (Int32 × XSm) := if s0 = s1 then (b2 (fX8_room (N.1.1) x10 12) fun r23 M22 => nm (((M22, N.1.2), N.2)) fun M24 => if r23 = (-1) then (fL_isSo2_j199 kk ih M24 x10 1) else (fL_isSo2_j198 kk ih M24 x10)) else (fL_isSo2_j198 kk ih N x10)
noncomputable def fL_isSo2_l81  (kk : XSm → Int32 → Option (Int32 × XSm)) : Nat → XSm → Int32 → Int32 → Option (Int32 × XSm) := fun fu => Nat.rec (motive := fun _ => XSm → Int32 → Int32 → Option (Int32 × XSm)) (fun _ _ _ => none) (fun _ ih => fun N x7 x10 => Rd (N.1.2.1) 5 0 fun v1 => if v1 ≤ x10 then (kk N x7) else (if x7 = 0 then (kk N x7) else (fL_isSo2_l97 x10 (fun M13 y12 => (fL_next (M13.1.2) x10 0).bind fun r14 => if y12 = 0 then (fL_isSo2_j198 kk ih M13 x10) else (b2 (fX8_room (M13.1.1) x10 11) fun r18 M17 => nm (((M17, M13.1.2), M13.2)) fun M19 => if 0 ≤ r14 then (fL_isSo2_j179 kk ih M19 x10 r18 r14) else (fL_isSo2_j179 kk ih M19 x10 r18 (-9)))) FU N x7 0))) fu
theorem fL_isSo2_l81_s  (kk : XSm → Int32 → Option (Int32 × XSm)) (fu : Nat) (N : XSm) (x7 : Int32) (x10 : Int32) : fL_isSo2_l81 kk (fu + 1) N x7 x10 = (Rd (N.1.2.1) 5 0 fun v1 => if v1 ≤ x10 then (kk N x7) else (if x7 = 0 then (kk N x7) else (fL_isSo2_l97 x10 (fun M13 y12 => (fL_next (M13.1.2) x10 0).bind fun r14 => if y12 = 0 then (fL_isSo2_j198 kk (fL_isSo2_l81 kk fu) M13 x10) else (b2 (fX8_room (M13.1.1) x10 11) fun r18 M17 => nm (((M17, M13.1.2), M13.2)) fun M19 => if 0 ≤ r14 then (fL_isSo2_j179 kk (fL_isSo2_l81 kk fu) M19 x10 r18 r14) else (fL_isSo2_j179 kk (fL_isSo2_l81 kk fu) M19 x10 r18 (-9)))) FU N x7 0))) := rfl
theorem fL_isSo2_l81_z  (kk : XSm → Int32 → Option (Int32 × XSm)) (N : XSm) (x7 : Int32) (x10 : Int32) : fL_isSo2_l81 kk 0 N x7 x10 = none := rfl
noncomputable def fL_isSo2_j282  (x7 : Int32) (x10 : Int32) (x12 : Int32) (kk : XSm → Int32 → Option (Int32 × XSm)) (ih : XSm → Int32 → Int32 → Option (Int32 × XSm)) (N : XSm) (x13 : Int32) (s0 : Int32) (s1 : Int32) : Option (Int32 × XSm) := nm (s0 + s1) fun v36 => nm (x13 + 1) fun v37 => ih N v36 v37
noncomputable def fL_isSo2_j281  (x7 : Int32) (x10 : Int32) (x12 : Int32) (kk : XSm → Int32 → Option (Int32 × XSm)) (ih : XSm → Int32 → Int32 → Option (Int32 × XSm)) (N : XSm) (x13 : Int32) (s0 : Int32) : Option (Int32 × XSm) := fL_isSo2_j282 x7 x10 x12 kk ih N x13 s0 0
noncomputable def fL_isSo2_l241  (x7 : Int32) (x10 : Int32) (x12 : Int32) (kk : XSm → Int32 → Option (Int32 × XSm)) : Nat → XSm → Int32 → Int32 → Option (Int32 × XSm) := fun fu => Nat.rec (motive := fun _ => XSm → Int32 → Int32 → Option (Int32 × XSm)) (fun _ _ _ => none) (fun _ ih => fun N x11 x13 => Rd (N.1.2.1) 5 1 fun v32 => if v32 ≤ x13 then (kk N x11) else (Rd (N.1.2.2.2.2.2.1) 28 ((4 * x13) + 2) fun v34 => if v34 = x10 then (Rd (N.1.2.2.2.2.2.1) 28 ((4 * x13) + 1) fun v38 => if v38 ≤ 0 then (fL_isSo2_j281 x7 x10 x12 kk ih N x13 x11) else (fL_isSo2_j282 x7 x10 x12 kk ih N x13 x11 1)) else (fL_isSo2_j281 x7 x10 x12 kk ih N x13 x11))) fu
theorem fL_isSo2_l241_s  (x7 : Int32) (x10 : Int32) (x12 : Int32) (kk : XSm → Int32 → Option (Int32 × XSm)) (fu : Nat) (N : XSm) (x11 : Int32) (x13 : Int32) : fL_isSo2_l241 x7 x10 x12 kk (fu + 1) N x11 x13 = (Rd (N.1.2.1) 5 1 fun v32 => if v32 ≤ x13 then (kk N x11) else (Rd (N.1.2.2.2.2.2.1) 28 ((4 * x13) + 2) fun v34 => if v34 = x10 then (Rd (N.1.2.2.2.2.2.1) 28 ((4 * x13) + 1) fun v38 => if v38 ≤ 0 then (fL_isSo2_j281 x7 x10 x12 kk (fL_isSo2_l241 x7 x10 x12 kk fu) N x13 x11) else (fL_isSo2_j282 x7 x10 x12 kk (fL_isSo2_l241 x7 x10 x12 kk fu) N x13 x11 1)) else (fL_isSo2_j281 x7 x10 x12 kk (fL_isSo2_l241 x7 x10 x12 kk fu) N x13 x11))) := rfl
theorem fL_isSo2_l241_z  (x7 : Int32) (x10 : Int32) (x12 : Int32) (kk : XSm → Int32 → Option (Int32 × XSm)) (N : XSm) (x11 : Int32) (x13 : Int32) : fL_isSo2_l241 x7 x10 x12 kk 0 N x11 x13 = none := rfl
noncomputable def fL_isSo2_j333  (x10 : Int32) (x11 : Int32) (x12 : Int32) (kk : XSm → Int32 → Option (Int32 × XSm)) (ih : XSm → Int32 → Int32 → Option (Int32 × XSm)) (N : XSm) (x13 : Int32) (s0 : Int32) : Option (Int32 × XSm) := nm (x13 + 1) fun v44 => ih N s0 v44
noncomputable def fL_isSo2_j332  (x10 : Int32) (x11 : Int32) (x12 : Int32) (kk : XSm → Int32 → Option (Int32 × XSm)) (ih : XSm → Int32 → Int32 → Option (Int32 × XSm)) (N : XSm) (x13 : Int32) : Option (Int32 × XSm) := fL_isSo2_j333 x10 x11 x12 kk ih N x13 0
noncomputable def fL_isSo2_l294  (x10 : Int32) (x11 : Int32) (x12 : Int32) (kk : XSm → Int32 → Option (Int32 × XSm)) : Nat → XSm → Int32 → Int32 → Option (Int32 × XSm) := fun fu => Nat.rec (motive := fun _ => XSm → Int32 → Int32 → Option (Int32 × XSm)) (fun _ _ _ => none) (fun _ ih => fun N x7 x13 => if 6 ≤ x13 then (kk N x7) else (if x7 = 0 then (fL_isSo2_j332 x10 x11 x12 kk ih N x13) else (b2 (fX8_booking (N.1.1) x10 x13) fun r46 M45 => nm (((M45, N.1.2), N.2)) fun M47 => Rd (M47.1.2.2.2.2.1) 63 ((9 * x10) + x13) fun v48 => if r46 = v48 then (fL_isSo2_j333 x10 x11 x12 kk ih M47 x13 1) else (fL_isSo2_j332 x10 x11 x12 kk ih M47 x13)))) fu
theorem fL_isSo2_l294_s  (x10 : Int32) (x11 : Int32) (x12 : Int32) (kk : XSm → Int32 → Option (Int32 × XSm)) (fu : Nat) (N : XSm) (x7 : Int32) (x13 : Int32) : fL_isSo2_l294 x10 x11 x12 kk (fu + 1) N x7 x13 = (if 6 ≤ x13 then (kk N x7) else (if x7 = 0 then (fL_isSo2_j332 x10 x11 x12 kk (fL_isSo2_l294 x10 x11 x12 kk fu) N x13) else (b2 (fX8_booking (N.1.1) x10 x13) fun r46 M45 => nm (((M45, N.1.2), N.2)) fun M47 => Rd (M47.1.2.2.2.2.1) 63 ((9 * x10) + x13) fun v48 => if r46 = v48 then (fL_isSo2_j333 x10 x11 x12 kk (fL_isSo2_l294 x10 x11 x12 kk fu) M47 x13 1) else (fL_isSo2_j332 x10 x11 x12 kk (fL_isSo2_l294 x10 x11 x12 kk fu) M47 x13)))) := rfl
theorem fL_isSo2_l294_z  (x10 : Int32) (x11 : Int32) (x12 : Int32) (kk : XSm → Int32 → Option (Int32 × XSm)) (N : XSm) (x7 : Int32) (x13 : Int32) : fL_isSo2_l294 x10 x11 x12 kk 0 N x7 x13 = none := rfl
noncomputable def fL_isSo2_j454  (kk : XSm → Int32 → Option (Int32 × XSm)) (ih : XSm → Int32 → Int32 → Option (Int32 × XSm)) (N : XSm) (x10 : Int32) (x12 : Int32) (s0 : Int32) : Option (Int32 × XSm) := Rd (N.1.2.2.2.2.1) 63 ((9 * x10) + 3) fun v53 => Rd (N.2.1) 4 v53 fun v54 => Wr (N.2.1) 4 v53 (v54 + 1) fun f55 => nm ((N.1, (f55, N.2.2))) fun M56 => Rd (M56.2.2) 7 2 fun v57 => Rd (M56.1.2.2.2.2.1) 63 ((9 * x10) + 4) fun v58 => Wr (M56.2.2) 7 2 (v57 + v58) fun f59 => nm ((M56.1, (M56.2.1, f59))) fun M60 => Rd (M60.2.2) 7 3 fun v61 => Rd (M60.1.2.2.2.2.1) 63 ((9 * x10) + 6) fun v62 => Wr (M60.2.2) 7 3 (v61 + v62) fun f63 => nm ((M60.1, (M60.2.1, f63))) fun M64 => Rd (M64.2.2) 7 4 fun v65 => Rd (M64.1.2.2.2.2.1) 63 ((9 * x10) + 5) fun v66 => Wr (M64.2.2) 7 4 (v65 + v66) fun f67 => nm ((M64.1, (M64.2.1, f67))) fun M68 => Rd (M68.2.2) 7 5 fun v69 => Rd (M68.1.2.2.2.2.1) 63 ((9 * x10) + 5) fun v70 => Wr (M68.2.2) 7 5 (v69 + (x12 - v70)) fun f71 => nm ((M68.1, (M68.2.1, f71))) fun M72 => nm (x10 + 1) fun v73 => ih M72 s0 v73
noncomputable def fL_isSo2_j453  (kk : XSm → Int32 → Option (Int32 × XSm)) (ih : XSm → Int32 → Int32 → Option (Int32 × XSm)) (N : XSm) (x10 : Int32) (x12 : Int32) : Option (Int32 × XSm) := fL_isSo2_j454 kk ih N x10 x12 0
noncomputable def fL_isSo2_l210  (kk : XSm → Int32 → Option (Int32 × XSm)) : Nat → XSm → Int32 → Int32 → Option (Int32 × XSm) := fun fu => Nat.rec (motive := fun _ => XSm → Int32 → Int32 → Option (Int32 × XSm)) (fun _ _ _ => none) (fun _ ih => fun N x7 x10 => Rd (N.1.2.1) 5 1 fun v28 => if v28 ≤ x10 then (kk N x7) else (if x7 = 0 then (kk N x7) else ((fL_paid (N.1.2) x10).bind fun r31 => fL_isSo2_l241 x7 x10 r31 (fun M41 y40 => fL_isSo2_l294 x10 y40 r31 (fun M51 y50 => if y50 = 0 then (fL_isSo2_j453 kk ih M51 x10 r31) else (b2 (fX8_booking (M51.1.1) x10 6) fun r75 M74 => nm (((M74, M51.1.2), M51.2)) fun M76 => Rd (M76.1.2.2.2.2.1) 63 ((9 * x10) + 5) fun v77 => if r75 = (r31 - v77) then (b2 (fX8_booking (M76.1.1) x10 7) fun r80 M79 => nm (((M79, M76.1.2), M76.2)) fun M81 => Rd (M81.1.2.2.2.2.1) 63 ((9 * x10) + 6) fun v82 => if r80 = v82 then (b2 (fX8_booking (M81.1.1) x10 8) fun r85 M84 => nm (((M84, M81.1.2), M81.2)) fun M86 => Rd (M86.1.2.2.2.2.1) 63 ((9 * x10) + 7) fun v87 => if r85 = v87 then (b2 (fX8_booking (M86.1.1) x10 9) fun r90 M89 => nm (((M89, M86.1.2), M86.2)) fun M91 => Rd (M91.1.2.2.2.2.1) 63 ((9 * x10) + 8) fun v92 => if r90 = v92 then (b2 (fX8_booking (M91.1.1) x10 10) fun r95 M94 => nm (((M94, M91.1.2), M91.2)) fun M96 => if r95 = y40 then (fL_isSo2_j454 kk ih M96 x10 r31 1) else (fL_isSo2_j453 kk ih M96 x10 r31)) else (fL_isSo2_j453 kk ih M91 x10 r31)) else (fL_isSo2_j453 kk ih M86 x10 r31)) else (fL_isSo2_j453 kk ih M81 x10 r31)) else (fL_isSo2_j453 kk ih M76 x10 r31))) FU M41 x7 0) FU N 0 0))) fu
theorem fL_isSo2_l210_s  (kk : XSm → Int32 → Option (Int32 × XSm)) (fu : Nat) (N : XSm) (x7 : Int32) (x10 : Int32) : fL_isSo2_l210 kk (fu + 1) N x7 x10 = (Rd (N.1.2.1) 5 1 fun v28 => if v28 ≤ x10 then (kk N x7) else (if x7 = 0 then (kk N x7) else ((fL_paid (N.1.2) x10).bind fun r31 => fL_isSo2_l241 x7 x10 r31 (fun M41 y40 => fL_isSo2_l294 x10 y40 r31 (fun M51 y50 => if y50 = 0 then (fL_isSo2_j453 kk (fL_isSo2_l210 kk fu) M51 x10 r31) else (b2 (fX8_booking (M51.1.1) x10 6) fun r75 M74 => nm (((M74, M51.1.2), M51.2)) fun M76 => Rd (M76.1.2.2.2.2.1) 63 ((9 * x10) + 5) fun v77 => if r75 = (r31 - v77) then (b2 (fX8_booking (M76.1.1) x10 7) fun r80 M79 => nm (((M79, M76.1.2), M76.2)) fun M81 => Rd (M81.1.2.2.2.2.1) 63 ((9 * x10) + 6) fun v82 => if r80 = v82 then (b2 (fX8_booking (M81.1.1) x10 8) fun r85 M84 => nm (((M84, M81.1.2), M81.2)) fun M86 => Rd (M86.1.2.2.2.2.1) 63 ((9 * x10) + 7) fun v87 => if r85 = v87 then (b2 (fX8_booking (M86.1.1) x10 9) fun r90 M89 => nm (((M89, M86.1.2), M86.2)) fun M91 => Rd (M91.1.2.2.2.2.1) 63 ((9 * x10) + 8) fun v92 => if r90 = v92 then (b2 (fX8_booking (M91.1.1) x10 10) fun r95 M94 => nm (((M94, M91.1.2), M91.2)) fun M96 => if r95 = y40 then (fL_isSo2_j454 kk (fL_isSo2_l210 kk fu) M96 x10 r31 1) else (fL_isSo2_j453 kk (fL_isSo2_l210 kk fu) M96 x10 r31)) else (fL_isSo2_j453 kk (fL_isSo2_l210 kk fu) M91 x10 r31)) else (fL_isSo2_j453 kk (fL_isSo2_l210 kk fu) M86 x10 r31)) else (fL_isSo2_j453 kk (fL_isSo2_l210 kk fu) M81 x10 r31)) else (fL_isSo2_j453 kk (fL_isSo2_l210 kk fu) M76 x10 r31))) FU M41 x7 0) FU N 0 0))) := rfl
theorem fL_isSo2_l210_z  (kk : XSm → Int32 → Option (Int32 × XSm)) (N : XSm) (x7 : Int32) (x10 : Int32) : fL_isSo2_l210 kk 0 N x7 x10 = none := rfl
noncomputable def fL_isSo2_j643  (x10 : Int32) (x11 : Int32) (x12 : Int32) (kk : XSm → Int32 → Option (Int32 × XSm)) (ih : XSm → Int32 → Int32 → Option (Int32 × XSm)) (N : XSm) (x14 : Int32) (s0 : Int32) : Option (Int32 × XSm) := nm (x14 + 1) fun v108 => ih N s0 v108
noncomputable def fL_isSo2_j638  (x10 : Int32) (x11 : Int32) (x12 : Int32) (kk : XSm → Int32 → Option (Int32 × XSm)) (ih : XSm → Int32 → Int32 → Option (Int32 × XSm)) (N : XSm) (x14 : Int32) : Option (Int32 × XSm) := fL_isSo2_j643 x10 x11 x12 kk ih N x14 1
noncomputable def fL_isSo2_j642  (x10 : Int32) (x11 : Int32) (x12 : Int32) (kk : XSm → Int32 → Option (Int32 × XSm)) (ih : XSm → Int32 → Int32 → Option (Int32 × XSm)) (N : XSm) (x14 : Int32) : Option (Int32 × XSm) := fL_isSo2_j643 x10 x11 x12 kk ih N x14 0
noncomputable def fL_isSo2_l587  (x10 : Int32) (x11 : Int32) (x12 : Int32) (kk : XSm → Int32 → Option (Int32 × XSm)) : Nat → XSm → Int32 → Int32 → Option (Int32 × XSm) := fun fu => Nat.rec (motive := fun _ => XSm → Int32 → Int32 → Option (Int32 × XSm)) (fun _ _ _ => none) (fun _ ih => fun N x13 x14 => Rd (N.1.2.1) 5 1 fun v105 => if v105 ≤ x14 then (kk N x13) else (if x13 = 0 then (Rd (N.1.2.2.2.2.2.1) 28 ((4 * x14) + 2) fun v109 => if v109 = x12 then (Rd (N.1.2.2.2.2.2.1) 28 (4 * x14) fun v111 => if v111 = x10 then (Rd (N.1.2.2.2.2.2.1) 28 ((4 * x14) + 1) fun v113 => if v113 ≤ 0 then (fL_isSo2_j642 x10 x11 x12 kk ih N x14) else (fL_isSo2_j638 x10 x11 x12 kk ih N x14)) else (fL_isSo2_j642 x10 x11 x12 kk ih N x14)) else (fL_isSo2_j642 x10 x11 x12 kk ih N x14)) else (fL_isSo2_j638 x10 x11 x12 kk ih N x14))) fu
theorem fL_isSo2_l587_s  (x10 : Int32) (x11 : Int32) (x12 : Int32) (kk : XSm → Int32 → Option (Int32 × XSm)) (fu : Nat) (N : XSm) (x13 : Int32) (x14 : Int32) : fL_isSo2_l587 x10 x11 x12 kk (fu + 1) N x13 x14 = (Rd (N.1.2.1) 5 1 fun v105 => if v105 ≤ x14 then (kk N x13) else (if x13 = 0 then (Rd (N.1.2.2.2.2.2.1) 28 ((4 * x14) + 2) fun v109 => if v109 = x12 then (Rd (N.1.2.2.2.2.2.1) 28 (4 * x14) fun v111 => if v111 = x10 then (Rd (N.1.2.2.2.2.2.1) 28 ((4 * x14) + 1) fun v113 => if v113 ≤ 0 then (fL_isSo2_j642 x10 x11 x12 kk (fL_isSo2_l587 x10 x11 x12 kk fu) N x14) else (fL_isSo2_j638 x10 x11 x12 kk (fL_isSo2_l587 x10 x11 x12 kk fu) N x14)) else (fL_isSo2_j642 x10 x11 x12 kk (fL_isSo2_l587 x10 x11 x12 kk fu) N x14)) else (fL_isSo2_j642 x10 x11 x12 kk (fL_isSo2_l587 x10 x11 x12 kk fu) N x14)) else (fL_isSo2_j638 x10 x11 x12 kk (fL_isSo2_l587 x10 x11 x12 kk fu) N x14))) := rfl
theorem fL_isSo2_l587_z  (x10 : Int32) (x11 : Int32) (x12 : Int32) (kk : XSm → Int32 → Option (Int32 × XSm)) (N : XSm) (x13 : Int32) (x14 : Int32) : fL_isSo2_l587 x10 x11 x12 kk 0 N x13 x14 = none := rfl
noncomputable def fL_isSo2_j663  (x10 : Int32) (kk : XSm → Int32 → Option (Int32 × XSm)) (ih : XSm → Int32 → Int32 → Option (Int32 × XSm)) (N : XSm) (x12 : Int32) (s0 : Int32) (s1 : Int32) : Option (Int32 × XSm) := nm (s0 + s1) fun v118 => nm (x12 + 1) fun v119 => ih N v118 v119
noncomputable def fL_isSo2_l573  (x10 : Int32) (kk : XSm → Int32 → Option (Int32 × XSm)) : Nat → XSm → Int32 → Int32 → Option (Int32 × XSm) := fun fu => Nat.rec (motive := fun _ => XSm → Int32 → Int32 → Option (Int32 × XSm)) (fun _ _ _ => none) (fun _ ih => fun N x11 x12 => Rd (N.1.2.1) 5 1 fun v103 => if v103 ≤ x12 then (kk N x11) else (fL_isSo2_l587 x10 x11 x12 (fun M116 y115 => if y115 = 0 then (fL_isSo2_j663 x10 kk ih M116 x12 x11 0) else (fL_isSo2_j663 x10 kk ih M116 x12 x11 1)) FU N 0 0)) fu
theorem fL_isSo2_l573_s  (x10 : Int32) (kk : XSm → Int32 → Option (Int32 × XSm)) (fu : Nat) (N : XSm) (x11 : Int32) (x12 : Int32) : fL_isSo2_l573 x10 kk (fu + 1) N x11 x12 = (Rd (N.1.2.1) 5 1 fun v103 => if v103 ≤ x12 then (kk N x11) else (fL_isSo2_l587 x10 x11 x12 (fun M116 y115 => if y115 = 0 then (fL_isSo2_j663 x10 kk (fL_isSo2_l573 x10 kk fu) M116 x12 x11 0) else (fL_isSo2_j663 x10 kk (fL_isSo2_l573 x10 kk fu) M116 x12 x11 1)) FU N 0 0)) := rfl
theorem fL_isSo2_l573_z  (x10 : Int32) (kk : XSm → Int32 → Option (Int32 × XSm)) (N : XSm) (x11 : Int32) (x12 : Int32) : fL_isSo2_l573 x10 kk 0 N x11 x12 = none := rfl
noncomputable def fL_isSo2_j756  (kk : XSm → Int32 → Option (Int32 × XSm)) (ih : XSm → Int32 → Int32 → Option (Int32 × XSm)) (N : XSm) (x10 : Int32) (s0 : Int32) : Option (Int32 × XSm) := nm (x10 + 1) fun v135 => ih N s0 v135
noncomputable def fL_isSo2_j755  (kk : XSm → Int32 → Option (Int32 × XSm)) (ih : XSm → Int32 → Int32 → Option (Int32 × XSm)) (N : XSm) (x10 : Int32) : Option (Int32 × XSm) := fL_isSo2_j756 kk ih N x10 0
noncomputable def fL_isSo2_l554  (kk : XSm → Int32 → Option (Int32 × XSm)) : Nat → XSm → Int32 → Int32 → Option (Int32 × XSm) := fun fu => Nat.rec (motive := fun _ => XSm → Int32 → Int32 → Option (Int32 × XSm)) (fun _ _ _ => none) (fun _ ih => fun N x7 x10 => Rd (N.1.2.1) 5 2 fun v100 => if v100 ≤ x10 then (kk N x7) else (if x7 = 0 then (kk N x7) else (fL_isSo2_l573 x10 (fun M121 y120 => Rd (M121.2.2) 7 1 fun v122 => Rd (M121.1.2.2.2.2.2.2) 8 ((2 * x10) + 1) fun v123 => Wr (M121.2.2) 7 1 (v122 + v123) fun f124 => nm ((M121.1, (M121.2.1, f124))) fun M125 => Rd (M125.2.2) 7 6 fun v126 => Rd (M125.1.2.2.2.2.2.2) 8 (2 * x10) fun v127 => Wr (M125.2.2) 7 6 (v126 + v127) fun f128 => nm ((M125.1, (M125.2.1, f128))) fun M129 => b2 (fX8_voucher (M129.1.1) x10 0) fun r131 M130 => nm (((M130, M129.1.2), M129.2)) fun M132 => Rd (M132.1.2.2.2.2.2.2) 8 (2 * x10) fun v133 => if r131 = v133 then (b2 (fX8_voucher (M132.1.1) x10 1) fun r137 M136 => nm (((M136, M132.1.2), M132.2)) fun M138 => Rd (M138.1.2.2.2.2.2.2) 8 ((2 * x10) + 1) fun v139 => if r137 = v139 then (b2 (fX8_voucher (M138.1.1) x10 2) fun r142 M141 => nm (((M141, M138.1.2), M138.2)) fun M143 => if r142 = y120 then (fL_isSo2_j756 kk ih M143 x10 1) else (fL_isSo2_j755 kk ih M143 x10)) else (fL_isSo2_j755 kk ih M138 x10)) else (fL_isSo2_j755 kk ih M132 x10)) FU N 0 0))) fu
theorem fL_isSo2_l554_s  (kk : XSm → Int32 → Option (Int32 × XSm)) (fu : Nat) (N : XSm) (x7 : Int32) (x10 : Int32) : fL_isSo2_l554 kk (fu + 1) N x7 x10 = (Rd (N.1.2.1) 5 2 fun v100 => if v100 ≤ x10 then (kk N x7) else (if x7 = 0 then (kk N x7) else (fL_isSo2_l573 x10 (fun M121 y120 => Rd (M121.2.2) 7 1 fun v122 => Rd (M121.1.2.2.2.2.2.2) 8 ((2 * x10) + 1) fun v123 => Wr (M121.2.2) 7 1 (v122 + v123) fun f124 => nm ((M121.1, (M121.2.1, f124))) fun M125 => Rd (M125.2.2) 7 6 fun v126 => Rd (M125.1.2.2.2.2.2.2) 8 (2 * x10) fun v127 => Wr (M125.2.2) 7 6 (v126 + v127) fun f128 => nm ((M125.1, (M125.2.1, f128))) fun M129 => b2 (fX8_voucher (M129.1.1) x10 0) fun r131 M130 => nm (((M130, M129.1.2), M129.2)) fun M132 => Rd (M132.1.2.2.2.2.2.2) 8 (2 * x10) fun v133 => if r131 = v133 then (b2 (fX8_voucher (M132.1.1) x10 1) fun r137 M136 => nm (((M136, M132.1.2), M132.2)) fun M138 => Rd (M138.1.2.2.2.2.2.2) 8 ((2 * x10) + 1) fun v139 => if r137 = v139 then (b2 (fX8_voucher (M138.1.1) x10 2) fun r142 M141 => nm (((M141, M138.1.2), M138.2)) fun M143 => if r142 = y120 then (fL_isSo2_j756 kk (fL_isSo2_l554 kk fu) M143 x10 1) else (fL_isSo2_j755 kk (fL_isSo2_l554 kk fu) M143 x10)) else (fL_isSo2_j755 kk (fL_isSo2_l554 kk fu) M138 x10)) else (fL_isSo2_j755 kk (fL_isSo2_l554 kk fu) M132 x10)) FU N 0 0))) := rfl
theorem fL_isSo2_l554_z  (kk : XSm → Int32 → Option (Int32 × XSm)) (N : XSm) (x7 : Int32) (x10 : Int32) : fL_isSo2_l554 kk 0 N x7 x10 = none := rfl
noncomputable def fL_isSo2_j822  (kk : XSm → Int32 → Option (Int32 × XSm)) (ih : XSm → Int32 → Int32 → Option (Int32 × XSm)) (N : XSm) (x10 : Int32) (s0 : Int32) : Option (Int32 × XSm) := nm (x10 + 1) fun v149 => ih N s0 v149
noncomputable def fL_isSo2_j821  (kk : XSm → Int32 → Option (Int32 × XSm)) (ih : XSm → Int32 → Int32 → Option (Int32 × XSm)) (N : XSm) (x10 : Int32) : Option (Int32 × XSm) := fL_isSo2_j822 kk ih N x10 0
noncomputable def fL_isSo2_j817  (kk : XSm → Int32 → Option (Int32 × XSm)) (ih : XSm → Int32 → Int32 → Option (Int32 × XSm)) (N : XSm) (x10 : Int32) : Option (Int32 × XSm) := fL_isSo2_j822 kk ih N x10 1
noncomputable def fL_isSo2_l767  (kk : XSm → Int32 → Option (Int32 × XSm)) : Nat → XSm → Int32 → Int32 → Option (Int32 × XSm) := fun fu => Nat.rec (motive := fun _ => XSm → Int32 → Int32 → Option (Int32 × XSm)) (fun _ _ _ => none) (fun _ ih => fun N x7 x10 => if 5 ≤ x10 then (kk N x7) else (if x7 = 0 then (fL_isSo2_j821 kk ih N x10) else (b2 (fX8_count (N.1.1) (6 + x10)) fun r151 M150 => nm (((M150, N.1.2), N.2)) fun M152 => Rd (M152.1.2.2.1) 5 x10 fun v153 => if r151 = v153 then (if x10 = 4 then (fL_isSo2_j817 kk ih M152 x10) else (b2 (fX8_count (M152.1.1) (11 + x10)) fun r157 M156 => nm (((M156, M152.1.2), M152.2)) fun M158 => Rd (M158.2.1) 4 x10 fun v159 => if r157 = v159 then (fL_isSo2_j817 kk ih M158 x10) else (fL_isSo2_j821 kk ih M158 x10))) else (fL_isSo2_j821 kk ih M152 x10)))) fu
theorem fL_isSo2_l767_s  (kk : XSm → Int32 → Option (Int32 × XSm)) (fu : Nat) (N : XSm) (x7 : Int32) (x10 : Int32) : fL_isSo2_l767 kk (fu + 1) N x7 x10 = (if 5 ≤ x10 then (kk N x7) else (if x7 = 0 then (fL_isSo2_j821 kk (fL_isSo2_l767 kk fu) N x10) else (b2 (fX8_count (N.1.1) (6 + x10)) fun r151 M150 => nm (((M150, N.1.2), N.2)) fun M152 => Rd (M152.1.2.2.1) 5 x10 fun v153 => if r151 = v153 then (if x10 = 4 then (fL_isSo2_j817 kk (fL_isSo2_l767 kk fu) M152 x10) else (b2 (fX8_count (M152.1.1) (11 + x10)) fun r157 M156 => nm (((M156, M152.1.2), M152.2)) fun M158 => Rd (M158.2.1) 4 x10 fun v159 => if r157 = v159 then (fL_isSo2_j817 kk (fL_isSo2_l767 kk fu) M158 x10) else (fL_isSo2_j821 kk (fL_isSo2_l767 kk fu) M158 x10))) else (fL_isSo2_j821 kk (fL_isSo2_l767 kk fu) M152 x10)))) := rfl
theorem fL_isSo2_l767_z  (kk : XSm → Int32 → Option (Int32 × XSm)) (N : XSm) (x7 : Int32) (x10 : Int32) : fL_isSo2_l767 kk 0 N x7 x10 = none := rfl
noncomputable def fL_isSo2_j864  (kk : XSm → Int32 → Option (Int32 × XSm)) (ih : XSm → Int32 → Int32 → Option (Int32 × XSm)) (N : XSm) (x10 : Int32) (s0 : Int32) : Option (Int32 × XSm) := nm (x10 + 1) fun v165 => ih N s0 v165
noncomputable def fL_isSo2_j863  (kk : XSm → Int32 → Option (Int32 × XSm)) (ih : XSm → Int32 → Int32 → Option (Int32 × XSm)) (N : XSm) (x10 : Int32) : Option (Int32 × XSm) := fL_isSo2_j864 kk ih N x10 0
noncomputable def fL_isSo2_l833  (kk : XSm → Int32 → Option (Int32 × XSm)) : Nat → XSm → Int32 → Int32 → Option (Int32 × XSm) := fun fu => Nat.rec (motive := fun _ => XSm → Int32 → Int32 → Option (Int32 × XSm)) (fun _ _ _ => none) (fun _ ih => fun N x7 x10 => if 7 ≤ x10 then (kk N x7) else (if x7 = 0 then (fL_isSo2_j863 kk ih N x10) else (b2 (fX8_money (N.1.1) x10) fun r167 M166 => nm (((M166, N.1.2), N.2)) fun M168 => Rd (M168.2.2) 7 x10 fun v169 => if r167 = v169 then (fL_isSo2_j864 kk ih M168 x10 1) else (fL_isSo2_j863 kk ih M168 x10)))) fu
theorem fL_isSo2_l833_s  (kk : XSm → Int32 → Option (Int32 × XSm)) (fu : Nat) (N : XSm) (x7 : Int32) (x10 : Int32) : fL_isSo2_l833 kk (fu + 1) N x7 x10 = (if 7 ≤ x10 then (kk N x7) else (if x7 = 0 then (fL_isSo2_j863 kk (fL_isSo2_l833 kk fu) N x10) else (b2 (fX8_money (N.1.1) x10) fun r167 M166 => nm (((M166, N.1.2), N.2)) fun M168 => Rd (M168.2.2) 7 x10 fun v169 => if r167 = v169 then (fL_isSo2_j864 kk (fL_isSo2_l833 kk fu) M168 x10 1) else (fL_isSo2_j863 kk (fL_isSo2_l833 kk fu) M168 x10)))) := rfl
theorem fL_isSo2_l833_z  (kk : XSm → Int32 → Option (Int32 × XSm)) (N : XSm) (x7 : Int32) (x10 : Int32) : fL_isSo2_l833 kk 0 N x7 x10 = none := rfl
noncomputable def fL_isSo2_j78  (N : XSm) (x7 : Int32) : Option (Int32 × XSm) := fL_isSo2_l81 (fun M27 y26 => fL_isSo2_l210 (fun M99 y98 => fL_isSo2_l554 (fun M146 y145 => fL_isSo2_l767 (fun M162 y161 => fL_isSo2_l833 (fun M172 y171 => if y171 = 0 then (Zb 0 (some (0, M172))) else (Rd (M172.1.2.1) 5 0 fun v174 => b2 (fX8_room (M172.1.1) v174 0) fun r176 M175 => nm (((M175, M172.1.2), M172.2)) fun M177 => if r176 = (-1) then (Rd (M177.1.2.1) 5 1 fun v179 => b2 (fX8_booking (M177.1.1) v179 0) fun r181 M180 => nm (((M180, M177.1.2), M177.2)) fun M182 => if r181 = (-1) then (Rd (M182.1.2.1) 5 2 fun v184 => b2 (fX8_voucher (M182.1.1) v184 0) fun r186 M185 => nm (((M185, M182.1.2), M182.2)) fun M187 => if r186 = (-1) then (b2 (fX8_money (M187.1.1) 0) fun r190 M189 => nm (((M189, M187.1.2), M187.2)) fun M191 => Rd (M191.2.2) 7 6 fun v192 => Rd (M191.2.2) 7 4 fun v193 => if r190 = (v192 + v193) then (Rd (M191.2.2) 7 6 fun v195 => Rd (M191.2.2) 7 1 fun v196 => Rd (M191.2.2) 7 5 fun v197 => if v195 = (v196 + v197) then (Zb 1 (some (1, M191))) else (Zb 0 (some (0, M191)))) else (Zb 0 (some (0, M191)))) else (Zb 0 (some (0, M187)))) else (Zb 0 (some (0, M182)))) else (Zb 0 (some (0, M177))))) FU M162 y161 1) FU M146 y145 0) FU M99 y98 0) FU M27 y26 0) FU N x7 0
noncomputable def fL_isSo_j65  (N : XLm) (s0 : Int32) : Option (Int32 × XLm) := b2 (fL_isSo2_j78 (N, (fun _ => 0), (fun _ => 0)) s0) fun r1 N1 => some (r1, N1.1)
noncomputable def fL_isSo_j64  (N : XLm) : Option (Int32 × XLm) := fL_isSo_j65 N 0
noncomputable def fL_isSo  (N : XLm) : Option (Int32 × XLm) := b2 (fX8_count (N.1) 0) fun r2 M1 => nm ((M1, N.2)) fun M3 => Rd (M3.2.1) 5 0 fun v4 => if r2 = v4 then (b2 (fX8_count (M3.1) 1) fun r7 M6 => nm ((M6, M3.2)) fun M8 => Rd (M8.2.1) 5 1 fun v9 => if r7 = v9 then (b2 (fX8_count (M8.1) 2) fun r12 M11 => nm ((M11, M8.2)) fun M13 => Rd (M13.2.1) 5 2 fun v14 => if r12 = v14 then (b2 (fX8_count (M13.1) 3) fun r17 M16 => nm ((M16, M13.2)) fun M18 => if r17 = 0 then (b2 (fX8_count (M18.1) 5) fun r21 M20 => nm ((M20, M18.2)) fun M22 => if r21 = 0 then (b2 (fX8_money (M22.1) 0) fun r25 M24 => nm ((M24, M22.2)) fun M26 => Rd (M26.2.1) 5 3 fun v27 => if r25 = v27 then (fL_isSo_j65 M26 1) else (fL_isSo_j64 M26)) else (fL_isSo_j64 M22)) else (fL_isSo_j64 M18)) else (fL_isSo_j64 M13)) else (fL_isSo_j64 M8)) else (fL_isSo_j64 M3)
abbrev vL_isSo : List Cond := Cond.code yL_isSo cL_isSo 15 (some .boolean) :: BIG
theorem gL_isSo {own : String} {idx : Nat} (h : (Cond.methodLink own idx yL_isSo) ∈ BIG) : GoodIn BIG (va_wsS own idx yL_isSo vL_isSo) := gdS h bw3_26 bw1_0 bw3_27
theorem gL_isSo_n : GoodIn BIG vL_isSo := gdN bw3_27
def rmL_isSo : Room := { frames := 4, cells := 2, slots := 11, locals := 92 }
theorem hdL_isSo : yL_isSo.cls ≠ "java/lang/invoke/MethodHandle" ∧ yL_isSo.cls ≠ "java/lang/invoke/VarHandle" ∧ (parseMethodDescriptor yL_isSo.desc).map (fun d => d.parameters.length) = some 7 := by decide +kernel
set_option maxHeartbeats 4000000 in
set_option maxRecDepth 100000 in
theorem tL_isSo2_l97 (l : Launch) (D : va_G) (cS : ClassId) (g : Nat → Nat) (cI : ClassId) (xx xd xo hh ha : Nat) (z : Nat → Nat → Nat) (zn q : Nat → Nat) (la : Nat → Nat) (sa sb : Nat) (r : Int32) (M' : XSm) {p : Program} {e : Env} {s : State} {m : MethodId} {args : Array Value} {below : List Frame} {meth : Method} {c : Code} {A : Nat → Prop} (C : CX p s m args meth c A D cI cS g cL_isSo 15 (some .boolean) RL) (hDa : ∀ N, va_D A (wXS cI cS xx xd xo hh ha z zn q la sa sb N)) : ∀ (x10 : Int32) (kk : XSm → Int32 → Option (Int32 × XSm)) (fu : Nat) (N : XSm) (x7 : Int32) (x11 : Int32) (H : Heap) (locs : List Loc) (ls : Array Slot), fL_isSo2_l97 x10 kk fu N x7 x11 = some (r, M') → va_P D vwCl (wXS cI cS xx xd xo hh ha z zn q la sa sb N) H → va_S A s.heap H locs → lv_has ls 15 [(0, .ref xx), (1, .ref (la 0)), (2, .ref (la 1)), (3, .ref (la 2)), (4, .ref (la 3)), (5, .ref (la 4)), (6, .ref (la 5)), (7, .int x7), (8, .ref sa), (9, .ref sb), (10, .int x10), (11, .int x11)] → (∀ (N : XSm) (x7 : Int32) (H : Heap) (locs : List Loc) (ls : Array Slot), kk N x7 = some (r, M') → va_P D vwCl (wXS cI cS xx xd xo hh ha z zn q la sa sb N) H → va_S A s.heap H locs → lv_has ls 15 [(0, .ref xx), (1, .ref (la 0)), (2, .ref (la 1)), (3, .ref (la 2)), (4, .ref (la 3)), (5, .ref (la 4)), (6, .ref (la 5)), (7, .int x7), (8, .ref sa), (9, .ref sb), (10, .int x10)] → W p l e rmL_isSo s m args below meth c H locs 2 11 (MQ below (qI D r (wXL cI cS xx xd xo hh ha z zn q la M'.1) A) args s 2 11 A) (F0 m 143 ls [])) → W p l e rmL_isSo s m args below meth c H locs 2 11 (MQ below (qI D r (wXL cI cS xx xd xo hh ha z zn q la M'.1) A) args s 2 11 A) (F0 m 97 ls []) := by
  obtain ⟨hx, hb, hr, hml, hlocks, hown, htb, hA, hK, hG⟩ := id C
  intro x10 kk fu
  induction fu with
  | zero => intro N x7 x11 H locs ls hF; exact nn_use hF
  | succ fu ihn =>
    intro N x7 x11 H locs ls hF hP hS hl after
    rw [fL_isSo2_l97_s] at hF
    have j135 : ∀ (N : XSm) (x11 : Int32) (s0 : Int32) (H : Heap) (locs : List Loc) (ls : Array Slot), fL_isSo2_j135 x10 kk (fL_isSo2_l97 x10 kk fu) N x11 s0 = some (r, M') → va_P D vwCl (wXS cI cS xx xd xo hh ha z zn q la sa sb N) H → va_S A s.heap H locs → lv_has ls 15 [(0, .ref xx), (1, .ref (la 0)), (2, .ref (la 1)), (3, .ref (la 2)), (4, .ref (la 3)), (5, .ref (la 4)), (6, .ref (la 5)), (8, .ref sa), (9, .ref sb), (10, .int x10), (11, .int x11)] → W p l e rmL_isSo s m args below meth c H locs 2 11 (MQ below (qI D r (wXL cI cS xx xd xo hh ha z zn q la M'.1) A) args s 2 11 A) (F0 m 135 ls [.int s0]) := by
      intro N x11 s0 H locs ls hF hP hS hl
      refine lv_istore (lv' := [(7, .int s0), (0, .ref xx), (1, .ref (la 0)), (2, .ref (la 1)), (3, .ref (la 2)), (4, .ref (la 3)), (5, .ref (la 4)), (6, .ref (la 5)), (8, .ref sa), (9, .ref sb), (10, .int x10), (11, .int x11)]) hx hb dL_isSo_135 hl (by decide) rfl (fun ls hl => ?_)
      obtain ⟨v6, ev6⟩ : ∃ z : Int32, z = x11 + 1 := ⟨_, rfl⟩
      refine lv_iinc (v := v6) (lv' := [(11, .int v6), (7, .int s0), (0, .ref xx), (1, .ref (la 0)), (2, .ref (la 1)), (3, .ref (la 2)), (4, .ref (la 3)), (5, .ref (la 4)), (6, .ref (la 5)), (8, .ref sa), (9, .ref sb), (10, .int x10)]) hx hb dL_isSo_137 hl (k := 11) rfl (by rw [ev6]; rfl) (by decide) rfl (fun ls hl => ?_)
      have hF := nm_use hF ev6
      refine lv_goto (tgt := 97) hx hb dL_isSo_140 (by decide) ?_
      exact ihn N s0 v6 _ _ _ hF hP hS (lv_sub hl [2, 3, 4, 5, 6, 7, 8, 1, 9, 10, 11, 0] rfl) after
    have j134 : ∀ (N : XSm) (x11 : Int32) (H : Heap) (locs : List Loc) (ls : Array Slot), fL_isSo2_j134 x10 kk (fL_isSo2_l97 x10 kk fu) N x11 = some (r, M') → va_P D vwCl (wXS cI cS xx xd xo hh ha z zn q la sa sb N) H → va_S A s.heap H locs → lv_has ls 15 [(0, .ref xx), (1, .ref (la 0)), (2, .ref (la 1)), (3, .ref (la 2)), (4, .ref (la 3)), (5, .ref (la 4)), (6, .ref (la 5)), (8, .ref sa), (9, .ref sb), (10, .int x10), (11, .int x11)] → W p l e rmL_isSo s m args below meth c H locs 2 11 (MQ below (qI D r (wXL cI cS xx xd xo hh ha z zn q la M'.1) A) args s 2 11 A) (F0 m 134 ls []) := by
      intro N x11 H locs ls hF hP hS hl
      refine lv_iconst (v := 0) hx hb dL_isSo_134 (by decide) ?_
      exact j135 N x11 0 _ _ _ hF hP hS (lv_sub hl [0, 1, 2, 3, 4, 5, 6, 7, 8, 9, 10] rfl)
    refine lv_iload hx hb dL_isSo_97 (lv_at hl 11 rfl) ?_
    refine lv_bipush (v := 11) hx hb dL_isSo_99 (by decide) ?_
    refine lv_icmp_ge (tgt := 143) hx hb dL_isSo_101 (by decide) (fun c4 => ?_) (fun c4 => ?_)
    · have hF := it_t hF c4
      exact after N x7 _ _ _ hF hP hS (lv_sub hl [0, 1, 2, 3, 4, 5, 6, 7, 8, 9, 10] rfl)
    · have hF := it_f hF c4
      refine lv_iload hx hb dL_isSo_104 (lv_at hl 7 rfl) ?_
      refine lv_if_eq (tgt := 134) hx hb dL_isSo_106 (by decide) (fun c5 => ?_) (fun c5 => ?_)
      · have hF := it_t hF c5
        exact j134 N x11 _ _ _ hF hP hS (lv_sub hl [0, 1, 2, 3, 4, 5, 6, 8, 9, 10, 11] rfl)
      · have hF := it_f hF c5
        refine lv_aload_n hx hb dL_isSo_109 rfl (lv_at hl 0 rfl) ?_
        refine lv_iload hx hb dL_isSo_110 (lv_at hl 10 rfl) ?_
        refine lv_iload hx hb dL_isSo_112 (lv_at hl 11 rfl) ?_
        obtain ⟨r8, M7, hM7, hF⟩ := b2_use hF
        refine clx_VI ⟨hx, hb, hml, hown, htb⟩ (kX8_room l D cS g cI xx xd xo hh ha z zn q (N.1.1) x10 x11 _ _ hM7) (cwV 2 htb (gX8_room bw3_28) rfl rfl rfl hdX8_room ⟨Nat.le_of_ble_eq_true rfl, Nat.le_of_ble_eq_true rfl⟩) hK (hDa _) hG hA hP hS (sg_XS_XX cI cS xx xd xo hh ha z zn q la sa sb N M7) hl.1 rfl 0 (pXX_0 _ _ _ _ _ _ _ _ _ _ _) rfl rfl (Nat.le_of_ble_eq_true rfl) ⟨Nat.le_of_ble_eq_true rfl, Nat.le_of_ble_eq_true rfl⟩ dL_isSo_114 (fun H locs hP hS => ?_)
        obtain ⟨M9, eM9⟩ : ∃ z : XSm, z = ((M7, N.1.2), N.2) := ⟨_, rfl⟩
        have hF := nm_use hF eM9
        have hP : va_P D vwCl (wXS cI cS xx xd xo hh ha z zn q la sa sb M9) H := by rw [eM9]; exact hP
        refine lv_aload_n hx hb dL_isSo_117 rfl (lv_at hl 3 rfl) ?_
        refine lv_bipush (v := 11) hx hb dL_isSo_118 (by decide) ?_
        refine lv_iload hx hb dL_isSo_120 (lv_at hl 10 rfl) ?_
        refine lv_imul hx hb dL_isSo_122 ?_
        refine lv_iload hx hb dL_isSo_123 (lv_at hl 11 rfl) ?_
        refine lv_iadd hx hb dL_isSo_125 ?_
        obtain ⟨hi, hF⟩ := rd_use hF
        refine va_iald hx hb hK hP 4 0 (pXS_4 cI cS xx xd xo hh ha z zn q la sa sb M9) rfl hi dL_isSo_126 ?_
        refine lv_topi (fun v10 ev10 => ?_)
        have hF := hF v10 ev10
        refine lv_icmp_ne (tgt := 134) hx hb dL_isSo_127 (by decide) (fun c11 => ?_) (fun c11 => ?_)
        · have hF := it_f hF c11
          exact j134 M9 x11 _ _ _ hF hP hS (lv_sub hl [0, 1, 2, 3, 4, 5, 6, 8, 9, 10, 11] rfl)
        · have hF := it_t hF c11
          refine lv_iconst (v := 1) hx hb dL_isSo_130 (by decide) ?_
          refine lv_goto (tgt := 135) hx hb dL_isSo_131 (by decide) ?_
          exact j135 M9 x11 1 _ _ _ hF hP hS (lv_sub hl [0, 1, 2, 3, 4, 5, 6, 8, 9, 10, 11] rfl)
set_option maxHeartbeats 4000000 in
set_option maxRecDepth 100000 in
theorem tL_isSo2_l81 (l : Launch) (D : va_G) (cS : ClassId) (g : Nat → Nat) (cI : ClassId) (xx xd xo hh ha : Nat) (z : Nat → Nat → Nat) (zn q : Nat → Nat) (la : Nat → Nat) (sa sb : Nat) (r : Int32) (M' : XSm) {p : Program} {e : Env} {s : State} {m : MethodId} {args : Array Value} {below : List Frame} {meth : Method} {c : Code} {A : Nat → Prop} (C : CX p s m args meth c A D cI cS g cL_isSo 15 (some .boolean) RL) (hDa : ∀ N, va_D A (wXS cI cS xx xd xo hh ha z zn q la sa sb N)) : ∀ (kk : XSm → Int32 → Option (Int32 × XSm)) (fu : Nat) (N : XSm) (x7 : Int32) (x10 : Int32) (H : Heap) (locs : List Loc) (ls : Array Slot), fL_isSo2_l81 kk fu N x7 x10 = some (r, M') → va_P D vwCl (wXS cI cS xx xd xo hh ha z zn q la sa sb N) H → va_S A s.heap H locs → lv_has ls 15 [(0, .ref xx), (1, .ref (la 0)), (2, .ref (la 1)), (3, .ref (la 2)), (4, .ref (la 3)), (5, .ref (la 4)), (6, .ref (la 5)), (7, .int x7), (8, .ref sa), (9, .ref sb), (10, .int x10)] → (∀ (N : XSm) (x7 : Int32) (H : Heap) (locs : List Loc) (ls : Array Slot), kk N x7 = some (r, M') → va_P D vwCl (wXS cI cS xx xd xo hh ha z zn q la sa sb N) H → va_S A s.heap H locs → lv_has ls 15 [(0, .ref xx), (1, .ref (la 0)), (2, .ref (la 1)), (4, .ref (la 3)), (5, .ref (la 4)), (6, .ref (la 5)), (7, .int x7), (8, .ref sa), (9, .ref sb)] → W p l e rmL_isSo s m args below meth c H locs 2 11 (MQ below (qI D r (wXL cI cS xx xd xo hh ha z zn q la M'.1) A) args s 2 11 A) (F0 m 207 ls [])) → W p l e rmL_isSo s m args below meth c H locs 2 11 (MQ below (qI D r (wXL cI cS xx xd xo hh ha z zn q la M'.1) A) args s 2 11 A) (F0 m 81 ls []) := by
  obtain ⟨hx, hb, hr, hml, hlocks, hown, htb, hA, hK, hG⟩ := id C
  intro kk fu
  induction fu with
  | zero => intro N x7 x10 H locs ls hF; exact nn_use hF
  | succ fu ihn =>
    intro N x7 x10 H locs ls hF hP hS hl after
    rw [fL_isSo2_l81_s] at hF
    have j199 : ∀ (N : XSm) (x10 : Int32) (s0 : Int32) (H : Heap) (locs : List Loc) (ls : Array Slot), fL_isSo2_j199 kk (fL_isSo2_l81 kk fu) N x10 s0 = some (r, M') → va_P D vwCl (wXS cI cS xx xd xo hh ha z zn q la sa sb N) H → va_S A s.heap H locs → lv_has ls 15 [(0, .ref xx), (1, .ref (la 0)), (2, .ref (la 1)), (3, .ref (la 2)), (4, .ref (la 3)), (5, .ref (la 4)), (6, .ref (la 5)), (8, .ref sa), (9, .ref sb), (10, .int x10)] → W p l e rmL_isSo s m args below meth c H locs 2 11 (MQ below (qI D r (wXL cI cS xx xd xo hh ha z zn q la M'.1) A) args s 2 11 A) (F0 m 199 ls [.int s0]) := by
      intro N x10 s0 H locs ls hF hP hS hl
      refine lv_istore (lv' := [(7, .int s0), (0, .ref xx), (1, .ref (la 0)), (2, .ref (la 1)), (3, .ref (la 2)), (4, .ref (la 3)), (5, .ref (la 4)), (6, .ref (la 5)), (8, .ref sa), (9, .ref sb), (10, .int x10)]) hx hb dL_isSo_199 hl (by decide) rfl (fun ls hl => ?_)
      obtain ⟨v16, ev16⟩ : ∃ z : Int32, z = x10 + 1 := ⟨_, rfl⟩
      refine lv_iinc (v := v16) (lv' := [(10, .int v16), (7, .int s0), (0, .ref xx), (1, .ref (la 0)), (2, .ref (la 1)), (3, .ref (la 2)), (4, .ref (la 3)), (5, .ref (la 4)), (6, .ref (la 5)), (8, .ref sa), (9, .ref sb)]) hx hb dL_isSo_201 hl (k := 10) rfl (by rw [ev16]; rfl) (by decide) rfl (fun ls hl => ?_)
      have hF := nm_use hF ev16
      refine lv_goto (tgt := 81) hx hb dL_isSo_204 (by decide) ?_
      exact ihn N s0 v16 _ _ _ hF hP hS (lv_sub hl [2, 3, 4, 5, 6, 7, 8, 1, 9, 10, 0] rfl) after
    have j198 : ∀ (N : XSm) (x10 : Int32) (H : Heap) (locs : List Loc) (ls : Array Slot), fL_isSo2_j198 kk (fL_isSo2_l81 kk fu) N x10 = some (r, M') → va_P D vwCl (wXS cI cS xx xd xo hh ha z zn q la sa sb N) H → va_S A s.heap H locs → lv_has ls 15 [(0, .ref xx), (1, .ref (la 0)), (2, .ref (la 1)), (3, .ref (la 2)), (4, .ref (la 3)), (5, .ref (la 4)), (6, .ref (la 5)), (8, .ref sa), (9, .ref sb), (10, .int x10)] → W p l e rmL_isSo s m args below meth c H locs 2 11 (MQ below (qI D r (wXL cI cS xx xd xo hh ha z zn q la M'.1) A) args s 2 11 A) (F0 m 198 ls []) := by
      intro N x10 H locs ls hF hP hS hl
      refine lv_iconst (v := 0) hx hb dL_isSo_198 (by decide) ?_
      exact j199 N x10 0 _ _ _ hF hP hS (lv_sub hl [0, 1, 2, 3, 4, 5, 6, 7, 8, 9] rfl)
    have j179 : ∀ (N : XSm) (x10 : Int32) (s0 : Int32) (s1 : Int32) (H : Heap) (locs : List Loc) (ls : Array Slot), fL_isSo2_j179 kk (fL_isSo2_l81 kk fu) N x10 s0 s1 = some (r, M') → va_P D vwCl (wXS cI cS xx xd xo hh ha z zn q la sa sb N) H → va_S A s.heap H locs → lv_has ls 15 [(0, .ref xx), (1, .ref (la 0)), (2, .ref (la 1)), (3, .ref (la 2)), (4, .ref (la 3)), (5, .ref (la 4)), (6, .ref (la 5)), (8, .ref sa), (9, .ref sb), (10, .int x10)] → W p l e rmL_isSo s m args below meth c H locs 2 11 (MQ below (qI D r (wXL cI cS xx xd xo hh ha z zn q la M'.1) A) args s 2 11 A) (F0 m 179 ls [.int s1, .int s0]) := by
      intro N x10 s0 s1 H locs ls hF hP hS hl
      refine lv_icmp_ne (tgt := 198) hx hb dL_isSo_179 (by decide) (fun c21 => ?_) (fun c21 => ?_)
      · have hF := it_f hF c21
        exact j198 N x10 _ _ _ hF hP hS (lv_sub hl [0, 1, 2, 3, 4, 5, 6, 7, 8, 9] rfl)
      · have hF := it_t hF c21
        refine lv_aload_n hx hb dL_isSo_182 rfl (lv_at hl 0 rfl) ?_
        refine lv_iload hx hb dL_isSo_183 (lv_at hl 9 rfl) ?_
        refine lv_bipush (v := 12) hx hb dL_isSo_185 (by decide) ?_
        obtain ⟨r23, M22, hM22, hF⟩ := b2_use hF
        refine clx_VI ⟨hx, hb, hml, hown, htb⟩ (kX8_room l D cS g cI xx xd xo hh ha z zn q (N.1.1) x10 12 _ _ hM22) (cwV 2 htb (gX8_room bw3_28) rfl rfl rfl hdX8_room ⟨Nat.le_of_ble_eq_true rfl, Nat.le_of_ble_eq_true rfl⟩) hK (hDa _) hG hA hP hS (sg_XS_XX cI cS xx xd xo hh ha z zn q la sa sb N M22) hl.1 rfl 0 (pXX_0 _ _ _ _ _ _ _ _ _ _ _) rfl rfl (Nat.le_of_ble_eq_true rfl) ⟨Nat.le_of_ble_eq_true rfl, Nat.le_of_ble_eq_true rfl⟩ dL_isSo_187 (fun H locs hP hS => ?_)
        obtain ⟨M24, eM24⟩ : ∃ z : XSm, z = ((M22, N.1.2), N.2) := ⟨_, rfl⟩
        have hF := nm_use hF eM24
        have hP : va_P D vwCl (wXS cI cS xx xd xo hh ha z zn q la sa sb M24) H := by rw [eM24]; exact hP
        refine lv_iconst (v := (-1)) hx hb dL_isSo_190 (by decide) ?_
        refine lv_icmp_ne (tgt := 198) hx hb dL_isSo_191 (by decide) (fun c25 => ?_) (fun c25 => ?_)
        · have hF := it_f hF c25
          exact j198 M24 x10 _ _ _ hF hP hS (lv_sub hl [0, 1, 2, 3, 4, 5, 6, 7, 8, 9] rfl)
        · have hF := it_t hF c25
          refine lv_iconst (v := 1) hx hb dL_isSo_194 (by decide) ?_
          refine lv_goto (tgt := 199) hx hb dL_isSo_195 (by decide) ?_
          exact j199 M24 x10 1 _ _ _ hF hP hS (lv_sub hl [0, 1, 2, 3, 4, 5, 6, 7, 8, 9] rfl)
    refine lv_iload hx hb dL_isSo_81 (lv_at hl 10 rfl) ?_
    refine lv_aload_n hx hb dL_isSo_83 rfl (lv_at hl 1 rfl) ?_
    refine lv_iconst (v := 0) hx hb dL_isSo_84 (by decide) ?_
    obtain ⟨hi, hF⟩ := rd_use hF
    refine va_iald hx hb hK hP 2 0 (pXS_2 cI cS xx xd xo hh ha z zn q la sa sb N) rfl hi dL_isSo_85 ?_
    refine lv_topi (fun v1 ev1 => ?_)
    have hF := hF v1 ev1
    refine lv_icmp_ge (tgt := 207) hx hb dL_isSo_86 (by decide) (fun c2 => ?_) (fun c2 => ?_)
    · have hF := it_t hF c2
      exact after N x7 _ _ _ hF hP hS (lv_sub hl [0, 1, 2, 4, 5, 6, 7, 8, 9] rfl)
    · have hF := it_f hF c2
      refine lv_iload hx hb dL_isSo_89 (lv_at hl 7 rfl) ?_
      refine lv_if_eq (tgt := 207) hx hb dL_isSo_91 (by decide) (fun c3 => ?_) (fun c3 => ?_)
      · have hF := it_t hF c3
        exact after N x7 _ _ _ hF hP hS (lv_sub hl [0, 1, 2, 4, 5, 6, 7, 8, 9] rfl)
      · have hF := it_f hF c3
        refine lv_iconst (v := 0) hx hb dL_isSo_94 (by decide) ?_
        refine lv_istore (lv' := [(11, .int 0), (0, .ref xx), (1, .ref (la 0)), (2, .ref (la 1)), (3, .ref (la 2)), (4, .ref (la 3)), (5, .ref (la 4)), (6, .ref (la 5)), (7, .int x7), (8, .ref sa), (9, .ref sb), (10, .int x10)]) hx hb dL_isSo_95 hl (by decide) rfl (fun ls hl => ?_)
        refine tL_isSo2_l97 l D cS g cI xx xd xo hh ha z zn q la sa sb r M' C hDa x10 _ _ N x7 0 _ _ _ hF hP hS (lv_sub hl [1, 2, 3, 4, 5, 6, 7, 8, 9, 10, 11, 0] rfl) ?_
        · intro M13 y12 H locs ls hF hP hS hl
          refine lv_aload_n hx hb dL_isSo_143 rfl (lv_at hl 1 rfl) ?_
          refine lv_aload hx hb dL_isSo_144 (lv_at hl 4 rfl) ?_
          refine lv_iload hx hb dL_isSo_146 (lv_at hl 10 rfl) ?_
          refine lv_iconst (v := 0) hx hb dL_isSo_148 (by decide) ?_
          obtain ⟨r14, hr14, hF⟩ := bd_use hF
          refine clx_SI ⟨hx, hb, hml, hown, htb⟩ (kL_next l D cS g cI la (M13.1.2) x10 0 _ hr14) (va_cwS 4 htb (gL_next bw3_16) rfl rfl rfl hdL_next ⟨Nat.le_of_ble_eq_true rfl, Nat.le_of_ble_eq_true rfl⟩) hK (hDa _) hG hA hP hS (sr_XS_LA cI cS xx xd xo hh ha z zn q la sa sb M13) hl.1 rfl rfl (Nat.le_of_ble_eq_true rfl) ⟨Nat.le_of_ble_eq_true rfl, Nat.le_of_ble_eq_true rfl⟩ dL_isSo_149 (fun H locs hP hS => ?_)
          refine lv_istore (lv' := [(11, .int r14), (0, .ref xx), (1, .ref (la 0)), (2, .ref (la 1)), (3, .ref (la 2)), (4, .ref (la 3)), (5, .ref (la 4)), (6, .ref (la 5)), (7, .int y12), (8, .ref sa), (9, .ref sb), (10, .int x10)]) hx hb dL_isSo_152 hl (by decide) rfl (fun ls hl => ?_)
          refine lv_iload hx hb dL_isSo_154 (lv_at hl 8 rfl) ?_
          refine lv_if_eq (tgt := 198) hx hb dL_isSo_156 (by decide) (fun c15 => ?_) (fun c15 => ?_)
          · have hF := it_t hF c15
            exact j198 M13 x10 _ _ _ hF hP hS (lv_sub hl [1, 2, 3, 4, 5, 6, 7, 9, 10, 11] rfl)
          · have hF := it_f hF c15
            refine lv_aload_n hx hb dL_isSo_159 rfl (lv_at hl 1 rfl) ?_
            refine lv_iload hx hb dL_isSo_160 (lv_at hl 11 rfl) ?_
            refine lv_bipush (v := 11) hx hb dL_isSo_162 (by decide) ?_
            obtain ⟨r18, M17, hM17, hF⟩ := b2_use hF
            refine clx_VI ⟨hx, hb, hml, hown, htb⟩ (kX8_room l D cS g cI xx xd xo hh ha z zn q (M13.1.1) x10 11 _ _ hM17) (cwV 2 htb (gX8_room bw3_28) rfl rfl rfl hdX8_room ⟨Nat.le_of_ble_eq_true rfl, Nat.le_of_ble_eq_true rfl⟩) hK (hDa _) hG hA hP hS (sg_XS_XX cI cS xx xd xo hh ha z zn q la sa sb M13 M17) hl.1 rfl 0 (pXX_0 _ _ _ _ _ _ _ _ _ _ _) rfl rfl (Nat.le_of_ble_eq_true rfl) ⟨Nat.le_of_ble_eq_true rfl, Nat.le_of_ble_eq_true rfl⟩ dL_isSo_164 (fun H locs hP hS => ?_)
            obtain ⟨M19, eM19⟩ : ∃ z : XSm, z = ((M17, M13.1.2), M13.2) := ⟨_, rfl⟩
            have hF := nm_use hF eM19
            have hP : va_P D vwCl (wXS cI cS xx xd xo hh ha z zn q la sa sb M19) H := by rw [eM19]; exact hP
            refine lv_iload hx hb dL_isSo_167 (lv_at hl 0 rfl) ?_
            refine lv_if_ge (tgt := 177) hx hb dL_isSo_169 (by decide) (fun c20 => ?_) (fun c20 => ?_)
            · have hF := it_t hF c20
              refine lv_iload hx hb dL_isSo_177 (lv_at hl 0 rfl) ?_
              exact j179 M19 x10 r18 r14 _ _ _ hF hP hS (lv_sub hl [1, 2, 3, 4, 5, 6, 7, 9, 10, 11] rfl)
            · have hF := it_f hF c20
              refine lv_bipush (v := (-9)) hx hb dL_isSo_172 (by decide) ?_
              refine lv_goto (tgt := 179) hx hb dL_isSo_174 (by decide) ?_
              exact j179 M19 x10 r18 (-9) _ _ _ hF hP hS (lv_sub hl [1, 2, 3, 4, 5, 6, 7, 9, 10, 11] rfl)
set_option maxHeartbeats 4000000 in
set_option maxRecDepth 100000 in
theorem tL_isSo2_l241 (l : Launch) (D : va_G) (cS : ClassId) (g : Nat → Nat) (cI : ClassId) (xx xd xo hh ha : Nat) (z : Nat → Nat → Nat) (zn q : Nat → Nat) (la : Nat → Nat) (sa sb : Nat) (r : Int32) (M' : XSm) {p : Program} {e : Env} {s : State} {m : MethodId} {args : Array Value} {below : List Frame} {meth : Method} {c : Code} {A : Nat → Prop} (C : CX p s m args meth c A D cI cS g cL_isSo 15 (some .boolean) RL) (hDa : ∀ N, va_D A (wXS cI cS xx xd xo hh ha z zn q la sa sb N)) : ∀ (x7 : Int32) (x10 : Int32) (x12 : Int32) (kk : XSm → Int32 → Option (Int32 × XSm)) (fu : Nat) (N : XSm) (x11 : Int32) (x13 : Int32) (H : Heap) (locs : List Loc) (ls : Array Slot), fL_isSo2_l241 x7 x10 x12 kk fu N x11 x13 = some (r, M') → va_P D vwCl (wXS cI cS xx xd xo hh ha z zn q la sa sb N) H → va_S A s.heap H locs → lv_has ls 15 [(0, .ref xx), (1, .ref (la 0)), (2, .ref (la 1)), (4, .ref (la 3)), (5, .ref (la 4)), (6, .ref (la 5)), (7, .int x7), (8, .ref sa), (9, .ref sb), (10, .int x10), (11, .int x11), (12, .int x12), (13, .int x13)] → (∀ (N : XSm) (x11 : Int32) (H : Heap) (locs : List Loc) (ls : Array Slot), kk N x11 = some (r, M') → va_P D vwCl (wXS cI cS xx xd xo hh ha z zn q la sa sb N) H → va_S A s.heap H locs → lv_has ls 15 [(0, .ref xx), (1, .ref (la 0)), (2, .ref (la 1)), (4, .ref (la 3)), (5, .ref (la 4)), (6, .ref (la 5)), (7, .int x7), (8, .ref sa), (9, .ref sb), (10, .int x10), (11, .int x11), (12, .int x12)] → W p l e rmL_isSo s m args below meth c H locs 2 11 (MQ below (qI D r (wXL cI cS xx xd xo hh ha z zn q la M'.1) A) args s 2 11 A) (F0 m 291 ls [])) → W p l e rmL_isSo s m args below meth c H locs 2 11 (MQ below (qI D r (wXL cI cS xx xd xo hh ha z zn q la M'.1) A) args s 2 11 A) (F0 m 241 ls []) := by
  obtain ⟨hx, hb, hr, hml, hlocks, hown, htb, hA, hK, hG⟩ := id C
  intro x7 x10 x12 kk fu
  induction fu with
  | zero => intro N x11 x13 H locs ls hF; exact nn_use hF
  | succ fu ihn =>
    intro N x11 x13 H locs ls hF hP hS hl after
    rw [fL_isSo2_l241_s] at hF
    have j282 : ∀ (N : XSm) (x13 : Int32) (s0 : Int32) (s1 : Int32) (H : Heap) (locs : List Loc) (ls : Array Slot), fL_isSo2_j282 x7 x10 x12 kk (fL_isSo2_l241 x7 x10 x12 kk fu) N x13 s0 s1 = some (r, M') → va_P D vwCl (wXS cI cS xx xd xo hh ha z zn q la sa sb N) H → va_S A s.heap H locs → lv_has ls 15 [(0, .ref xx), (1, .ref (la 0)), (2, .ref (la 1)), (4, .ref (la 3)), (5, .ref (la 4)), (6, .ref (la 5)), (7, .int x7), (8, .ref sa), (9, .ref sb), (10, .int x10), (12, .int x12), (13, .int x13)] → W p l e rmL_isSo s m args below meth c H locs 2 11 (MQ below (qI D r (wXL cI cS xx xd xo hh ha z zn q la M'.1) A) args s 2 11 A) (F0 m 282 ls [.int s1, .int s0]) := by
      intro N x13 s0 s1 H locs ls hF hP hS hl
      refine lv_iadd hx hb dL_isSo_282 ?_
      refine lv_topi (fun v36 ev36 => ?_)
      have hF := nm_use hF ev36
      refine lv_istore (lv' := [(11, .int v36), (0, .ref xx), (1, .ref (la 0)), (2, .ref (la 1)), (4, .ref (la 3)), (5, .ref (la 4)), (6, .ref (la 5)), (7, .int x7), (8, .ref sa), (9, .ref sb), (10, .int x10), (12, .int x12), (13, .int x13)]) hx hb dL_isSo_283 hl (by decide) rfl (fun ls hl => ?_)
      obtain ⟨v37, ev37⟩ : ∃ z : Int32, z = x13 + 1 := ⟨_, rfl⟩
      refine lv_iinc (v := v37) (lv' := [(13, .int v37), (11, .int v36), (0, .ref xx), (1, .ref (la 0)), (2, .ref (la 1)), (4, .ref (la 3)), (5, .ref (la 4)), (6, .ref (la 5)), (7, .int x7), (8, .ref sa), (9, .ref sb), (10, .int x10), (12, .int x12)]) hx hb dL_isSo_285 hl (k := 12) rfl (by rw [ev37]; rfl) (by decide) rfl (fun ls hl => ?_)
      have hF := nm_use hF ev37
      refine lv_goto (tgt := 241) hx hb dL_isSo_288 (by decide) ?_
      exact ihn N v36 v37 _ _ _ hF hP hS (lv_sub hl [2, 3, 4, 5, 6, 7, 8, 9, 10, 11, 1, 12, 0] rfl) after
    have j281 : ∀ (N : XSm) (x13 : Int32) (s0 : Int32) (H : Heap) (locs : List Loc) (ls : Array Slot), fL_isSo2_j281 x7 x10 x12 kk (fL_isSo2_l241 x7 x10 x12 kk fu) N x13 s0 = some (r, M') → va_P D vwCl (wXS cI cS xx xd xo hh ha z zn q la sa sb N) H → va_S A s.heap H locs → lv_has ls 15 [(0, .ref xx), (1, .ref (la 0)), (2, .ref (la 1)), (4, .ref (la 3)), (5, .ref (la 4)), (6, .ref (la 5)), (7, .int x7), (8, .ref sa), (9, .ref sb), (10, .int x10), (12, .int x12), (13, .int x13)] → W p l e rmL_isSo s m args below meth c H locs 2 11 (MQ below (qI D r (wXL cI cS xx xd xo hh ha z zn q la M'.1) A) args s 2 11 A) (F0 m 281 ls [.int s0]) := by
      intro N x13 s0 H locs ls hF hP hS hl
      refine lv_iconst (v := 0) hx hb dL_isSo_281 (by decide) ?_
      exact j282 N x13 s0 0 _ _ _ hF hP hS (lv_sub hl [0, 1, 2, 3, 4, 5, 6, 7, 8, 9, 10, 11] rfl)
    refine lv_iload hx hb dL_isSo_241 (lv_at hl 12 rfl) ?_
    refine lv_aload_n hx hb dL_isSo_243 rfl (lv_at hl 1 rfl) ?_
    refine lv_iconst (v := 1) hx hb dL_isSo_244 (by decide) ?_
    obtain ⟨hi, hF⟩ := rd_use hF
    refine va_iald hx hb hK hP 2 0 (pXS_2 cI cS xx xd xo hh ha z zn q la sa sb N) rfl hi dL_isSo_245 ?_
    refine lv_topi (fun v32 ev32 => ?_)
    have hF := hF v32 ev32
    refine lv_icmp_ge (tgt := 291) hx hb dL_isSo_246 (by decide) (fun c33 => ?_) (fun c33 => ?_)
    · have hF := it_t hF c33
      exact after N x11 _ _ _ hF hP hS (lv_sub hl [0, 1, 2, 3, 4, 5, 6, 7, 8, 9, 10, 11] rfl)
    · have hF := it_f hF c33
      refine lv_iload hx hb dL_isSo_249 (lv_at hl 10 rfl) ?_
      refine lv_aload hx hb dL_isSo_251 (lv_at hl 4 rfl) ?_
      refine lv_iconst (v := 4) hx hb dL_isSo_253 (by decide) ?_
      refine lv_iload hx hb dL_isSo_254 (lv_at hl 12 rfl) ?_
      refine lv_imul hx hb dL_isSo_256 ?_
      refine lv_iconst (v := 2) hx hb dL_isSo_257 (by decide) ?_
      refine lv_iadd hx hb dL_isSo_258 ?_
      obtain ⟨hi, hF⟩ := rd_use hF
      refine va_iald hx hb hK hP 6 0 (pXS_6 cI cS xx xd xo hh ha z zn q la sa sb N) rfl hi dL_isSo_259 ?_
      refine lv_topi (fun v34 ev34 => ?_)
      have hF := hF v34 ev34
      refine lv_iload hx hb dL_isSo_260 (lv_at hl 9 rfl) ?_
      refine lv_icmp_ne (tgt := 281) hx hb dL_isSo_262 (by decide) (fun c35 => ?_) (fun c35 => ?_)
      · have hF := it_f hF c35
        exact j281 N x13 x11 _ _ _ hF hP hS (lv_sub hl [0, 1, 2, 3, 4, 5, 6, 7, 8, 9, 11, 12] rfl)
      · have hF := it_t hF c35
        refine lv_aload hx hb dL_isSo_265 (lv_at hl 4 rfl) ?_
        refine lv_iconst (v := 4) hx hb dL_isSo_267 (by decide) ?_
        refine lv_iload hx hb dL_isSo_268 (lv_at hl 12 rfl) ?_
        refine lv_imul hx hb dL_isSo_270 ?_
        refine lv_iconst (v := 1) hx hb dL_isSo_271 (by decide) ?_
        refine lv_iadd hx hb dL_isSo_272 ?_
        obtain ⟨hi, hF⟩ := rd_use hF
        refine va_iald hx hb hK hP 6 0 (pXS_6 cI cS xx xd xo hh ha z zn q la sa sb N) rfl hi dL_isSo_273 ?_
        refine lv_topi (fun v38 ev38 => ?_)
        have hF := hF v38 ev38
        refine lv_if_le (tgt := 281) hx hb dL_isSo_274 (by decide) (fun c39 => ?_) (fun c39 => ?_)
        · have hF := it_t hF c39
          exact j281 N x13 x11 _ _ _ hF hP hS (lv_sub hl [0, 1, 2, 3, 4, 5, 6, 7, 8, 9, 11, 12] rfl)
        · have hF := it_f hF c39
          refine lv_iconst (v := 1) hx hb dL_isSo_277 (by decide) ?_
          refine lv_goto (tgt := 282) hx hb dL_isSo_278 (by decide) ?_
          exact j282 N x13 x11 1 _ _ _ hF hP hS (lv_sub hl [0, 1, 2, 3, 4, 5, 6, 7, 8, 9, 11, 12] rfl)
set_option maxHeartbeats 4000000 in
set_option maxRecDepth 100000 in
theorem tL_isSo2_l294 (l : Launch) (D : va_G) (cS : ClassId) (g : Nat → Nat) (cI : ClassId) (xx xd xo hh ha : Nat) (z : Nat → Nat → Nat) (zn q : Nat → Nat) (la : Nat → Nat) (sa sb : Nat) (r : Int32) (M' : XSm) {p : Program} {e : Env} {s : State} {m : MethodId} {args : Array Value} {below : List Frame} {meth : Method} {c : Code} {A : Nat → Prop} (C : CX p s m args meth c A D cI cS g cL_isSo 15 (some .boolean) RL) (hDa : ∀ N, va_D A (wXS cI cS xx xd xo hh ha z zn q la sa sb N)) : ∀ (x10 : Int32) (x11 : Int32) (x12 : Int32) (kk : XSm → Int32 → Option (Int32 × XSm)) (fu : Nat) (N : XSm) (x7 : Int32) (x13 : Int32) (H : Heap) (locs : List Loc) (ls : Array Slot), fL_isSo2_l294 x10 x11 x12 kk fu N x7 x13 = some (r, M') → va_P D vwCl (wXS cI cS xx xd xo hh ha z zn q la sa sb N) H → va_S A s.heap H locs → lv_has ls 15 [(0, .ref xx), (1, .ref (la 0)), (2, .ref (la 1)), (4, .ref (la 3)), (5, .ref (la 4)), (6, .ref (la 5)), (7, .int x7), (8, .ref sa), (9, .ref sb), (10, .int x10), (11, .int x11), (12, .int x12), (13, .int x13)] → (∀ (N : XSm) (x7 : Int32) (H : Heap) (locs : List Loc) (ls : Array Slot), kk N x7 = some (r, M') → va_P D vwCl (wXS cI cS xx xd xo hh ha z zn q la sa sb N) H → va_S A s.heap H locs → lv_has ls 15 [(0, .ref xx), (1, .ref (la 0)), (2, .ref (la 1)), (4, .ref (la 3)), (5, .ref (la 4)), (6, .ref (la 5)), (7, .int x7), (8, .ref sa), (9, .ref sb), (10, .int x10), (11, .int x11), (12, .int x12)] → W p l e rmL_isSo s m args below meth c H locs 2 11 (MQ below (qI D r (wXL cI cS xx xd xo hh ha z zn q la M'.1) A) args s 2 11 A) (F0 m 341 ls [])) → W p l e rmL_isSo s m args below meth c H locs 2 11 (MQ below (qI D r (wXL cI cS xx xd xo hh ha z zn q la M'.1) A) args s 2 11 A) (F0 m 294 ls []) := by
  obtain ⟨hx, hb, hr, hml, hlocks, hown, htb, hA, hK, hG⟩ := id C
  intro x10 x11 x12 kk fu
  induction fu with
  | zero => intro N x7 x13 H locs ls hF; exact nn_use hF
  | succ fu ihn =>
    intro N x7 x13 H locs ls hF hP hS hl after
    rw [fL_isSo2_l294_s] at hF
    have j333 : ∀ (N : XSm) (x13 : Int32) (s0 : Int32) (H : Heap) (locs : List Loc) (ls : Array Slot), fL_isSo2_j333 x10 x11 x12 kk (fL_isSo2_l294 x10 x11 x12 kk fu) N x13 s0 = some (r, M') → va_P D vwCl (wXS cI cS xx xd xo hh ha z zn q la sa sb N) H → va_S A s.heap H locs → lv_has ls 15 [(0, .ref xx), (1, .ref (la 0)), (2, .ref (la 1)), (4, .ref (la 3)), (5, .ref (la 4)), (6, .ref (la 5)), (8, .ref sa), (9, .ref sb), (10, .int x10), (11, .int x11), (12, .int x12), (13, .int x13)] → W p l e rmL_isSo s m args below meth c H locs 2 11 (MQ below (qI D r (wXL cI cS xx xd xo hh ha z zn q la M'.1) A) args s 2 11 A) (F0 m 333 ls [.int s0]) := by
      intro N x13 s0 H locs ls hF hP hS hl
      refine lv_istore (lv' := [(7, .int s0), (0, .ref xx), (1, .ref (la 0)), (2, .ref (la 1)), (4, .ref (la 3)), (5, .ref (la 4)), (6, .ref (la 5)), (8, .ref sa), (9, .ref sb), (10, .int x10), (11, .int x11), (12, .int x12), (13, .int x13)]) hx hb dL_isSo_333 hl (by decide) rfl (fun ls hl => ?_)
      obtain ⟨v44, ev44⟩ : ∃ z : Int32, z = x13 + 1 := ⟨_, rfl⟩
      refine lv_iinc (v := v44) (lv' := [(13, .int v44), (7, .int s0), (0, .ref xx), (1, .ref (la 0)), (2, .ref (la 1)), (4, .ref (la 3)), (5, .ref (la 4)), (6, .ref (la 5)), (8, .ref sa), (9, .ref sb), (10, .int x10), (11, .int x11), (12, .int x12)]) hx hb dL_isSo_335 hl (k := 12) rfl (by rw [ev44]; rfl) (by decide) rfl (fun ls hl => ?_)
      have hF := nm_use hF ev44
      refine lv_goto (tgt := 294) hx hb dL_isSo_338 (by decide) ?_
      exact ihn N s0 v44 _ _ _ hF hP hS (lv_sub hl [2, 3, 4, 5, 6, 7, 1, 8, 9, 10, 11, 12, 0] rfl) after
    have j332 : ∀ (N : XSm) (x13 : Int32) (H : Heap) (locs : List Loc) (ls : Array Slot), fL_isSo2_j332 x10 x11 x12 kk (fL_isSo2_l294 x10 x11 x12 kk fu) N x13 = some (r, M') → va_P D vwCl (wXS cI cS xx xd xo hh ha z zn q la sa sb N) H → va_S A s.heap H locs → lv_has ls 15 [(0, .ref xx), (1, .ref (la 0)), (2, .ref (la 1)), (4, .ref (la 3)), (5, .ref (la 4)), (6, .ref (la 5)), (8, .ref sa), (9, .ref sb), (10, .int x10), (11, .int x11), (12, .int x12), (13, .int x13)] → W p l e rmL_isSo s m args below meth c H locs 2 11 (MQ below (qI D r (wXL cI cS xx xd xo hh ha z zn q la M'.1) A) args s 2 11 A) (F0 m 332 ls []) := by
      intro N x13 H locs ls hF hP hS hl
      refine lv_iconst (v := 0) hx hb dL_isSo_332 (by decide) ?_
      exact j333 N x13 0 _ _ _ hF hP hS (lv_sub hl [0, 1, 2, 3, 4, 5, 6, 7, 8, 9, 10, 11] rfl)
    refine lv_iload hx hb dL_isSo_294 (lv_at hl 12 rfl) ?_
    refine lv_bipush (v := 6) hx hb dL_isSo_296 (by decide) ?_
    refine lv_icmp_ge (tgt := 341) hx hb dL_isSo_298 (by decide) (fun c42 => ?_) (fun c42 => ?_)
    · have hF := it_t hF c42
      exact after N x7 _ _ _ hF hP hS (lv_sub hl [0, 1, 2, 3, 4, 5, 6, 7, 8, 9, 10, 11] rfl)
    · have hF := it_f hF c42
      refine lv_iload hx hb dL_isSo_301 (lv_at hl 6 rfl) ?_
      refine lv_if_eq (tgt := 332) hx hb dL_isSo_303 (by decide) (fun c43 => ?_) (fun c43 => ?_)
      · have hF := it_t hF c43
        exact j332 N x13 _ _ _ hF hP hS (lv_sub hl [0, 1, 2, 3, 4, 5, 7, 8, 9, 10, 11, 12] rfl)
      · have hF := it_f hF c43
        refine lv_aload_n hx hb dL_isSo_306 rfl (lv_at hl 0 rfl) ?_
        refine lv_iload hx hb dL_isSo_307 (lv_at hl 9 rfl) ?_
        refine lv_iload hx hb dL_isSo_309 (lv_at hl 12 rfl) ?_
        obtain ⟨r46, M45, hM45, hF⟩ := b2_use hF
        refine clx_VI ⟨hx, hb, hml, hown, htb⟩ (kX8_booking l D cS g cI xx xd xo hh ha z zn q (N.1.1) x10 x13 _ _ hM45) (cwV 2 htb (gX8_booking bw3_35) rfl rfl rfl hdX8_booking ⟨Nat.le_of_ble_eq_true rfl, Nat.le_of_ble_eq_true rfl⟩) hK (hDa _) hG hA hP hS (sg_XS_XX cI cS xx xd xo hh ha z zn q la sa sb N M45) hl.1 rfl 0 (pXX_0 _ _ _ _ _ _ _ _ _ _ _) rfl rfl (Nat.le_of_ble_eq_true rfl) ⟨Nat.le_of_ble_eq_true rfl, Nat.le_of_ble_eq_true rfl⟩ dL_isSo_311 (fun H locs hP hS => ?_)
        obtain ⟨M47, eM47⟩ : ∃ z : XSm, z = ((M45, N.1.2), N.2) := ⟨_, rfl⟩
        have hF := nm_use hF eM47
        have hP : va_P D vwCl (wXS cI cS xx xd xo hh ha z zn q la sa sb M47) H := by rw [eM47]; exact hP
        refine lv_aload hx hb dL_isSo_314 (lv_at hl 3 rfl) ?_
        refine lv_bipush (v := 9) hx hb dL_isSo_316 (by decide) ?_
        refine lv_iload hx hb dL_isSo_318 (lv_at hl 9 rfl) ?_
        refine lv_imul hx hb dL_isSo_320 ?_
        refine lv_iload hx hb dL_isSo_321 (lv_at hl 12 rfl) ?_
        refine lv_iadd hx hb dL_isSo_323 ?_
        obtain ⟨hi, hF⟩ := rd_use hF
        refine va_iald hx hb hK hP 5 0 (pXS_5 cI cS xx xd xo hh ha z zn q la sa sb M47) rfl hi dL_isSo_324 ?_
        refine lv_topi (fun v48 ev48 => ?_)
        have hF := hF v48 ev48
        refine lv_icmp_ne (tgt := 332) hx hb dL_isSo_325 (by decide) (fun c49 => ?_) (fun c49 => ?_)
        · have hF := it_f hF c49
          exact j332 M47 x13 _ _ _ hF hP hS (lv_sub hl [0, 1, 2, 3, 4, 5, 7, 8, 9, 10, 11, 12] rfl)
        · have hF := it_t hF c49
          refine lv_iconst (v := 1) hx hb dL_isSo_328 (by decide) ?_
          refine lv_goto (tgt := 333) hx hb dL_isSo_329 (by decide) ?_
          exact j333 M47 x13 1 _ _ _ hF hP hS (lv_sub hl [0, 1, 2, 3, 4, 5, 7, 8, 9, 10, 11, 12] rfl)
set_option maxHeartbeats 4000000 in
set_option maxRecDepth 100000 in
theorem tL_isSo2_l210 (l : Launch) (D : va_G) (cS : ClassId) (g : Nat → Nat) (cI : ClassId) (xx xd xo hh ha : Nat) (z : Nat → Nat → Nat) (zn q : Nat → Nat) (la : Nat → Nat) (sa sb : Nat) (r : Int32) (M' : XSm) {p : Program} {e : Env} {s : State} {m : MethodId} {args : Array Value} {below : List Frame} {meth : Method} {c : Code} {A : Nat → Prop} (C : CX p s m args meth c A D cI cS g cL_isSo 15 (some .boolean) RL) (hDa : ∀ N, va_D A (wXS cI cS xx xd xo hh ha z zn q la sa sb N)) : ∀ (kk : XSm → Int32 → Option (Int32 × XSm)) (fu : Nat) (N : XSm) (x7 : Int32) (x10 : Int32) (H : Heap) (locs : List Loc) (ls : Array Slot), fL_isSo2_l210 kk fu N x7 x10 = some (r, M') → va_P D vwCl (wXS cI cS xx xd xo hh ha z zn q la sa sb N) H → va_S A s.heap H locs → lv_has ls 15 [(0, .ref xx), (1, .ref (la 0)), (2, .ref (la 1)), (4, .ref (la 3)), (5, .ref (la 4)), (6, .ref (la 5)), (7, .int x7), (8, .ref sa), (9, .ref sb), (10, .int x10)] → (∀ (N : XSm) (x7 : Int32) (H : Heap) (locs : List Loc) (ls : Array Slot), kk N x7 = some (r, M') → va_P D vwCl (wXS cI cS xx xd xo hh ha z zn q la sa sb N) H → va_S A s.heap H locs → lv_has ls 15 [(0, .ref xx), (1, .ref (la 0)), (2, .ref (la 1)), (5, .ref (la 4)), (6, .ref (la 5)), (7, .int x7), (8, .ref sa), (9, .ref sb)] → W p l e rmL_isSo s m args below meth c H locs 2 11 (MQ below (qI D r (wXL cI cS xx xd xo hh ha z zn q la M'.1) A) args s 2 11 A) (F0 m 551 ls [])) → W p l e rmL_isSo s m args below meth c H locs 2 11 (MQ below (qI D r (wXL cI cS xx xd xo hh ha z zn q la M'.1) A) args s 2 11 A) (F0 m 210 ls []) := by
  obtain ⟨hx, hb, hr, hml, hlocks, hown, htb, hA, hK, hG⟩ := id C
  intro kk fu
  induction fu with
  | zero => intro N x7 x10 H locs ls hF; exact nn_use hF
  | succ fu ihn =>
    intro N x7 x10 H locs ls hF hP hS hl after
    rw [fL_isSo2_l210_s] at hF
    have j454 : ∀ (N : XSm) (x10 : Int32) (x12 : Int32) (s0 : Int32) (H : Heap) (locs : List Loc) (ls : Array Slot), fL_isSo2_j454 kk (fL_isSo2_l210 kk fu) N x10 x12 s0 = some (r, M') → va_P D vwCl (wXS cI cS xx xd xo hh ha z zn q la sa sb N) H → va_S A s.heap H locs → lv_has ls 15 [(0, .ref xx), (1, .ref (la 0)), (2, .ref (la 1)), (4, .ref (la 3)), (5, .ref (la 4)), (6, .ref (la 5)), (8, .ref sa), (9, .ref sb), (10, .int x10), (12, .int x12)] → W p l e rmL_isSo s m args below meth c H locs 2 11 (MQ below (qI D r (wXL cI cS xx xd xo hh ha z zn q la M'.1) A) args s 2 11 A) (F0 m 454 ls [.int s0]) := by
      intro N x10 x12 s0 H locs ls hF hP hS hl
      refine lv_istore (lv' := [(7, .int s0), (0, .ref xx), (1, .ref (la 0)), (2, .ref (la 1)), (4, .ref (la 3)), (5, .ref (la 4)), (6, .ref (la 5)), (8, .ref sa), (9, .ref sb), (10, .int x10), (12, .int x12)]) hx hb dL_isSo_454 hl (by decide) rfl (fun ls hl => ?_)
      refine lv_aload hx hb dL_isSo_456 (lv_at hl 7 rfl) ?_
      refine lv_aload hx hb dL_isSo_458 (lv_at hl 4 rfl) ?_
      refine lv_bipush (v := 9) hx hb dL_isSo_460 (by decide) ?_
      refine lv_iload hx hb dL_isSo_462 (lv_at hl 9 rfl) ?_
      refine lv_imul hx hb dL_isSo_464 ?_
      refine lv_iconst (v := 3) hx hb dL_isSo_465 (by decide) ?_
      refine lv_iadd hx hb dL_isSo_466 ?_
      obtain ⟨hi, hF⟩ := rd_use hF
      refine va_iald hx hb hK hP 5 0 (pXS_5 cI cS xx xd xo hh ha z zn q la sa sb N) rfl hi dL_isSo_467 ?_
      refine lv_topi (fun v53 ev53 => ?_)
      have hF := hF v53 ev53
      refine lv_dup2_11 hx hb dL_isSo_468 rfl rfl ?_
      obtain ⟨hi, hF⟩ := rd_use hF
      refine va_iald hx hb hK hP 0 0 (pXS_0 cI cS xx xd xo hh ha z zn q la sa sb N) rfl hi dL_isSo_469 ?_
      refine lv_topi (fun v54 ev54 => ?_)
      have hF := hF v54 ev54
      refine lv_iconst (v := 1) hx hb dL_isSo_470 (by decide) ?_
      refine lv_iadd hx hb dL_isSo_471 ?_
      obtain ⟨hi, hF⟩ := wr_use hF
      refine va_iast hx hb hK hP (hDa _) hS 0 0 (pXS_0 cI cS xx xd xo hh ha z zn q la sa sb N) rfl hi dL_isSo_472 (fun H locs hP _ hS => ?_)
      obtain ⟨M56, eM56⟩ : ∃ z : XSm, z = (N.1, ((upd (N.2.1) (v53 : Int32).toNatClampNeg (v54 + 1)), N.2.2)) := ⟨_, rfl⟩
      have hF := nm_use hF eM56
      have hP : va_P D vwCl (wXS cI cS xx xd xo hh ha z zn q la sa sb M56) H := by rw [eM56]; exact hP
      refine lv_aload hx hb dL_isSo_473 (lv_at hl 8 rfl) ?_
      refine lv_iconst (v := 2) hx hb dL_isSo_475 (by decide) ?_
      refine lv_dup2_11 hx hb dL_isSo_476 rfl rfl ?_
      obtain ⟨hi, hF⟩ := rd_use hF
      refine va_iald hx hb hK hP 1 0 (pXS_1 cI cS xx xd xo hh ha z zn q la sa sb M56) rfl hi dL_isSo_477 ?_
      refine lv_topi (fun v57 ev57 => ?_)
      have hF := hF v57 ev57
      refine lv_aload hx hb dL_isSo_478 (lv_at hl 4 rfl) ?_
      refine lv_bipush (v := 9) hx hb dL_isSo_480 (by decide) ?_
      refine lv_iload hx hb dL_isSo_482 (lv_at hl 9 rfl) ?_
      refine lv_imul hx hb dL_isSo_484 ?_
      refine lv_iconst (v := 4) hx hb dL_isSo_485 (by decide) ?_
      refine lv_iadd hx hb dL_isSo_486 ?_
      obtain ⟨hi, hF⟩ := rd_use hF
      refine va_iald hx hb hK hP 5 0 (pXS_5 cI cS xx xd xo hh ha z zn q la sa sb M56) rfl hi dL_isSo_487 ?_
      refine lv_topi (fun v58 ev58 => ?_)
      have hF := hF v58 ev58
      refine lv_iadd hx hb dL_isSo_488 ?_
      obtain ⟨hi, hF⟩ := wr_use hF
      refine va_iast hx hb hK hP (hDa _) hS 1 0 (pXS_1 cI cS xx xd xo hh ha z zn q la sa sb M56) rfl hi dL_isSo_489 (fun H locs hP _ hS => ?_)
      obtain ⟨M60, eM60⟩ : ∃ z : XSm, z = (M56.1, (M56.2.1, (upd (M56.2.2) (2 : Int32).toNatClampNeg (v57 + v58)))) := ⟨_, rfl⟩
      have hF := nm_use hF eM60
      have hP : va_P D vwCl (wXS cI cS xx xd xo hh ha z zn q la sa sb M60) H := by rw [eM60]; exact hP
      refine lv_aload hx hb dL_isSo_490 (lv_at hl 8 rfl) ?_
      refine lv_iconst (v := 3) hx hb dL_isSo_492 (by decide) ?_
      refine lv_dup2_11 hx hb dL_isSo_493 rfl rfl ?_
      obtain ⟨hi, hF⟩ := rd_use hF
      refine va_iald hx hb hK hP 1 0 (pXS_1 cI cS xx xd xo hh ha z zn q la sa sb M60) rfl hi dL_isSo_494 ?_
      refine lv_topi (fun v61 ev61 => ?_)
      have hF := hF v61 ev61
      refine lv_aload hx hb dL_isSo_495 (lv_at hl 4 rfl) ?_
      refine lv_bipush (v := 9) hx hb dL_isSo_497 (by decide) ?_
      refine lv_iload hx hb dL_isSo_499 (lv_at hl 9 rfl) ?_
      refine lv_imul hx hb dL_isSo_501 ?_
      refine lv_bipush (v := 6) hx hb dL_isSo_502 (by decide) ?_
      refine lv_iadd hx hb dL_isSo_504 ?_
      obtain ⟨hi, hF⟩ := rd_use hF
      refine va_iald hx hb hK hP 5 0 (pXS_5 cI cS xx xd xo hh ha z zn q la sa sb M60) rfl hi dL_isSo_505 ?_
      refine lv_topi (fun v62 ev62 => ?_)
      have hF := hF v62 ev62
      refine lv_iadd hx hb dL_isSo_506 ?_
      obtain ⟨hi, hF⟩ := wr_use hF
      refine va_iast hx hb hK hP (hDa _) hS 1 0 (pXS_1 cI cS xx xd xo hh ha z zn q la sa sb M60) rfl hi dL_isSo_507 (fun H locs hP _ hS => ?_)
      obtain ⟨M64, eM64⟩ : ∃ z : XSm, z = (M60.1, (M60.2.1, (upd (M60.2.2) (3 : Int32).toNatClampNeg (v61 + v62)))) := ⟨_, rfl⟩
      have hF := nm_use hF eM64
      have hP : va_P D vwCl (wXS cI cS xx xd xo hh ha z zn q la sa sb M64) H := by rw [eM64]; exact hP
      refine lv_aload hx hb dL_isSo_508 (lv_at hl 8 rfl) ?_
      refine lv_iconst (v := 4) hx hb dL_isSo_510 (by decide) ?_
      refine lv_dup2_11 hx hb dL_isSo_511 rfl rfl ?_
      obtain ⟨hi, hF⟩ := rd_use hF
      refine va_iald hx hb hK hP 1 0 (pXS_1 cI cS xx xd xo hh ha z zn q la sa sb M64) rfl hi dL_isSo_512 ?_
      refine lv_topi (fun v65 ev65 => ?_)
      have hF := hF v65 ev65
      refine lv_aload hx hb dL_isSo_513 (lv_at hl 4 rfl) ?_
      refine lv_bipush (v := 9) hx hb dL_isSo_515 (by decide) ?_
      refine lv_iload hx hb dL_isSo_517 (lv_at hl 9 rfl) ?_
      refine lv_imul hx hb dL_isSo_519 ?_
      refine lv_iconst (v := 5) hx hb dL_isSo_520 (by decide) ?_
      refine lv_iadd hx hb dL_isSo_521 ?_
      obtain ⟨hi, hF⟩ := rd_use hF
      refine va_iald hx hb hK hP 5 0 (pXS_5 cI cS xx xd xo hh ha z zn q la sa sb M64) rfl hi dL_isSo_522 ?_
      refine lv_topi (fun v66 ev66 => ?_)
      have hF := hF v66 ev66
      refine lv_iadd hx hb dL_isSo_523 ?_
      obtain ⟨hi, hF⟩ := wr_use hF
      refine va_iast hx hb hK hP (hDa _) hS 1 0 (pXS_1 cI cS xx xd xo hh ha z zn q la sa sb M64) rfl hi dL_isSo_524 (fun H locs hP _ hS => ?_)
      obtain ⟨M68, eM68⟩ : ∃ z : XSm, z = (M64.1, (M64.2.1, (upd (M64.2.2) (4 : Int32).toNatClampNeg (v65 + v66)))) := ⟨_, rfl⟩
      have hF := nm_use hF eM68
      have hP : va_P D vwCl (wXS cI cS xx xd xo hh ha z zn q la sa sb M68) H := by rw [eM68]; exact hP
      refine lv_aload hx hb dL_isSo_525 (lv_at hl 8 rfl) ?_
      refine lv_iconst (v := 5) hx hb dL_isSo_527 (by decide) ?_
      refine lv_dup2_11 hx hb dL_isSo_528 rfl rfl ?_
      obtain ⟨hi, hF⟩ := rd_use hF
      refine va_iald hx hb hK hP 1 0 (pXS_1 cI cS xx xd xo hh ha z zn q la sa sb M68) rfl hi dL_isSo_529 ?_
      refine lv_topi (fun v69 ev69 => ?_)
      have hF := hF v69 ev69
      refine lv_iload hx hb dL_isSo_530 (lv_at hl 10 rfl) ?_
      refine lv_aload hx hb dL_isSo_532 (lv_at hl 4 rfl) ?_
      refine lv_bipush (v := 9) hx hb dL_isSo_534 (by decide) ?_
      refine lv_iload hx hb dL_isSo_536 (lv_at hl 9 rfl) ?_
      refine lv_imul hx hb dL_isSo_538 ?_
      refine lv_iconst (v := 5) hx hb dL_isSo_539 (by decide) ?_
      refine lv_iadd hx hb dL_isSo_540 ?_
      obtain ⟨hi, hF⟩ := rd_use hF
      refine va_iald hx hb hK hP 5 0 (pXS_5 cI cS xx xd xo hh ha z zn q la sa sb M68) rfl hi dL_isSo_541 ?_
      refine lv_topi (fun v70 ev70 => ?_)
      have hF := hF v70 ev70
      refine lv_isub hx hb dL_isSo_542 ?_
      refine lv_iadd hx hb dL_isSo_543 ?_
      obtain ⟨hi, hF⟩ := wr_use hF
      refine va_iast hx hb hK hP (hDa _) hS 1 0 (pXS_1 cI cS xx xd xo hh ha z zn q la sa sb M68) rfl hi dL_isSo_544 (fun H locs hP _ hS => ?_)
      obtain ⟨M72, eM72⟩ : ∃ z : XSm, z = (M68.1, (M68.2.1, (upd (M68.2.2) (5 : Int32).toNatClampNeg (v69 + (x12 - v70))))) := ⟨_, rfl⟩
      have hF := nm_use hF eM72
      have hP : va_P D vwCl (wXS cI cS xx xd xo hh ha z zn q la sa sb M72) H := by rw [eM72]; exact hP
      obtain ⟨v73, ev73⟩ : ∃ z : Int32, z = x10 + 1 := ⟨_, rfl⟩
      refine lv_iinc (v := v73) (lv' := [(10, .int v73), (7, .int s0), (0, .ref xx), (1, .ref (la 0)), (2, .ref (la 1)), (4, .ref (la 3)), (5, .ref (la 4)), (6, .ref (la 5)), (8, .ref sa), (9, .ref sb), (12, .int x12)]) hx hb dL_isSo_545 hl (k := 9) rfl (by rw [ev73]; rfl) (by decide) rfl (fun ls hl => ?_)
      have hF := nm_use hF ev73
      refine lv_goto (tgt := 210) hx hb dL_isSo_548 (by decide) ?_
      exact ihn M72 s0 v73 _ _ _ hF hP hS (lv_sub hl [2, 3, 4, 5, 6, 7, 1, 8, 9, 0] rfl) after
    have j453 : ∀ (N : XSm) (x10 : Int32) (x12 : Int32) (H : Heap) (locs : List Loc) (ls : Array Slot), fL_isSo2_j453 kk (fL_isSo2_l210 kk fu) N x10 x12 = some (r, M') → va_P D vwCl (wXS cI cS xx xd xo hh ha z zn q la sa sb N) H → va_S A s.heap H locs → lv_has ls 15 [(0, .ref xx), (1, .ref (la 0)), (2, .ref (la 1)), (4, .ref (la 3)), (5, .ref (la 4)), (6, .ref (la 5)), (8, .ref sa), (9, .ref sb), (10, .int x10), (12, .int x12)] → W p l e rmL_isSo s m args below meth c H locs 2 11 (MQ below (qI D r (wXL cI cS xx xd xo hh ha z zn q la M'.1) A) args s 2 11 A) (F0 m 453 ls []) := by
      intro N x10 x12 H locs ls hF hP hS hl
      refine lv_iconst (v := 0) hx hb dL_isSo_453 (by decide) ?_
      exact j454 N x10 x12 0 _ _ _ hF hP hS (lv_sub hl [0, 1, 2, 3, 4, 5, 6, 7, 8, 9] rfl)
    refine lv_iload hx hb dL_isSo_210 (lv_at hl 9 rfl) ?_
    refine lv_aload_n hx hb dL_isSo_212 rfl (lv_at hl 1 rfl) ?_
    refine lv_iconst (v := 1) hx hb dL_isSo_213 (by decide) ?_
    obtain ⟨hi, hF⟩ := rd_use hF
    refine va_iald hx hb hK hP 2 0 (pXS_2 cI cS xx xd xo hh ha z zn q la sa sb N) rfl hi dL_isSo_214 ?_
    refine lv_topi (fun v28 ev28 => ?_)
    have hF := hF v28 ev28
    refine lv_icmp_ge (tgt := 551) hx hb dL_isSo_215 (by decide) (fun c29 => ?_) (fun c29 => ?_)
    · have hF := it_t hF c29
      exact after N x7 _ _ _ hF hP hS (lv_sub hl [0, 1, 2, 4, 5, 6, 7, 8] rfl)
    · have hF := it_f hF c29
      refine lv_iload hx hb dL_isSo_218 (lv_at hl 6 rfl) ?_
      refine lv_if_eq (tgt := 551) hx hb dL_isSo_220 (by decide) (fun c30 => ?_) (fun c30 => ?_)
      · have hF := it_t hF c30
        exact after N x7 _ _ _ hF hP hS (lv_sub hl [0, 1, 2, 4, 5, 6, 7, 8] rfl)
      · have hF := it_f hF c30
        refine lv_iconst (v := 0) hx hb dL_isSo_223 (by decide) ?_
        refine lv_istore (lv' := [(11, .int 0), (0, .ref xx), (1, .ref (la 0)), (2, .ref (la 1)), (4, .ref (la 3)), (5, .ref (la 4)), (6, .ref (la 5)), (7, .int x7), (8, .ref sa), (9, .ref sb), (10, .int x10)]) hx hb dL_isSo_224 hl (by decide) rfl (fun ls hl => ?_)
        refine lv_aload_n hx hb dL_isSo_226 rfl (lv_at hl 2 rfl) ?_
        refine lv_aload hx hb dL_isSo_227 (lv_at hl 4 rfl) ?_
        refine lv_aload hx hb dL_isSo_229 (lv_at hl 5 rfl) ?_
        refine lv_iload hx hb dL_isSo_231 (lv_at hl 10 rfl) ?_
        obtain ⟨r31, hr31, hF⟩ := bd_use hF
        refine clx_SI ⟨hx, hb, hml, hown, htb⟩ (kL_paid l D cS g cI la (N.1.2) x10 _ hr31) (va_cwS 4 htb (gL_paid bw3_10) rfl rfl rfl hdL_paid ⟨Nat.le_of_ble_eq_true rfl, Nat.le_of_ble_eq_true rfl⟩) hK (hDa _) hG hA hP hS (sr_XS_LA cI cS xx xd xo hh ha z zn q la sa sb N) hl.1 rfl rfl (Nat.le_of_ble_eq_true rfl) ⟨Nat.le_of_ble_eq_true rfl, Nat.le_of_ble_eq_true rfl⟩ dL_isSo_233 (fun H locs hP hS => ?_)
        refine lv_istore (lv' := [(12, .int r31), (11, .int 0), (0, .ref xx), (1, .ref (la 0)), (2, .ref (la 1)), (4, .ref (la 3)), (5, .ref (la 4)), (6, .ref (la 5)), (7, .int x7), (8, .ref sa), (9, .ref sb), (10, .int x10)]) hx hb dL_isSo_236 hl (by decide) rfl (fun ls hl => ?_)
        refine lv_iconst (v := 0) hx hb dL_isSo_238 (by decide) ?_
        refine lv_istore (lv' := [(13, .int 0), (12, .int r31), (11, .int 0), (0, .ref xx), (1, .ref (la 0)), (2, .ref (la 1)), (4, .ref (la 3)), (5, .ref (la 4)), (6, .ref (la 5)), (7, .int x7), (8, .ref sa), (9, .ref sb), (10, .int x10)]) hx hb dL_isSo_239 hl (by decide) rfl (fun ls hl => ?_)
        refine tL_isSo2_l241 l D cS g cI xx xd xo hh ha z zn q la sa sb r M' C hDa x7 x10 r31 _ _ N 0 0 _ _ _ hF hP hS (lv_sub hl [3, 4, 5, 6, 7, 8, 9, 10, 11, 12, 2, 1, 0] rfl) ?_
        · intro M41 y40 H locs ls hF hP hS hl
          refine lv_iconst (v := 0) hx hb dL_isSo_291 (by decide) ?_
          refine lv_istore (lv' := [(13, .int 0), (0, .ref xx), (1, .ref (la 0)), (2, .ref (la 1)), (4, .ref (la 3)), (5, .ref (la 4)), (6, .ref (la 5)), (7, .int x7), (8, .ref sa), (9, .ref sb), (10, .int x10), (11, .int y40), (12, .int r31)]) hx hb dL_isSo_292 hl (by decide) rfl (fun ls hl => ?_)
          refine tL_isSo2_l294 l D cS g cI xx xd xo hh ha z zn q la sa sb r M' C hDa x10 y40 r31 _ _ M41 x7 0 _ _ _ hF hP hS (lv_sub hl [1, 2, 3, 4, 5, 6, 7, 8, 9, 10, 11, 12, 0] rfl) ?_
          · intro M51 y50 H locs ls hF hP hS hl
            refine lv_iload hx hb dL_isSo_341 (lv_at hl 6 rfl) ?_
            refine lv_if_eq (tgt := 453) hx hb dL_isSo_343 (by decide) (fun c52 => ?_) (fun c52 => ?_)
            · have hF := it_t hF c52
              exact j453 M51 x10 r31 _ _ _ hF hP hS (lv_sub hl [0, 1, 2, 3, 4, 5, 7, 8, 9, 11] rfl)
            · have hF := it_f hF c52
              refine lv_aload_n hx hb dL_isSo_346 rfl (lv_at hl 0 rfl) ?_
              refine lv_iload hx hb dL_isSo_347 (lv_at hl 9 rfl) ?_
              refine lv_bipush (v := 6) hx hb dL_isSo_349 (by decide) ?_
              obtain ⟨r75, M74, hM74, hF⟩ := b2_use hF
              refine clx_VI ⟨hx, hb, hml, hown, htb⟩ (kX8_booking l D cS g cI xx xd xo hh ha z zn q (M51.1.1) x10 6 _ _ hM74) (cwV 2 htb (gX8_booking bw3_35) rfl rfl rfl hdX8_booking ⟨Nat.le_of_ble_eq_true rfl, Nat.le_of_ble_eq_true rfl⟩) hK (hDa _) hG hA hP hS (sg_XS_XX cI cS xx xd xo hh ha z zn q la sa sb M51 M74) hl.1 rfl 0 (pXX_0 _ _ _ _ _ _ _ _ _ _ _) rfl rfl (Nat.le_of_ble_eq_true rfl) ⟨Nat.le_of_ble_eq_true rfl, Nat.le_of_ble_eq_true rfl⟩ dL_isSo_351 (fun H locs hP hS => ?_)
              obtain ⟨M76, eM76⟩ : ∃ z : XSm, z = ((M74, M51.1.2), M51.2) := ⟨_, rfl⟩
              have hF := nm_use hF eM76
              have hP : va_P D vwCl (wXS cI cS xx xd xo hh ha z zn q la sa sb M76) H := by rw [eM76]; exact hP
              refine lv_iload hx hb dL_isSo_354 (lv_at hl 11 rfl) ?_
              refine lv_aload hx hb dL_isSo_356 (lv_at hl 3 rfl) ?_
              refine lv_bipush (v := 9) hx hb dL_isSo_358 (by decide) ?_
              refine lv_iload hx hb dL_isSo_360 (lv_at hl 9 rfl) ?_
              refine lv_imul hx hb dL_isSo_362 ?_
              refine lv_iconst (v := 5) hx hb dL_isSo_363 (by decide) ?_
              refine lv_iadd hx hb dL_isSo_364 ?_
              obtain ⟨hi, hF⟩ := rd_use hF
              refine va_iald hx hb hK hP 5 0 (pXS_5 cI cS xx xd xo hh ha z zn q la sa sb M76) rfl hi dL_isSo_365 ?_
              refine lv_topi (fun v77 ev77 => ?_)
              have hF := hF v77 ev77
              refine lv_isub hx hb dL_isSo_366 ?_
              refine lv_icmp_ne (tgt := 453) hx hb dL_isSo_367 (by decide) (fun c78 => ?_) (fun c78 => ?_)
              · have hF := it_f hF c78
                exact j453 M76 x10 r31 _ _ _ hF hP hS (lv_sub hl [0, 1, 2, 3, 4, 5, 7, 8, 9, 11] rfl)
              · have hF := it_t hF c78
                refine lv_aload_n hx hb dL_isSo_370 rfl (lv_at hl 0 rfl) ?_
                refine lv_iload hx hb dL_isSo_371 (lv_at hl 9 rfl) ?_
                refine lv_bipush (v := 7) hx hb dL_isSo_373 (by decide) ?_
                obtain ⟨r80, M79, hM79, hF⟩ := b2_use hF
                refine clx_VI ⟨hx, hb, hml, hown, htb⟩ (kX8_booking l D cS g cI xx xd xo hh ha z zn q (M76.1.1) x10 7 _ _ hM79) (cwV 2 htb (gX8_booking bw3_35) rfl rfl rfl hdX8_booking ⟨Nat.le_of_ble_eq_true rfl, Nat.le_of_ble_eq_true rfl⟩) hK (hDa _) hG hA hP hS (sg_XS_XX cI cS xx xd xo hh ha z zn q la sa sb M76 M79) hl.1 rfl 0 (pXX_0 _ _ _ _ _ _ _ _ _ _ _) rfl rfl (Nat.le_of_ble_eq_true rfl) ⟨Nat.le_of_ble_eq_true rfl, Nat.le_of_ble_eq_true rfl⟩ dL_isSo_375 (fun H locs hP hS => ?_)
                obtain ⟨M81, eM81⟩ : ∃ z : XSm, z = ((M79, M76.1.2), M76.2) := ⟨_, rfl⟩
                have hF := nm_use hF eM81
                have hP : va_P D vwCl (wXS cI cS xx xd xo hh ha z zn q la sa sb M81) H := by rw [eM81]; exact hP
                refine lv_aload hx hb dL_isSo_378 (lv_at hl 3 rfl) ?_
                refine lv_bipush (v := 9) hx hb dL_isSo_380 (by decide) ?_
                refine lv_iload hx hb dL_isSo_382 (lv_at hl 9 rfl) ?_
                refine lv_imul hx hb dL_isSo_384 ?_
                refine lv_bipush (v := 6) hx hb dL_isSo_385 (by decide) ?_
                refine lv_iadd hx hb dL_isSo_387 ?_
                obtain ⟨hi, hF⟩ := rd_use hF
                refine va_iald hx hb hK hP 5 0 (pXS_5 cI cS xx xd xo hh ha z zn q la sa sb M81) rfl hi dL_isSo_388 ?_
                refine lv_topi (fun v82 ev82 => ?_)
                have hF := hF v82 ev82
                refine lv_icmp_ne (tgt := 453) hx hb dL_isSo_389 (by decide) (fun c83 => ?_) (fun c83 => ?_)
                · have hF := it_f hF c83
                  exact j453 M81 x10 r31 _ _ _ hF hP hS (lv_sub hl [0, 1, 2, 3, 4, 5, 7, 8, 9, 11] rfl)
                · have hF := it_t hF c83
                  refine lv_aload_n hx hb dL_isSo_392 rfl (lv_at hl 0 rfl) ?_
                  refine lv_iload hx hb dL_isSo_393 (lv_at hl 9 rfl) ?_
                  refine lv_bipush (v := 8) hx hb dL_isSo_395 (by decide) ?_
                  obtain ⟨r85, M84, hM84, hF⟩ := b2_use hF
                  refine clx_VI ⟨hx, hb, hml, hown, htb⟩ (kX8_booking l D cS g cI xx xd xo hh ha z zn q (M81.1.1) x10 8 _ _ hM84) (cwV 2 htb (gX8_booking bw3_35) rfl rfl rfl hdX8_booking ⟨Nat.le_of_ble_eq_true rfl, Nat.le_of_ble_eq_true rfl⟩) hK (hDa _) hG hA hP hS (sg_XS_XX cI cS xx xd xo hh ha z zn q la sa sb M81 M84) hl.1 rfl 0 (pXX_0 _ _ _ _ _ _ _ _ _ _ _) rfl rfl (Nat.le_of_ble_eq_true rfl) ⟨Nat.le_of_ble_eq_true rfl, Nat.le_of_ble_eq_true rfl⟩ dL_isSo_397 (fun H locs hP hS => ?_)
                  obtain ⟨M86, eM86⟩ : ∃ z : XSm, z = ((M84, M81.1.2), M81.2) := ⟨_, rfl⟩
                  have hF := nm_use hF eM86
                  have hP : va_P D vwCl (wXS cI cS xx xd xo hh ha z zn q la sa sb M86) H := by rw [eM86]; exact hP
                  refine lv_aload hx hb dL_isSo_400 (lv_at hl 3 rfl) ?_
                  refine lv_bipush (v := 9) hx hb dL_isSo_402 (by decide) ?_
                  refine lv_iload hx hb dL_isSo_404 (lv_at hl 9 rfl) ?_
                  refine lv_imul hx hb dL_isSo_406 ?_
                  refine lv_bipush (v := 7) hx hb dL_isSo_407 (by decide) ?_
                  refine lv_iadd hx hb dL_isSo_409 ?_
                  obtain ⟨hi, hF⟩ := rd_use hF
                  refine va_iald hx hb hK hP 5 0 (pXS_5 cI cS xx xd xo hh ha z zn q la sa sb M86) rfl hi dL_isSo_410 ?_
                  refine lv_topi (fun v87 ev87 => ?_)
                  have hF := hF v87 ev87
                  refine lv_icmp_ne (tgt := 453) hx hb dL_isSo_411 (by decide) (fun c88 => ?_) (fun c88 => ?_)
                  · have hF := it_f hF c88
                    exact j453 M86 x10 r31 _ _ _ hF hP hS (lv_sub hl [0, 1, 2, 3, 4, 5, 7, 8, 9, 11] rfl)
                  · have hF := it_t hF c88
                    refine lv_aload_n hx hb dL_isSo_414 rfl (lv_at hl 0 rfl) ?_
                    refine lv_iload hx hb dL_isSo_415 (lv_at hl 9 rfl) ?_
                    refine lv_bipush (v := 9) hx hb dL_isSo_417 (by decide) ?_
                    obtain ⟨r90, M89, hM89, hF⟩ := b2_use hF
                    refine clx_VI ⟨hx, hb, hml, hown, htb⟩ (kX8_booking l D cS g cI xx xd xo hh ha z zn q (M86.1.1) x10 9 _ _ hM89) (cwV 2 htb (gX8_booking bw3_35) rfl rfl rfl hdX8_booking ⟨Nat.le_of_ble_eq_true rfl, Nat.le_of_ble_eq_true rfl⟩) hK (hDa _) hG hA hP hS (sg_XS_XX cI cS xx xd xo hh ha z zn q la sa sb M86 M89) hl.1 rfl 0 (pXX_0 _ _ _ _ _ _ _ _ _ _ _) rfl rfl (Nat.le_of_ble_eq_true rfl) ⟨Nat.le_of_ble_eq_true rfl, Nat.le_of_ble_eq_true rfl⟩ dL_isSo_419 (fun H locs hP hS => ?_)
                    obtain ⟨M91, eM91⟩ : ∃ z : XSm, z = ((M89, M86.1.2), M86.2) := ⟨_, rfl⟩
                    have hF := nm_use hF eM91
                    have hP : va_P D vwCl (wXS cI cS xx xd xo hh ha z zn q la sa sb M91) H := by rw [eM91]; exact hP
                    refine lv_aload hx hb dL_isSo_422 (lv_at hl 3 rfl) ?_
                    refine lv_bipush (v := 9) hx hb dL_isSo_424 (by decide) ?_
                    refine lv_iload hx hb dL_isSo_426 (lv_at hl 9 rfl) ?_
                    refine lv_imul hx hb dL_isSo_428 ?_
                    refine lv_bipush (v := 8) hx hb dL_isSo_429 (by decide) ?_
                    refine lv_iadd hx hb dL_isSo_431 ?_
                    obtain ⟨hi, hF⟩ := rd_use hF
                    refine va_iald hx hb hK hP 5 0 (pXS_5 cI cS xx xd xo hh ha z zn q la sa sb M91) rfl hi dL_isSo_432 ?_
                    refine lv_topi (fun v92 ev92 => ?_)
                    have hF := hF v92 ev92
                    refine lv_icmp_ne (tgt := 453) hx hb dL_isSo_433 (by decide) (fun c93 => ?_) (fun c93 => ?_)
                    · have hF := it_f hF c93
                      exact j453 M91 x10 r31 _ _ _ hF hP hS (lv_sub hl [0, 1, 2, 3, 4, 5, 7, 8, 9, 11] rfl)
                    · have hF := it_t hF c93
                      refine lv_aload_n hx hb dL_isSo_436 rfl (lv_at hl 0 rfl) ?_
                      refine lv_iload hx hb dL_isSo_437 (lv_at hl 9 rfl) ?_
                      refine lv_bipush (v := 10) hx hb dL_isSo_439 (by decide) ?_
                      obtain ⟨r95, M94, hM94, hF⟩ := b2_use hF
                      refine clx_VI ⟨hx, hb, hml, hown, htb⟩ (kX8_booking l D cS g cI xx xd xo hh ha z zn q (M91.1.1) x10 10 _ _ hM94) (cwV 2 htb (gX8_booking bw3_35) rfl rfl rfl hdX8_booking ⟨Nat.le_of_ble_eq_true rfl, Nat.le_of_ble_eq_true rfl⟩) hK (hDa _) hG hA hP hS (sg_XS_XX cI cS xx xd xo hh ha z zn q la sa sb M91 M94) hl.1 rfl 0 (pXX_0 _ _ _ _ _ _ _ _ _ _ _) rfl rfl (Nat.le_of_ble_eq_true rfl) ⟨Nat.le_of_ble_eq_true rfl, Nat.le_of_ble_eq_true rfl⟩ dL_isSo_441 (fun H locs hP hS => ?_)
                      obtain ⟨M96, eM96⟩ : ∃ z : XSm, z = ((M94, M91.1.2), M91.2) := ⟨_, rfl⟩
                      have hF := nm_use hF eM96
                      have hP : va_P D vwCl (wXS cI cS xx xd xo hh ha z zn q la sa sb M96) H := by rw [eM96]; exact hP
                      refine lv_iload hx hb dL_isSo_444 (lv_at hl 10 rfl) ?_
                      refine lv_icmp_ne (tgt := 453) hx hb dL_isSo_446 (by decide) (fun c97 => ?_) (fun c97 => ?_)
                      · have hF := it_f hF c97
                        exact j453 M96 x10 r31 _ _ _ hF hP hS (lv_sub hl [0, 1, 2, 3, 4, 5, 7, 8, 9, 11] rfl)
                      · have hF := it_t hF c97
                        refine lv_iconst (v := 1) hx hb dL_isSo_449 (by decide) ?_
                        refine lv_goto (tgt := 454) hx hb dL_isSo_450 (by decide) ?_
                        exact j454 M96 x10 r31 1 _ _ _ hF hP hS (lv_sub hl [0, 1, 2, 3, 4, 5, 7, 8, 9, 11] rfl)
set_option maxHeartbeats 4000000 in
set_option maxRecDepth 100000 in
theorem tL_isSo2_l587 (l : Launch) (D : va_G) (cS : ClassId) (g : Nat → Nat) (cI : ClassId) (xx xd xo hh ha : Nat) (z : Nat → Nat → Nat) (zn q : Nat → Nat) (la : Nat → Nat) (sa sb : Nat) (r : Int32) (M' : XSm) {p : Program} {e : Env} {s : State} {m : MethodId} {args : Array Value} {below : List Frame} {meth : Method} {c : Code} {A : Nat → Prop} (C : CX p s m args meth c A D cI cS g cL_isSo 15 (some .boolean) RL) (hDa : ∀ N, va_D A (wXS cI cS xx xd xo hh ha z zn q la sa sb N)) : ∀ (x10 : Int32) (x11 : Int32) (x12 : Int32) (kk : XSm → Int32 → Option (Int32 × XSm)) (fu : Nat) (N : XSm) (x13 : Int32) (x14 : Int32) (H : Heap) (locs : List Loc) (ls : Array Slot), fL_isSo2_l587 x10 x11 x12 kk fu N x13 x14 = some (r, M') → va_P D vwCl (wXS cI cS xx xd xo hh ha z zn q la sa sb N) H → va_S A s.heap H locs → lv_has ls 15 [(0, .ref xx), (1, .ref (la 0)), (2, .ref (la 1)), (5, .ref (la 4)), (6, .ref (la 5)), (8, .ref sa), (9, .ref sb), (10, .int x10), (11, .int x11), (12, .int x12), (13, .int x13), (14, .int x14)] → (∀ (N : XSm) (x13 : Int32) (H : Heap) (locs : List Loc) (ls : Array Slot), kk N x13 = some (r, M') → va_P D vwCl (wXS cI cS xx xd xo hh ha z zn q la sa sb N) H → va_S A s.heap H locs → lv_has ls 15 [(0, .ref xx), (1, .ref (la 0)), (2, .ref (la 1)), (5, .ref (la 4)), (6, .ref (la 5)), (8, .ref sa), (9, .ref sb), (10, .int x10), (11, .int x11), (12, .int x12), (13, .int x13)] → W p l e rmL_isSo s m args below meth c H locs 2 11 (MQ below (qI D r (wXL cI cS xx xd xo hh ha z zn q la M'.1) A) args s 2 11 A) (F0 m 651 ls [])) → W p l e rmL_isSo s m args below meth c H locs 2 11 (MQ below (qI D r (wXL cI cS xx xd xo hh ha z zn q la M'.1) A) args s 2 11 A) (F0 m 587 ls []) := by
  obtain ⟨hx, hb, hr, hml, hlocks, hown, htb, hA, hK, hG⟩ := id C
  intro x10 x11 x12 kk fu
  induction fu with
  | zero => intro N x13 x14 H locs ls hF; exact nn_use hF
  | succ fu ihn =>
    intro N x13 x14 H locs ls hF hP hS hl after
    rw [fL_isSo2_l587_s] at hF
    have j643 : ∀ (N : XSm) (x14 : Int32) (s0 : Int32) (H : Heap) (locs : List Loc) (ls : Array Slot), fL_isSo2_j643 x10 x11 x12 kk (fL_isSo2_l587 x10 x11 x12 kk fu) N x14 s0 = some (r, M') → va_P D vwCl (wXS cI cS xx xd xo hh ha z zn q la sa sb N) H → va_S A s.heap H locs → lv_has ls 15 [(0, .ref xx), (1, .ref (la 0)), (2, .ref (la 1)), (5, .ref (la 4)), (6, .ref (la 5)), (8, .ref sa), (9, .ref sb), (10, .int x10), (11, .int x11), (12, .int x12), (14, .int x14)] → W p l e rmL_isSo s m args below meth c H locs 2 11 (MQ below (qI D r (wXL cI cS xx xd xo hh ha z zn q la M'.1) A) args s 2 11 A) (F0 m 643 ls [.int s0]) := by
      intro N x14 s0 H locs ls hF hP hS hl
      refine lv_istore (lv' := [(13, .int s0), (0, .ref xx), (1, .ref (la 0)), (2, .ref (la 1)), (5, .ref (la 4)), (6, .ref (la 5)), (8, .ref sa), (9, .ref sb), (10, .int x10), (11, .int x11), (12, .int x12), (14, .int x14)]) hx hb dL_isSo_643 hl (by decide) rfl (fun ls hl => ?_)
      obtain ⟨v108, ev108⟩ : ∃ z : Int32, z = x14 + 1 := ⟨_, rfl⟩
      refine lv_iinc (v := v108) (lv' := [(14, .int v108), (13, .int s0), (0, .ref xx), (1, .ref (la 0)), (2, .ref (la 1)), (5, .ref (la 4)), (6, .ref (la 5)), (8, .ref sa), (9, .ref sb), (10, .int x10), (11, .int x11), (12, .int x12)]) hx hb dL_isSo_645 hl (k := 11) rfl (by rw [ev108]; rfl) (by decide) rfl (fun ls hl => ?_)
      have hF := nm_use hF ev108
      refine lv_goto (tgt := 587) hx hb dL_isSo_648 (by decide) ?_
      exact ihn N s0 v108 _ _ _ hF hP hS (lv_sub hl [2, 3, 4, 5, 6, 7, 8, 9, 10, 11, 1, 0] rfl) after
    have j638 : ∀ (N : XSm) (x14 : Int32) (H : Heap) (locs : List Loc) (ls : Array Slot), fL_isSo2_j638 x10 x11 x12 kk (fL_isSo2_l587 x10 x11 x12 kk fu) N x14 = some (r, M') → va_P D vwCl (wXS cI cS xx xd xo hh ha z zn q la sa sb N) H → va_S A s.heap H locs → lv_has ls 15 [(0, .ref xx), (1, .ref (la 0)), (2, .ref (la 1)), (5, .ref (la 4)), (6, .ref (la 5)), (8, .ref sa), (9, .ref sb), (10, .int x10), (11, .int x11), (12, .int x12), (14, .int x14)] → W p l e rmL_isSo s m args below meth c H locs 2 11 (MQ below (qI D r (wXL cI cS xx xd xo hh ha z zn q la M'.1) A) args s 2 11 A) (F0 m 638 ls []) := by
      intro N x14 H locs ls hF hP hS hl
      refine lv_iconst (v := 1) hx hb dL_isSo_638 (by decide) ?_
      refine lv_goto (tgt := 643) hx hb dL_isSo_639 (by decide) ?_
      exact j643 N x14 1 _ _ _ hF hP hS (lv_sub hl [0, 1, 2, 3, 4, 5, 6, 7, 8, 9, 10] rfl)
    have j642 : ∀ (N : XSm) (x14 : Int32) (H : Heap) (locs : List Loc) (ls : Array Slot), fL_isSo2_j642 x10 x11 x12 kk (fL_isSo2_l587 x10 x11 x12 kk fu) N x14 = some (r, M') → va_P D vwCl (wXS cI cS xx xd xo hh ha z zn q la sa sb N) H → va_S A s.heap H locs → lv_has ls 15 [(0, .ref xx), (1, .ref (la 0)), (2, .ref (la 1)), (5, .ref (la 4)), (6, .ref (la 5)), (8, .ref sa), (9, .ref sb), (10, .int x10), (11, .int x11), (12, .int x12), (14, .int x14)] → W p l e rmL_isSo s m args below meth c H locs 2 11 (MQ below (qI D r (wXL cI cS xx xd xo hh ha z zn q la M'.1) A) args s 2 11 A) (F0 m 642 ls []) := by
      intro N x14 H locs ls hF hP hS hl
      refine lv_iconst (v := 0) hx hb dL_isSo_642 (by decide) ?_
      exact j643 N x14 0 _ _ _ hF hP hS (lv_sub hl [0, 1, 2, 3, 4, 5, 6, 7, 8, 9, 10] rfl)
    refine lv_iload hx hb dL_isSo_587 (lv_at hl 11 rfl) ?_
    refine lv_aload_n hx hb dL_isSo_589 rfl (lv_at hl 1 rfl) ?_
    refine lv_iconst (v := 1) hx hb dL_isSo_590 (by decide) ?_
    obtain ⟨hi, hF⟩ := rd_use hF
    refine va_iald hx hb hK hP 2 0 (pXS_2 cI cS xx xd xo hh ha z zn q la sa sb N) rfl hi dL_isSo_591 ?_
    refine lv_topi (fun v105 ev105 => ?_)
    have hF := hF v105 ev105
    refine lv_icmp_ge (tgt := 651) hx hb dL_isSo_592 (by decide) (fun c106 => ?_) (fun c106 => ?_)
    · have hF := it_t hF c106
      exact after N x13 _ _ _ hF hP hS (lv_sub hl [0, 1, 2, 3, 4, 5, 6, 7, 8, 9, 10] rfl)
    · have hF := it_f hF c106
      refine lv_iload hx hb dL_isSo_595 (lv_at hl 10 rfl) ?_
      refine lv_if_ne (tgt := 638) hx hb dL_isSo_597 (by decide) (fun c107 => ?_) (fun c107 => ?_)
      · have hF := it_f hF c107
        exact j638 N x14 _ _ _ hF hP hS (lv_sub hl [0, 1, 2, 3, 4, 5, 6, 7, 8, 9, 11] rfl)
      · have hF := it_t hF c107
        refine lv_aload hx hb dL_isSo_600 (lv_at hl 3 rfl) ?_
        refine lv_iconst (v := 4) hx hb dL_isSo_602 (by decide) ?_
        refine lv_iload hx hb dL_isSo_603 (lv_at hl 11 rfl) ?_
        refine lv_imul hx hb dL_isSo_605 ?_
        refine lv_iconst (v := 2) hx hb dL_isSo_606 (by decide) ?_
        refine lv_iadd hx hb dL_isSo_607 ?_
        obtain ⟨hi, hF⟩ := rd_use hF
        refine va_iald hx hb hK hP 6 0 (pXS_6 cI cS xx xd xo hh ha z zn q la sa sb N) rfl hi dL_isSo_608 ?_
        refine lv_topi (fun v109 ev109 => ?_)
        have hF := hF v109 ev109
        refine lv_iload hx hb dL_isSo_609 (lv_at hl 9 rfl) ?_
        refine lv_icmp_ne (tgt := 642) hx hb dL_isSo_611 (by decide) (fun c110 => ?_) (fun c110 => ?_)
        · have hF := it_f hF c110
          exact j642 N x14 _ _ _ hF hP hS (lv_sub hl [0, 1, 2, 3, 4, 5, 6, 7, 8, 9, 11] rfl)
        · have hF := it_t hF c110
          refine lv_aload hx hb dL_isSo_614 (lv_at hl 3 rfl) ?_
          refine lv_iconst (v := 4) hx hb dL_isSo_616 (by decide) ?_
          refine lv_iload hx hb dL_isSo_617 (lv_at hl 11 rfl) ?_
          refine lv_imul hx hb dL_isSo_619 ?_
          obtain ⟨hi, hF⟩ := rd_use hF
          refine va_iald hx hb hK hP 6 0 (pXS_6 cI cS xx xd xo hh ha z zn q la sa sb N) rfl hi dL_isSo_620 ?_
          refine lv_topi (fun v111 ev111 => ?_)
          have hF := hF v111 ev111
          refine lv_iload hx hb dL_isSo_621 (lv_at hl 7 rfl) ?_
          refine lv_icmp_ne (tgt := 642) hx hb dL_isSo_623 (by decide) (fun c112 => ?_) (fun c112 => ?_)
          · have hF := it_f hF c112
            exact j642 N x14 _ _ _ hF hP hS (lv_sub hl [0, 1, 2, 3, 4, 5, 6, 7, 8, 9, 11] rfl)
          · have hF := it_t hF c112
            refine lv_aload hx hb dL_isSo_626 (lv_at hl 3 rfl) ?_
            refine lv_iconst (v := 4) hx hb dL_isSo_628 (by decide) ?_
            refine lv_iload hx hb dL_isSo_629 (lv_at hl 11 rfl) ?_
            refine lv_imul hx hb dL_isSo_631 ?_
            refine lv_iconst (v := 1) hx hb dL_isSo_632 (by decide) ?_
            refine lv_iadd hx hb dL_isSo_633 ?_
            obtain ⟨hi, hF⟩ := rd_use hF
            refine va_iald hx hb hK hP 6 0 (pXS_6 cI cS xx xd xo hh ha z zn q la sa sb N) rfl hi dL_isSo_634 ?_
            refine lv_topi (fun v113 ev113 => ?_)
            have hF := hF v113 ev113
            refine lv_if_le (tgt := 642) hx hb dL_isSo_635 (by decide) (fun c114 => ?_) (fun c114 => ?_)
            · have hF := it_t hF c114
              exact j642 N x14 _ _ _ hF hP hS (lv_sub hl [0, 1, 2, 3, 4, 5, 6, 7, 8, 9, 11] rfl)
            · have hF := it_f hF c114
              exact j638 N x14 _ _ _ hF hP hS (lv_sub hl [0, 1, 2, 3, 4, 5, 6, 7, 8, 9, 11] rfl)
set_option maxHeartbeats 4000000 in
set_option maxRecDepth 100000 in
theorem tL_isSo2_l573 (l : Launch) (D : va_G) (cS : ClassId) (g : Nat → Nat) (cI : ClassId) (xx xd xo hh ha : Nat) (z : Nat → Nat → Nat) (zn q : Nat → Nat) (la : Nat → Nat) (sa sb : Nat) (r : Int32) (M' : XSm) {p : Program} {e : Env} {s : State} {m : MethodId} {args : Array Value} {below : List Frame} {meth : Method} {c : Code} {A : Nat → Prop} (C : CX p s m args meth c A D cI cS g cL_isSo 15 (some .boolean) RL) (hDa : ∀ N, va_D A (wXS cI cS xx xd xo hh ha z zn q la sa sb N)) : ∀ (x10 : Int32) (kk : XSm → Int32 → Option (Int32 × XSm)) (fu : Nat) (N : XSm) (x11 : Int32) (x12 : Int32) (H : Heap) (locs : List Loc) (ls : Array Slot), fL_isSo2_l573 x10 kk fu N x11 x12 = some (r, M') → va_P D vwCl (wXS cI cS xx xd xo hh ha z zn q la sa sb N) H → va_S A s.heap H locs → lv_has ls 15 [(0, .ref xx), (1, .ref (la 0)), (2, .ref (la 1)), (5, .ref (la 4)), (6, .ref (la 5)), (8, .ref sa), (9, .ref sb), (10, .int x10), (11, .int x11), (12, .int x12)] → (∀ (N : XSm) (x11 : Int32) (H : Heap) (locs : List Loc) (ls : Array Slot), kk N x11 = some (r, M') → va_P D vwCl (wXS cI cS xx xd xo hh ha z zn q la sa sb N) H → va_S A s.heap H locs → lv_has ls 15 [(0, .ref xx), (1, .ref (la 0)), (2, .ref (la 1)), (5, .ref (la 4)), (6, .ref (la 5)), (8, .ref sa), (9, .ref sb), (10, .int x10), (11, .int x11)] → W p l e rmL_isSo s m args below meth c H locs 2 11 (MQ below (qI D r (wXL cI cS xx xd xo hh ha z zn q la M'.1) A) args s 2 11 A) (F0 m 672 ls [])) → W p l e rmL_isSo s m args below meth c H locs 2 11 (MQ below (qI D r (wXL cI cS xx xd xo hh ha z zn q la M'.1) A) args s 2 11 A) (F0 m 573 ls []) := by
  obtain ⟨hx, hb, hr, hml, hlocks, hown, htb, hA, hK, hG⟩ := id C
  intro x10 kk fu
  induction fu with
  | zero => intro N x11 x12 H locs ls hF; exact nn_use hF
  | succ fu ihn =>
    intro N x11 x12 H locs ls hF hP hS hl after
    rw [fL_isSo2_l573_s] at hF
    have j663 : ∀ (N : XSm) (x12 : Int32) (s0 : Int32) (s1 : Int32) (H : Heap) (locs : List Loc) (ls : Array Slot), fL_isSo2_j663 x10 kk (fL_isSo2_l573 x10 kk fu) N x12 s0 s1 = some (r, M') → va_P D vwCl (wXS cI cS xx xd xo hh ha z zn q la sa sb N) H → va_S A s.heap H locs → lv_has ls 15 [(0, .ref xx), (1, .ref (la 0)), (2, .ref (la 1)), (5, .ref (la 4)), (6, .ref (la 5)), (8, .ref sa), (9, .ref sb), (10, .int x10), (12, .int x12)] → W p l e rmL_isSo s m args below meth c H locs 2 11 (MQ below (qI D r (wXL cI cS xx xd xo hh ha z zn q la M'.1) A) args s 2 11 A) (F0 m 663 ls [.int s1, .int s0]) := by
      intro N x12 s0 s1 H locs ls hF hP hS hl
      refine lv_iadd hx hb dL_isSo_663 ?_
      refine lv_topi (fun v118 ev118 => ?_)
      have hF := nm_use hF ev118
      refine lv_istore (lv' := [(11, .int v118), (0, .ref xx), (1, .ref (la 0)), (2, .ref (la 1)), (5, .ref (la 4)), (6, .ref (la 5)), (8, .ref sa), (9, .ref sb), (10, .int x10), (12, .int x12)]) hx hb dL_isSo_664 hl (by decide) rfl (fun ls hl => ?_)
      obtain ⟨v119, ev119⟩ : ∃ z : Int32, z = x12 + 1 := ⟨_, rfl⟩
      refine lv_iinc (v := v119) (lv' := [(12, .int v119), (11, .int v118), (0, .ref xx), (1, .ref (la 0)), (2, .ref (la 1)), (5, .ref (la 4)), (6, .ref (la 5)), (8, .ref sa), (9, .ref sb), (10, .int x10)]) hx hb dL_isSo_666 hl (k := 9) rfl (by rw [ev119]; rfl) (by decide) rfl (fun ls hl => ?_)
      have hF := nm_use hF ev119
      refine lv_goto (tgt := 573) hx hb dL_isSo_669 (by decide) ?_
      exact ihn N v118 v119 _ _ _ hF hP hS (lv_sub hl [2, 3, 4, 5, 6, 7, 8, 9, 1, 0] rfl) after
    refine lv_iload hx hb dL_isSo_573 (lv_at hl 9 rfl) ?_
    refine lv_aload_n hx hb dL_isSo_575 rfl (lv_at hl 1 rfl) ?_
    refine lv_iconst (v := 1) hx hb dL_isSo_576 (by decide) ?_
    obtain ⟨hi, hF⟩ := rd_use hF
    refine va_iald hx hb hK hP 2 0 (pXS_2 cI cS xx xd xo hh ha z zn q la sa sb N) rfl hi dL_isSo_577 ?_
    refine lv_topi (fun v103 ev103 => ?_)
    have hF := hF v103 ev103
    refine lv_icmp_ge (tgt := 672) hx hb dL_isSo_578 (by decide) (fun c104 => ?_) (fun c104 => ?_)
    · have hF := it_t hF c104
      exact after N x11 _ _ _ hF hP hS (lv_sub hl [0, 1, 2, 3, 4, 5, 6, 7, 8] rfl)
    · have hF := it_f hF c104
      refine lv_iconst (v := 0) hx hb dL_isSo_581 (by decide) ?_
      refine lv_istore (lv' := [(13, .int 0), (0, .ref xx), (1, .ref (la 0)), (2, .ref (la 1)), (5, .ref (la 4)), (6, .ref (la 5)), (8, .ref sa), (9, .ref sb), (10, .int x10), (11, .int x11), (12, .int x12)]) hx hb dL_isSo_582 hl (by decide) rfl (fun ls hl => ?_)
      refine lv_iconst (v := 0) hx hb dL_isSo_584 (by decide) ?_
      refine lv_istore (lv' := [(14, .int 0), (13, .int 0), (0, .ref xx), (1, .ref (la 0)), (2, .ref (la 1)), (5, .ref (la 4)), (6, .ref (la 5)), (8, .ref sa), (9, .ref sb), (10, .int x10), (11, .int x11), (12, .int x12)]) hx hb dL_isSo_585 hl (by decide) rfl (fun ls hl => ?_)
      refine tL_isSo2_l587 l D cS g cI xx xd xo hh ha z zn q la sa sb r M' C hDa x10 x11 x12 _ _ N 0 0 _ _ _ hF hP hS (lv_sub hl [2, 3, 4, 5, 6, 7, 8, 9, 10, 11, 1, 0] rfl) ?_
      · intro M116 y115 H locs ls hF hP hS hl
        refine lv_iload hx hb dL_isSo_651 (lv_at hl 8 rfl) ?_
        refine lv_iload hx hb dL_isSo_653 (lv_at hl 10 rfl) ?_
        refine lv_if_eq (tgt := 662) hx hb dL_isSo_655 (by decide) (fun c117 => ?_) (fun c117 => ?_)
        · have hF := it_t hF c117
          refine lv_iconst (v := 0) hx hb dL_isSo_662 (by decide) ?_
          exact j663 M116 x12 x11 0 _ _ _ hF hP hS (lv_sub hl [0, 1, 2, 3, 4, 5, 6, 7, 9] rfl)
        · have hF := it_f hF c117
          refine lv_iconst (v := 1) hx hb dL_isSo_658 (by decide) ?_
          refine lv_goto (tgt := 663) hx hb dL_isSo_659 (by decide) ?_
          exact j663 M116 x12 x11 1 _ _ _ hF hP hS (lv_sub hl [0, 1, 2, 3, 4, 5, 6, 7, 9] rfl)
set_option maxHeartbeats 4000000 in
set_option maxRecDepth 100000 in
theorem tL_isSo2_l554 (l : Launch) (D : va_G) (cS : ClassId) (g : Nat → Nat) (cI : ClassId) (xx xd xo hh ha : Nat) (z : Nat → Nat → Nat) (zn q : Nat → Nat) (la : Nat → Nat) (sa sb : Nat) (r : Int32) (M' : XSm) {p : Program} {e : Env} {s : State} {m : MethodId} {args : Array Value} {below : List Frame} {meth : Method} {c : Code} {A : Nat → Prop} (C : CX p s m args meth c A D cI cS g cL_isSo 15 (some .boolean) RL) (hDa : ∀ N, va_D A (wXS cI cS xx xd xo hh ha z zn q la sa sb N)) : ∀ (kk : XSm → Int32 → Option (Int32 × XSm)) (fu : Nat) (N : XSm) (x7 : Int32) (x10 : Int32) (H : Heap) (locs : List Loc) (ls : Array Slot), fL_isSo2_l554 kk fu N x7 x10 = some (r, M') → va_P D vwCl (wXS cI cS xx xd xo hh ha z zn q la sa sb N) H → va_S A s.heap H locs → lv_has ls 15 [(0, .ref xx), (1, .ref (la 0)), (2, .ref (la 1)), (5, .ref (la 4)), (6, .ref (la 5)), (7, .int x7), (8, .ref sa), (9, .ref sb), (10, .int x10)] → (∀ (N : XSm) (x7 : Int32) (H : Heap) (locs : List Loc) (ls : Array Slot), kk N x7 = some (r, M') → va_P D vwCl (wXS cI cS xx xd xo hh ha z zn q la sa sb N) H → va_S A s.heap H locs → lv_has ls 15 [(0, .ref xx), (1, .ref (la 0)), (2, .ref (la 1)), (7, .int x7), (8, .ref sa), (9, .ref sb)] → W p l e rmL_isSo s m args below meth c H locs 2 11 (MQ below (qI D r (wXL cI cS xx xd xo hh ha z zn q la M'.1) A) args s 2 11 A) (F0 m 764 ls [])) → W p l e rmL_isSo s m args below meth c H locs 2 11 (MQ below (qI D r (wXL cI cS xx xd xo hh ha z zn q la M'.1) A) args s 2 11 A) (F0 m 554 ls []) := by
  obtain ⟨hx, hb, hr, hml, hlocks, hown, htb, hA, hK, hG⟩ := id C
  intro kk fu
  induction fu with
  | zero => intro N x7 x10 H locs ls hF; exact nn_use hF
  | succ fu ihn =>
    intro N x7 x10 H locs ls hF hP hS hl after
    rw [fL_isSo2_l554_s] at hF
    have j756 : ∀ (N : XSm) (x10 : Int32) (s0 : Int32) (H : Heap) (locs : List Loc) (ls : Array Slot), fL_isSo2_j756 kk (fL_isSo2_l554 kk fu) N x10 s0 = some (r, M') → va_P D vwCl (wXS cI cS xx xd xo hh ha z zn q la sa sb N) H → va_S A s.heap H locs → lv_has ls 15 [(0, .ref xx), (1, .ref (la 0)), (2, .ref (la 1)), (5, .ref (la 4)), (6, .ref (la 5)), (8, .ref sa), (9, .ref sb), (10, .int x10)] → W p l e rmL_isSo s m args below meth c H locs 2 11 (MQ below (qI D r (wXL cI cS xx xd xo hh ha z zn q la M'.1) A) args s 2 11 A) (F0 m 756 ls [.int s0]) := by
      intro N x10 s0 H locs ls hF hP hS hl
      refine lv_istore (lv' := [(7, .int s0), (0, .ref xx), (1, .ref (la 0)), (2, .ref (la 1)), (5, .ref (la 4)), (6, .ref (la 5)), (8, .ref sa), (9, .ref sb), (10, .int x10)]) hx hb dL_isSo_756 hl (by decide) rfl (fun ls hl => ?_)
      obtain ⟨v135, ev135⟩ : ∃ z : Int32, z = x10 + 1 := ⟨_, rfl⟩
      refine lv_iinc (v := v135) (lv' := [(10, .int v135), (7, .int s0), (0, .ref xx), (1, .ref (la 0)), (2, .ref (la 1)), (5, .ref (la 4)), (6, .ref (la 5)), (8, .ref sa), (9, .ref sb)]) hx hb dL_isSo_758 hl (k := 8) rfl (by rw [ev135]; rfl) (by decide) rfl (fun ls hl => ?_)
      have hF := nm_use hF ev135
      refine lv_goto (tgt := 554) hx hb dL_isSo_761 (by decide) ?_
      exact ihn N s0 v135 _ _ _ hF hP hS (lv_sub hl [2, 3, 4, 5, 6, 1, 7, 8, 0] rfl) after
    have j755 : ∀ (N : XSm) (x10 : Int32) (H : Heap) (locs : List Loc) (ls : Array Slot), fL_isSo2_j755 kk (fL_isSo2_l554 kk fu) N x10 = some (r, M') → va_P D vwCl (wXS cI cS xx xd xo hh ha z zn q la sa sb N) H → va_S A s.heap H locs → lv_has ls 15 [(0, .ref xx), (1, .ref (la 0)), (2, .ref (la 1)), (5, .ref (la 4)), (6, .ref (la 5)), (8, .ref sa), (9, .ref sb), (10, .int x10)] → W p l e rmL_isSo s m args below meth c H locs 2 11 (MQ below (qI D r (wXL cI cS xx xd xo hh ha z zn q la M'.1) A) args s 2 11 A) (F0 m 755 ls []) := by
      intro N x10 H locs ls hF hP hS hl
      refine lv_iconst (v := 0) hx hb dL_isSo_755 (by decide) ?_
      exact j756 N x10 0 _ _ _ hF hP hS (lv_sub hl [0, 1, 2, 3, 4, 5, 6, 7] rfl)
    refine lv_iload hx hb dL_isSo_554 (lv_at hl 8 rfl) ?_
    refine lv_aload_n hx hb dL_isSo_556 rfl (lv_at hl 1 rfl) ?_
    refine lv_iconst (v := 2) hx hb dL_isSo_557 (by decide) ?_
    obtain ⟨hi, hF⟩ := rd_use hF
    refine va_iald hx hb hK hP 2 0 (pXS_2 cI cS xx xd xo hh ha z zn q la sa sb N) rfl hi dL_isSo_558 ?_
    refine lv_topi (fun v100 ev100 => ?_)
    have hF := hF v100 ev100
    refine lv_icmp_ge (tgt := 764) hx hb dL_isSo_559 (by decide) (fun c101 => ?_) (fun c101 => ?_)
    · have hF := it_t hF c101
      exact after N x7 _ _ _ hF hP hS (lv_sub hl [0, 1, 2, 5, 6, 7] rfl)
    · have hF := it_f hF c101
      refine lv_iload hx hb dL_isSo_562 (lv_at hl 5 rfl) ?_
      refine lv_if_eq (tgt := 764) hx hb dL_isSo_564 (by decide) (fun c102 => ?_) (fun c102 => ?_)
      · have hF := it_t hF c102
        exact after N x7 _ _ _ hF hP hS (lv_sub hl [0, 1, 2, 5, 6, 7] rfl)
      · have hF := it_f hF c102
        refine lv_iconst (v := 0) hx hb dL_isSo_567 (by decide) ?_
        refine lv_istore (lv' := [(11, .int 0), (0, .ref xx), (1, .ref (la 0)), (2, .ref (la 1)), (5, .ref (la 4)), (6, .ref (la 5)), (7, .int x7), (8, .ref sa), (9, .ref sb), (10, .int x10)]) hx hb dL_isSo_568 hl (by decide) rfl (fun ls hl => ?_)
        refine lv_iconst (v := 0) hx hb dL_isSo_570 (by decide) ?_
        refine lv_istore (lv' := [(12, .int 0), (11, .int 0), (0, .ref xx), (1, .ref (la 0)), (2, .ref (la 1)), (5, .ref (la 4)), (6, .ref (la 5)), (7, .int x7), (8, .ref sa), (9, .ref sb), (10, .int x10)]) hx hb dL_isSo_571 hl (by decide) rfl (fun ls hl => ?_)
        refine tL_isSo2_l573 l D cS g cI xx xd xo hh ha z zn q la sa sb r M' C hDa x10 _ _ N 0 0 _ _ _ hF hP hS (lv_sub hl [2, 3, 4, 5, 6, 8, 9, 10, 1, 0] rfl) ?_
        · intro M121 y120 H locs ls hF hP hS hl
          refine lv_aload hx hb dL_isSo_672 (lv_at hl 6 rfl) ?_
          refine lv_iconst (v := 1) hx hb dL_isSo_674 (by decide) ?_
          refine lv_dup2_11 hx hb dL_isSo_675 rfl rfl ?_
          obtain ⟨hi, hF⟩ := rd_use hF
          refine va_iald hx hb hK hP 1 0 (pXS_1 cI cS xx xd xo hh ha z zn q la sa sb M121) rfl hi dL_isSo_676 ?_
          refine lv_topi (fun v122 ev122 => ?_)
          have hF := hF v122 ev122
          refine lv_aload hx hb dL_isSo_677 (lv_at hl 4 rfl) ?_
          refine lv_iconst (v := 2) hx hb dL_isSo_679 (by decide) ?_
          refine lv_iload hx hb dL_isSo_680 (lv_at hl 7 rfl) ?_
          refine lv_imul hx hb dL_isSo_682 ?_
          refine lv_iconst (v := 1) hx hb dL_isSo_683 (by decide) ?_
          refine lv_iadd hx hb dL_isSo_684 ?_
          obtain ⟨hi, hF⟩ := rd_use hF
          refine va_iald hx hb hK hP 7 0 (pXS_7 cI cS xx xd xo hh ha z zn q la sa sb M121) rfl hi dL_isSo_685 ?_
          refine lv_topi (fun v123 ev123 => ?_)
          have hF := hF v123 ev123
          refine lv_iadd hx hb dL_isSo_686 ?_
          obtain ⟨hi, hF⟩ := wr_use hF
          refine va_iast hx hb hK hP (hDa _) hS 1 0 (pXS_1 cI cS xx xd xo hh ha z zn q la sa sb M121) rfl hi dL_isSo_687 (fun H locs hP _ hS => ?_)
          obtain ⟨M125, eM125⟩ : ∃ z : XSm, z = (M121.1, (M121.2.1, (upd (M121.2.2) (1 : Int32).toNatClampNeg (v122 + v123)))) := ⟨_, rfl⟩
          have hF := nm_use hF eM125
          have hP : va_P D vwCl (wXS cI cS xx xd xo hh ha z zn q la sa sb M125) H := by rw [eM125]; exact hP
          refine lv_aload hx hb dL_isSo_688 (lv_at hl 6 rfl) ?_
          refine lv_bipush (v := 6) hx hb dL_isSo_690 (by decide) ?_
          refine lv_dup2_11 hx hb dL_isSo_692 rfl rfl ?_
          obtain ⟨hi, hF⟩ := rd_use hF
          refine va_iald hx hb hK hP 1 0 (pXS_1 cI cS xx xd xo hh ha z zn q la sa sb M125) rfl hi dL_isSo_693 ?_
          refine lv_topi (fun v126 ev126 => ?_)
          have hF := hF v126 ev126
          refine lv_aload hx hb dL_isSo_694 (lv_at hl 4 rfl) ?_
          refine lv_iconst (v := 2) hx hb dL_isSo_696 (by decide) ?_
          refine lv_iload hx hb dL_isSo_697 (lv_at hl 7 rfl) ?_
          refine lv_imul hx hb dL_isSo_699 ?_
          obtain ⟨hi, hF⟩ := rd_use hF
          refine va_iald hx hb hK hP 7 0 (pXS_7 cI cS xx xd xo hh ha z zn q la sa sb M125) rfl hi dL_isSo_700 ?_
          refine lv_topi (fun v127 ev127 => ?_)
          have hF := hF v127 ev127
          refine lv_iadd hx hb dL_isSo_701 ?_
          obtain ⟨hi, hF⟩ := wr_use hF
          refine va_iast hx hb hK hP (hDa _) hS 1 0 (pXS_1 cI cS xx xd xo hh ha z zn q la sa sb M125) rfl hi dL_isSo_702 (fun H locs hP _ hS => ?_)
          obtain ⟨M129, eM129⟩ : ∃ z : XSm, z = (M125.1, (M125.2.1, (upd (M125.2.2) (6 : Int32).toNatClampNeg (v126 + v127)))) := ⟨_, rfl⟩
          have hF := nm_use hF eM129
          have hP : va_P D vwCl (wXS cI cS xx xd xo hh ha z zn q la sa sb M129) H := by rw [eM129]; exact hP
          refine lv_aload_n hx hb dL_isSo_703 rfl (lv_at hl 0 rfl) ?_
          refine lv_iload hx hb dL_isSo_704 (lv_at hl 7 rfl) ?_
          refine lv_iconst (v := 0) hx hb dL_isSo_706 (by decide) ?_
          obtain ⟨r131, M130, hM130, hF⟩ := b2_use hF
          refine clx_VI ⟨hx, hb, hml, hown, htb⟩ (kX8_voucher l D cS g cI xx xd xo hh ha z zn q (M129.1.1) x10 0 _ _ hM130) (cwV 2 htb (gX8_voucher bw3_41) rfl rfl rfl hdX8_voucher ⟨Nat.le_of_ble_eq_true rfl, Nat.le_of_ble_eq_true rfl⟩) hK (hDa _) hG hA hP hS (sg_XS_XX cI cS xx xd xo hh ha z zn q la sa sb M129 M130) hl.1 rfl 0 (pXX_0 _ _ _ _ _ _ _ _ _ _ _) rfl rfl (Nat.le_of_ble_eq_true rfl) ⟨Nat.le_of_ble_eq_true rfl, Nat.le_of_ble_eq_true rfl⟩ dL_isSo_707 (fun H locs hP hS => ?_)
          obtain ⟨M132, eM132⟩ : ∃ z : XSm, z = ((M130, M129.1.2), M129.2) := ⟨_, rfl⟩
          have hF := nm_use hF eM132
          have hP : va_P D vwCl (wXS cI cS xx xd xo hh ha z zn q la sa sb M132) H := by rw [eM132]; exact hP
          refine lv_aload hx hb dL_isSo_710 (lv_at hl 4 rfl) ?_
          refine lv_iconst (v := 2) hx hb dL_isSo_712 (by decide) ?_
          refine lv_iload hx hb dL_isSo_713 (lv_at hl 7 rfl) ?_
          refine lv_imul hx hb dL_isSo_715 ?_
          obtain ⟨hi, hF⟩ := rd_use hF
          refine va_iald hx hb hK hP 7 0 (pXS_7 cI cS xx xd xo hh ha z zn q la sa sb M132) rfl hi dL_isSo_716 ?_
          refine lv_topi (fun v133 ev133 => ?_)
          have hF := hF v133 ev133
          refine lv_icmp_ne (tgt := 755) hx hb dL_isSo_717 (by decide) (fun c134 => ?_) (fun c134 => ?_)
          · have hF := it_f hF c134
            exact j755 M132 x10 _ _ _ hF hP hS (lv_sub hl [0, 1, 2, 3, 4, 5, 6, 7] rfl)
          · have hF := it_t hF c134
            refine lv_aload_n hx hb dL_isSo_720 rfl (lv_at hl 0 rfl) ?_
            refine lv_iload hx hb dL_isSo_721 (lv_at hl 7 rfl) ?_
            refine lv_iconst (v := 1) hx hb dL_isSo_723 (by decide) ?_
            obtain ⟨r137, M136, hM136, hF⟩ := b2_use hF
            refine clx_VI ⟨hx, hb, hml, hown, htb⟩ (kX8_voucher l D cS g cI xx xd xo hh ha z zn q (M132.1.1) x10 1 _ _ hM136) (cwV 2 htb (gX8_voucher bw3_41) rfl rfl rfl hdX8_voucher ⟨Nat.le_of_ble_eq_true rfl, Nat.le_of_ble_eq_true rfl⟩) hK (hDa _) hG hA hP hS (sg_XS_XX cI cS xx xd xo hh ha z zn q la sa sb M132 M136) hl.1 rfl 0 (pXX_0 _ _ _ _ _ _ _ _ _ _ _) rfl rfl (Nat.le_of_ble_eq_true rfl) ⟨Nat.le_of_ble_eq_true rfl, Nat.le_of_ble_eq_true rfl⟩ dL_isSo_724 (fun H locs hP hS => ?_)
            obtain ⟨M138, eM138⟩ : ∃ z : XSm, z = ((M136, M132.1.2), M132.2) := ⟨_, rfl⟩
            have hF := nm_use hF eM138
            have hP : va_P D vwCl (wXS cI cS xx xd xo hh ha z zn q la sa sb M138) H := by rw [eM138]; exact hP
            refine lv_aload hx hb dL_isSo_727 (lv_at hl 4 rfl) ?_
            refine lv_iconst (v := 2) hx hb dL_isSo_729 (by decide) ?_
            refine lv_iload hx hb dL_isSo_730 (lv_at hl 7 rfl) ?_
            refine lv_imul hx hb dL_isSo_732 ?_
            refine lv_iconst (v := 1) hx hb dL_isSo_733 (by decide) ?_
            refine lv_iadd hx hb dL_isSo_734 ?_
            obtain ⟨hi, hF⟩ := rd_use hF
            refine va_iald hx hb hK hP 7 0 (pXS_7 cI cS xx xd xo hh ha z zn q la sa sb M138) rfl hi dL_isSo_735 ?_
            refine lv_topi (fun v139 ev139 => ?_)
            have hF := hF v139 ev139
            refine lv_icmp_ne (tgt := 755) hx hb dL_isSo_736 (by decide) (fun c140 => ?_) (fun c140 => ?_)
            · have hF := it_f hF c140
              exact j755 M138 x10 _ _ _ hF hP hS (lv_sub hl [0, 1, 2, 3, 4, 5, 6, 7] rfl)
            · have hF := it_t hF c140
              refine lv_aload_n hx hb dL_isSo_739 rfl (lv_at hl 0 rfl) ?_
              refine lv_iload hx hb dL_isSo_740 (lv_at hl 7 rfl) ?_
              refine lv_iconst (v := 2) hx hb dL_isSo_742 (by decide) ?_
              obtain ⟨r142, M141, hM141, hF⟩ := b2_use hF
              refine clx_VI ⟨hx, hb, hml, hown, htb⟩ (kX8_voucher l D cS g cI xx xd xo hh ha z zn q (M138.1.1) x10 2 _ _ hM141) (cwV 2 htb (gX8_voucher bw3_41) rfl rfl rfl hdX8_voucher ⟨Nat.le_of_ble_eq_true rfl, Nat.le_of_ble_eq_true rfl⟩) hK (hDa _) hG hA hP hS (sg_XS_XX cI cS xx xd xo hh ha z zn q la sa sb M138 M141) hl.1 rfl 0 (pXX_0 _ _ _ _ _ _ _ _ _ _ _) rfl rfl (Nat.le_of_ble_eq_true rfl) ⟨Nat.le_of_ble_eq_true rfl, Nat.le_of_ble_eq_true rfl⟩ dL_isSo_743 (fun H locs hP hS => ?_)
              obtain ⟨M143, eM143⟩ : ∃ z : XSm, z = ((M141, M138.1.2), M138.2) := ⟨_, rfl⟩
              have hF := nm_use hF eM143
              have hP : va_P D vwCl (wXS cI cS xx xd xo hh ha z zn q la sa sb M143) H := by rw [eM143]; exact hP
              refine lv_iload hx hb dL_isSo_746 (lv_at hl 8 rfl) ?_
              refine lv_icmp_ne (tgt := 755) hx hb dL_isSo_748 (by decide) (fun c144 => ?_) (fun c144 => ?_)
              · have hF := it_f hF c144
                exact j755 M143 x10 _ _ _ hF hP hS (lv_sub hl [0, 1, 2, 3, 4, 5, 6, 7] rfl)
              · have hF := it_t hF c144
                refine lv_iconst (v := 1) hx hb dL_isSo_751 (by decide) ?_
                refine lv_goto (tgt := 756) hx hb dL_isSo_752 (by decide) ?_
                exact j756 M143 x10 1 _ _ _ hF hP hS (lv_sub hl [0, 1, 2, 3, 4, 5, 6, 7] rfl)
set_option maxHeartbeats 4000000 in
set_option maxRecDepth 100000 in
theorem tL_isSo2_l767 (l : Launch) (D : va_G) (cS : ClassId) (g : Nat → Nat) (cI : ClassId) (xx xd xo hh ha : Nat) (z : Nat → Nat → Nat) (zn q : Nat → Nat) (la : Nat → Nat) (sa sb : Nat) (r : Int32) (M' : XSm) {p : Program} {e : Env} {s : State} {m : MethodId} {args : Array Value} {below : List Frame} {meth : Method} {c : Code} {A : Nat → Prop} (C : CX p s m args meth c A D cI cS g cL_isSo 15 (some .boolean) RL) (hDa : ∀ N, va_D A (wXS cI cS xx xd xo hh ha z zn q la sa sb N)) : ∀ (kk : XSm → Int32 → Option (Int32 × XSm)) (fu : Nat) (N : XSm) (x7 : Int32) (x10 : Int32) (H : Heap) (locs : List Loc) (ls : Array Slot), fL_isSo2_l767 kk fu N x7 x10 = some (r, M') → va_P D vwCl (wXS cI cS xx xd xo hh ha z zn q la sa sb N) H → va_S A s.heap H locs → lv_has ls 15 [(0, .ref xx), (1, .ref (la 0)), (2, .ref (la 1)), (7, .int x7), (8, .ref sa), (9, .ref sb), (10, .int x10)] → (∀ (N : XSm) (x7 : Int32) (H : Heap) (locs : List Loc) (ls : Array Slot), kk N x7 = some (r, M') → va_P D vwCl (wXS cI cS xx xd xo hh ha z zn q la sa sb N) H → va_S A s.heap H locs → lv_has ls 15 [(0, .ref xx), (1, .ref (la 0)), (7, .int x7), (9, .ref sb)] → W p l e rmL_isSo s m args below meth c H locs 2 11 (MQ below (qI D r (wXL cI cS xx xd xo hh ha z zn q la M'.1) A) args s 2 11 A) (F0 m 830 ls [])) → W p l e rmL_isSo s m args below meth c H locs 2 11 (MQ below (qI D r (wXL cI cS xx xd xo hh ha z zn q la M'.1) A) args s 2 11 A) (F0 m 767 ls []) := by
  obtain ⟨hx, hb, hr, hml, hlocks, hown, htb, hA, hK, hG⟩ := id C
  intro kk fu
  induction fu with
  | zero => intro N x7 x10 H locs ls hF; exact nn_use hF
  | succ fu ihn =>
    intro N x7 x10 H locs ls hF hP hS hl after
    rw [fL_isSo2_l767_s] at hF
    have j822 : ∀ (N : XSm) (x10 : Int32) (s0 : Int32) (H : Heap) (locs : List Loc) (ls : Array Slot), fL_isSo2_j822 kk (fL_isSo2_l767 kk fu) N x10 s0 = some (r, M') → va_P D vwCl (wXS cI cS xx xd xo hh ha z zn q la sa sb N) H → va_S A s.heap H locs → lv_has ls 15 [(0, .ref xx), (1, .ref (la 0)), (2, .ref (la 1)), (8, .ref sa), (9, .ref sb), (10, .int x10)] → W p l e rmL_isSo s m args below meth c H locs 2 11 (MQ below (qI D r (wXL cI cS xx xd xo hh ha z zn q la M'.1) A) args s 2 11 A) (F0 m 822 ls [.int s0]) := by
      intro N x10 s0 H locs ls hF hP hS hl
      refine lv_istore (lv' := [(7, .int s0), (0, .ref xx), (1, .ref (la 0)), (2, .ref (la 1)), (8, .ref sa), (9, .ref sb), (10, .int x10)]) hx hb dL_isSo_822 hl (by decide) rfl (fun ls hl => ?_)
      obtain ⟨v149, ev149⟩ : ∃ z : Int32, z = x10 + 1 := ⟨_, rfl⟩
      refine lv_iinc (v := v149) (lv' := [(10, .int v149), (7, .int s0), (0, .ref xx), (1, .ref (la 0)), (2, .ref (la 1)), (8, .ref sa), (9, .ref sb)]) hx hb dL_isSo_824 hl (k := 6) rfl (by rw [ev149]; rfl) (by decide) rfl (fun ls hl => ?_)
      have hF := nm_use hF ev149
      refine lv_goto (tgt := 767) hx hb dL_isSo_827 (by decide) ?_
      exact ihn N s0 v149 _ _ _ hF hP hS (lv_sub hl [2, 3, 4, 1, 5, 6, 0] rfl) after
    have j821 : ∀ (N : XSm) (x10 : Int32) (H : Heap) (locs : List Loc) (ls : Array Slot), fL_isSo2_j821 kk (fL_isSo2_l767 kk fu) N x10 = some (r, M') → va_P D vwCl (wXS cI cS xx xd xo hh ha z zn q la sa sb N) H → va_S A s.heap H locs → lv_has ls 15 [(0, .ref xx), (1, .ref (la 0)), (2, .ref (la 1)), (8, .ref sa), (9, .ref sb), (10, .int x10)] → W p l e rmL_isSo s m args below meth c H locs 2 11 (MQ below (qI D r (wXL cI cS xx xd xo hh ha z zn q la M'.1) A) args s 2 11 A) (F0 m 821 ls []) := by
      intro N x10 H locs ls hF hP hS hl
      refine lv_iconst (v := 0) hx hb dL_isSo_821 (by decide) ?_
      exact j822 N x10 0 _ _ _ hF hP hS (lv_sub hl [0, 1, 2, 3, 4, 5] rfl)
    have j817 : ∀ (N : XSm) (x10 : Int32) (H : Heap) (locs : List Loc) (ls : Array Slot), fL_isSo2_j817 kk (fL_isSo2_l767 kk fu) N x10 = some (r, M') → va_P D vwCl (wXS cI cS xx xd xo hh ha z zn q la sa sb N) H → va_S A s.heap H locs → lv_has ls 15 [(0, .ref xx), (1, .ref (la 0)), (2, .ref (la 1)), (8, .ref sa), (9, .ref sb), (10, .int x10)] → W p l e rmL_isSo s m args below meth c H locs 2 11 (MQ below (qI D r (wXL cI cS xx xd xo hh ha z zn q la M'.1) A) args s 2 11 A) (F0 m 817 ls []) := by
      intro N x10 H locs ls hF hP hS hl
      refine lv_iconst (v := 1) hx hb dL_isSo_817 (by decide) ?_
      refine lv_goto (tgt := 822) hx hb dL_isSo_818 (by decide) ?_
      exact j822 N x10 1 _ _ _ hF hP hS (lv_sub hl [0, 1, 2, 3, 4, 5] rfl)
    refine lv_iload hx hb dL_isSo_767 (lv_at hl 6 rfl) ?_
    refine lv_iconst (v := 5) hx hb dL_isSo_769 (by decide) ?_
    refine lv_icmp_ge (tgt := 830) hx hb dL_isSo_770 (by decide) (fun c147 => ?_) (fun c147 => ?_)
    · have hF := it_t hF c147
      exact after N x7 _ _ _ hF hP hS (lv_sub hl [0, 1, 3, 5] rfl)
    · have hF := it_f hF c147
      refine lv_iload hx hb dL_isSo_773 (lv_at hl 3 rfl) ?_
      refine lv_if_eq (tgt := 821) hx hb dL_isSo_775 (by decide) (fun c148 => ?_) (fun c148 => ?_)
      · have hF := it_t hF c148
        exact j821 N x10 _ _ _ hF hP hS (lv_sub hl [0, 1, 2, 4, 5, 6] rfl)
      · have hF := it_f hF c148
        refine lv_aload_n hx hb dL_isSo_778 rfl (lv_at hl 0 rfl) ?_
        refine lv_bipush (v := 6) hx hb dL_isSo_779 (by decide) ?_
        refine lv_iload hx hb dL_isSo_781 (lv_at hl 6 rfl) ?_
        refine lv_iadd hx hb dL_isSo_783 ?_
        obtain ⟨r151, M150, hM150, hF⟩ := b2_use hF
        refine clx_VI ⟨hx, hb, hml, hown, htb⟩ (kX8_count l D cS g cI xx xd xo hh ha z zn q (N.1.1) (6 + x10) _ _ hM150) (cwV 1 htb (gX8_count bw1_224) rfl rfl rfl hdX8_count ⟨Nat.le_of_ble_eq_true rfl, Nat.le_of_ble_eq_true rfl⟩) hK (hDa _) hG hA hP hS (sg_XS_XX cI cS xx xd xo hh ha z zn q la sa sb N M150) hl.1 rfl 0 (pXX_0 _ _ _ _ _ _ _ _ _ _ _) rfl rfl (Nat.le_of_ble_eq_true rfl) ⟨Nat.le_of_ble_eq_true rfl, Nat.le_of_ble_eq_true rfl⟩ dL_isSo_784 (fun H locs hP hS => ?_)
        obtain ⟨M152, eM152⟩ : ∃ z : XSm, z = ((M150, N.1.2), N.2) := ⟨_, rfl⟩
        have hF := nm_use hF eM152
        have hP : va_P D vwCl (wXS cI cS xx xd xo hh ha z zn q la sa sb M152) H := by rw [eM152]; exact hP
        refine lv_aload_n hx hb dL_isSo_787 rfl (lv_at hl 2 rfl) ?_
        refine lv_iload hx hb dL_isSo_788 (lv_at hl 6 rfl) ?_
        obtain ⟨hi, hF⟩ := rd_use hF
        refine va_iald hx hb hK hP 3 0 (pXS_3 cI cS xx xd xo hh ha z zn q la sa sb M152) rfl hi dL_isSo_790 ?_
        refine lv_topi (fun v153 ev153 => ?_)
        have hF := hF v153 ev153
        refine lv_icmp_ne (tgt := 821) hx hb dL_isSo_791 (by decide) (fun c154 => ?_) (fun c154 => ?_)
        · have hF := it_f hF c154
          exact j821 M152 x10 _ _ _ hF hP hS (lv_sub hl [0, 1, 2, 4, 5, 6] rfl)
        · have hF := it_t hF c154
          refine lv_iload hx hb dL_isSo_794 (lv_at hl 6 rfl) ?_
          refine lv_iconst (v := 4) hx hb dL_isSo_796 (by decide) ?_
          refine lv_icmp_eq (tgt := 817) hx hb dL_isSo_797 (by decide) (fun c155 => ?_) (fun c155 => ?_)
          · have hF := it_t hF c155
            exact j817 M152 x10 _ _ _ hF hP hS (lv_sub hl [0, 1, 2, 4, 5, 6] rfl)
          · have hF := it_f hF c155
            refine lv_aload_n hx hb dL_isSo_800 rfl (lv_at hl 0 rfl) ?_
            refine lv_bipush (v := 11) hx hb dL_isSo_801 (by decide) ?_
            refine lv_iload hx hb dL_isSo_803 (lv_at hl 6 rfl) ?_
            refine lv_iadd hx hb dL_isSo_805 ?_
            obtain ⟨r157, M156, hM156, hF⟩ := b2_use hF
            refine clx_VI ⟨hx, hb, hml, hown, htb⟩ (kX8_count l D cS g cI xx xd xo hh ha z zn q (M152.1.1) (11 + x10) _ _ hM156) (cwV 1 htb (gX8_count bw1_224) rfl rfl rfl hdX8_count ⟨Nat.le_of_ble_eq_true rfl, Nat.le_of_ble_eq_true rfl⟩) hK (hDa _) hG hA hP hS (sg_XS_XX cI cS xx xd xo hh ha z zn q la sa sb M152 M156) hl.1 rfl 0 (pXX_0 _ _ _ _ _ _ _ _ _ _ _) rfl rfl (Nat.le_of_ble_eq_true rfl) ⟨Nat.le_of_ble_eq_true rfl, Nat.le_of_ble_eq_true rfl⟩ dL_isSo_806 (fun H locs hP hS => ?_)
            obtain ⟨M158, eM158⟩ : ∃ z : XSm, z = ((M156, M152.1.2), M152.2) := ⟨_, rfl⟩
            have hF := nm_use hF eM158
            have hP : va_P D vwCl (wXS cI cS xx xd xo hh ha z zn q la sa sb M158) H := by rw [eM158]; exact hP
            refine lv_aload hx hb dL_isSo_809 (lv_at hl 4 rfl) ?_
            refine lv_iload hx hb dL_isSo_811 (lv_at hl 6 rfl) ?_
            obtain ⟨hi, hF⟩ := rd_use hF
            refine va_iald hx hb hK hP 0 0 (pXS_0 cI cS xx xd xo hh ha z zn q la sa sb M158) rfl hi dL_isSo_813 ?_
            refine lv_topi (fun v159 ev159 => ?_)
            have hF := hF v159 ev159
            refine lv_icmp_ne (tgt := 821) hx hb dL_isSo_814 (by decide) (fun c160 => ?_) (fun c160 => ?_)
            · have hF := it_f hF c160
              exact j821 M158 x10 _ _ _ hF hP hS (lv_sub hl [0, 1, 2, 4, 5, 6] rfl)
            · have hF := it_t hF c160
              exact j817 M158 x10 _ _ _ hF hP hS (lv_sub hl [0, 1, 2, 4, 5, 6] rfl)
set_option maxHeartbeats 4000000 in
set_option maxRecDepth 100000 in
theorem tL_isSo2_l833 (l : Launch) (D : va_G) (cS : ClassId) (g : Nat → Nat) (cI : ClassId) (xx xd xo hh ha : Nat) (z : Nat → Nat → Nat) (zn q : Nat → Nat) (la : Nat → Nat) (sa sb : Nat) (r : Int32) (M' : XSm) {p : Program} {e : Env} {s : State} {m : MethodId} {args : Array Value} {below : List Frame} {meth : Method} {c : Code} {A : Nat → Prop} (C : CX p s m args meth c A D cI cS g cL_isSo 15 (some .boolean) RL) (hDa : ∀ N, va_D A (wXS cI cS xx xd xo hh ha z zn q la sa sb N)) : ∀ (kk : XSm → Int32 → Option (Int32 × XSm)) (fu : Nat) (N : XSm) (x7 : Int32) (x10 : Int32) (H : Heap) (locs : List Loc) (ls : Array Slot), fL_isSo2_l833 kk fu N x7 x10 = some (r, M') → va_P D vwCl (wXS cI cS xx xd xo hh ha z zn q la sa sb N) H → va_S A s.heap H locs → lv_has ls 15 [(0, .ref xx), (1, .ref (la 0)), (7, .int x7), (9, .ref sb), (10, .int x10)] → (∀ (N : XSm) (x7 : Int32) (H : Heap) (locs : List Loc) (ls : Array Slot), kk N x7 = some (r, M') → va_P D vwCl (wXS cI cS xx xd xo hh ha z zn q la sa sb N) H → va_S A s.heap H locs → lv_has ls 15 [(0, .ref xx), (1, .ref (la 0)), (7, .int x7), (9, .ref sb)] → W p l e rmL_isSo s m args below meth c H locs 2 11 (MQ below (qI D r (wXL cI cS xx xd xo hh ha z zn q la M'.1) A) args s 2 11 A) (F0 m 872 ls [])) → W p l e rmL_isSo s m args below meth c H locs 2 11 (MQ below (qI D r (wXL cI cS xx xd xo hh ha z zn q la M'.1) A) args s 2 11 A) (F0 m 833 ls []) := by
  obtain ⟨hx, hb, hr, hml, hlocks, hown, htb, hA, hK, hG⟩ := id C
  intro kk fu
  induction fu with
  | zero => intro N x7 x10 H locs ls hF; exact nn_use hF
  | succ fu ihn =>
    intro N x7 x10 H locs ls hF hP hS hl after
    rw [fL_isSo2_l833_s] at hF
    have j864 : ∀ (N : XSm) (x10 : Int32) (s0 : Int32) (H : Heap) (locs : List Loc) (ls : Array Slot), fL_isSo2_j864 kk (fL_isSo2_l833 kk fu) N x10 s0 = some (r, M') → va_P D vwCl (wXS cI cS xx xd xo hh ha z zn q la sa sb N) H → va_S A s.heap H locs → lv_has ls 15 [(0, .ref xx), (1, .ref (la 0)), (9, .ref sb), (10, .int x10)] → W p l e rmL_isSo s m args below meth c H locs 2 11 (MQ below (qI D r (wXL cI cS xx xd xo hh ha z zn q la M'.1) A) args s 2 11 A) (F0 m 864 ls [.int s0]) := by
      intro N x10 s0 H locs ls hF hP hS hl
      refine lv_istore (lv' := [(7, .int s0), (0, .ref xx), (1, .ref (la 0)), (9, .ref sb), (10, .int x10)]) hx hb dL_isSo_864 hl (by decide) rfl (fun ls hl => ?_)
      obtain ⟨v165, ev165⟩ : ∃ z : Int32, z = x10 + 1 := ⟨_, rfl⟩
      refine lv_iinc (v := v165) (lv' := [(10, .int v165), (7, .int s0), (0, .ref xx), (1, .ref (la 0)), (9, .ref sb)]) hx hb dL_isSo_866 hl (k := 4) rfl (by rw [ev165]; rfl) (by decide) rfl (fun ls hl => ?_)
      have hF := nm_use hF ev165
      refine lv_goto (tgt := 833) hx hb dL_isSo_869 (by decide) ?_
      exact ihn N s0 v165 _ _ _ hF hP hS (lv_sub hl [2, 3, 1, 4, 0] rfl) after
    have j863 : ∀ (N : XSm) (x10 : Int32) (H : Heap) (locs : List Loc) (ls : Array Slot), fL_isSo2_j863 kk (fL_isSo2_l833 kk fu) N x10 = some (r, M') → va_P D vwCl (wXS cI cS xx xd xo hh ha z zn q la sa sb N) H → va_S A s.heap H locs → lv_has ls 15 [(0, .ref xx), (1, .ref (la 0)), (9, .ref sb), (10, .int x10)] → W p l e rmL_isSo s m args below meth c H locs 2 11 (MQ below (qI D r (wXL cI cS xx xd xo hh ha z zn q la M'.1) A) args s 2 11 A) (F0 m 863 ls []) := by
      intro N x10 H locs ls hF hP hS hl
      refine lv_iconst (v := 0) hx hb dL_isSo_863 (by decide) ?_
      exact j864 N x10 0 _ _ _ hF hP hS (lv_sub hl [0, 1, 2, 3] rfl)
    refine lv_iload hx hb dL_isSo_833 (lv_at hl 4 rfl) ?_
    refine lv_bipush (v := 7) hx hb dL_isSo_835 (by decide) ?_
    refine lv_icmp_ge (tgt := 872) hx hb dL_isSo_837 (by decide) (fun c163 => ?_) (fun c163 => ?_)
    · have hF := it_t hF c163
      exact after N x7 _ _ _ hF hP hS (lv_sub hl [0, 1, 2, 3] rfl)
    · have hF := it_f hF c163
      refine lv_iload hx hb dL_isSo_840 (lv_at hl 2 rfl) ?_
      refine lv_if_eq (tgt := 863) hx hb dL_isSo_842 (by decide) (fun c164 => ?_) (fun c164 => ?_)
      · have hF := it_t hF c164
        exact j863 N x10 _ _ _ hF hP hS (lv_sub hl [0, 1, 3, 4] rfl)
      · have hF := it_f hF c164
        refine lv_aload_n hx hb dL_isSo_845 rfl (lv_at hl 0 rfl) ?_
        refine lv_iload hx hb dL_isSo_846 (lv_at hl 4 rfl) ?_
        obtain ⟨r167, M166, hM166, hF⟩ := b2_use hF
        refine clx_VI ⟨hx, hb, hml, hown, htb⟩ (kX8_money l D cS g cI xx xd xo hh ha z zn q (N.1.1) x10 _ _ hM166) (cwV 1 htb (gX8_money bw2_20) rfl rfl rfl hdX8_money ⟨Nat.le_of_ble_eq_true rfl, Nat.le_of_ble_eq_true rfl⟩) hK (hDa _) hG hA hP hS (sg_XS_XX cI cS xx xd xo hh ha z zn q la sa sb N M166) hl.1 rfl 0 (pXX_0 _ _ _ _ _ _ _ _ _ _ _) rfl rfl (Nat.le_of_ble_eq_true rfl) ⟨Nat.le_of_ble_eq_true rfl, Nat.le_of_ble_eq_true rfl⟩ dL_isSo_848 (fun H locs hP hS => ?_)
        obtain ⟨M168, eM168⟩ : ∃ z : XSm, z = ((M166, N.1.2), N.2) := ⟨_, rfl⟩
        have hF := nm_use hF eM168
        have hP : va_P D vwCl (wXS cI cS xx xd xo hh ha z zn q la sa sb M168) H := by rw [eM168]; exact hP
        refine lv_aload hx hb dL_isSo_851 (lv_at hl 3 rfl) ?_
        refine lv_iload hx hb dL_isSo_853 (lv_at hl 4 rfl) ?_
        obtain ⟨hi, hF⟩ := rd_use hF
        refine va_iald hx hb hK hP 1 0 (pXS_1 cI cS xx xd xo hh ha z zn q la sa sb M168) rfl hi dL_isSo_855 ?_
        refine lv_topi (fun v169 ev169 => ?_)
        have hF := hF v169 ev169
        refine lv_icmp_ne (tgt := 863) hx hb dL_isSo_856 (by decide) (fun c170 => ?_) (fun c170 => ?_)
        · have hF := it_f hF c170
          exact j863 M168 x10 _ _ _ hF hP hS (lv_sub hl [0, 1, 3, 4] rfl)
        · have hF := it_t hF c170
          refine lv_iconst (v := 1) hx hb dL_isSo_859 (by decide) ?_
          refine lv_goto (tgt := 864) hx hb dL_isSo_860 (by decide) ?_
          exact j864 M168 x10 1 _ _ _ hF hP hS (lv_sub hl [0, 1, 3, 4] rfl)
set_option maxHeartbeats 4000000 in
set_option maxRecDepth 100000 in
theorem tL_isSo2_j78 (l : Launch) (D : va_G) (cS : ClassId) (g : Nat → Nat) (cI : ClassId) (xx xd xo hh ha : Nat) (z : Nat → Nat → Nat) (zn q : Nat → Nat) (la : Nat → Nat) (sa sb : Nat) (r : Int32) (M' : XSm) {p : Program} {e : Env} {s : State} {m : MethodId} {args : Array Value} {below : List Frame} {meth : Method} {c : Code} {A : Nat → Prop} (C : CX p s m args meth c A D cI cS g cL_isSo 15 (some .boolean) RL) (hDa : ∀ N, va_D A (wXS cI cS xx xd xo hh ha z zn q la sa sb N)) : ∀ (N : XSm) (x7 : Int32) (H : Heap) (locs : List Loc) (ls : Array Slot), fL_isSo2_j78 N x7 = some (r, M') → va_P D vwCl (wXS cI cS xx xd xo hh ha z zn q la sa sb N) H → va_S A s.heap H locs → lv_has ls 15 [(0, .ref xx), (1, .ref (la 0)), (2, .ref (la 1)), (3, .ref (la 2)), (4, .ref (la 3)), (5, .ref (la 4)), (6, .ref (la 5)), (7, .int x7), (8, .ref sa), (9, .ref sb)] → W p l e rmL_isSo s m args below meth c H locs 2 11 (MQ below (qI D r (wXL cI cS xx xd xo hh ha z zn q la M'.1) A) args s 2 11 A) (F0 m 78 ls []) := by
  obtain ⟨hx, hb, hr, hml, hlocks, hown, htb, hA, hK, hG⟩ := id C
  intro N x7 H locs ls hF hP hS hl
  refine lv_iconst (v := 0) hx hb dL_isSo_78 (by decide) ?_
  refine lv_istore (lv' := [(10, .int 0), (0, .ref xx), (1, .ref (la 0)), (2, .ref (la 1)), (3, .ref (la 2)), (4, .ref (la 3)), (5, .ref (la 4)), (6, .ref (la 5)), (7, .int x7), (8, .ref sa), (9, .ref sb)]) hx hb dL_isSo_79 hl (by decide) rfl (fun ls hl => ?_)
  refine tL_isSo2_l81 l D cS g cI xx xd xo hh ha z zn q la sa sb r M' C hDa  _ _ N x7 0 _ _ _ hF hP hS (lv_sub hl [1, 2, 3, 4, 5, 6, 7, 8, 9, 10, 0] rfl) ?_
  · intro M27 y26 H locs ls hF hP hS hl
    refine lv_iconst (v := 0) hx hb dL_isSo_207 (by decide) ?_
    refine lv_istore (lv' := [(10, .int 0), (0, .ref xx), (1, .ref (la 0)), (2, .ref (la 1)), (4, .ref (la 3)), (5, .ref (la 4)), (6, .ref (la 5)), (7, .int y26), (8, .ref sa), (9, .ref sb)]) hx hb dL_isSo_208 hl (by decide) rfl (fun ls hl => ?_)
    refine tL_isSo2_l210 l D cS g cI xx xd xo hh ha z zn q la sa sb r M' C hDa  _ _ M27 y26 0 _ _ _ hF hP hS (lv_sub hl [1, 2, 3, 4, 5, 6, 7, 8, 9, 0] rfl) ?_
    · intro M99 y98 H locs ls hF hP hS hl
      refine lv_iconst (v := 0) hx hb dL_isSo_551 (by decide) ?_
      refine lv_istore (lv' := [(10, .int 0), (0, .ref xx), (1, .ref (la 0)), (2, .ref (la 1)), (5, .ref (la 4)), (6, .ref (la 5)), (7, .int y98), (8, .ref sa), (9, .ref sb)]) hx hb dL_isSo_552 hl (by decide) rfl (fun ls hl => ?_)
      refine tL_isSo2_l554 l D cS g cI xx xd xo hh ha z zn q la sa sb r M' C hDa  _ _ M99 y98 0 _ _ _ hF hP hS (lv_sub hl [1, 2, 3, 4, 5, 6, 7, 8, 0] rfl) ?_
      · intro M146 y145 H locs ls hF hP hS hl
        refine lv_iconst (v := 0) hx hb dL_isSo_764 (by decide) ?_
        refine lv_istore (lv' := [(10, .int 0), (0, .ref xx), (1, .ref (la 0)), (2, .ref (la 1)), (7, .int y145), (8, .ref sa), (9, .ref sb)]) hx hb dL_isSo_765 hl (by decide) rfl (fun ls hl => ?_)
        refine tL_isSo2_l767 l D cS g cI xx xd xo hh ha z zn q la sa sb r M' C hDa  _ _ M146 y145 0 _ _ _ hF hP hS (lv_sub hl [1, 2, 3, 4, 5, 6, 0] rfl) ?_
        · intro M162 y161 H locs ls hF hP hS hl
          refine lv_iconst (v := 1) hx hb dL_isSo_830 (by decide) ?_
          refine lv_istore (lv' := [(10, .int 1), (0, .ref xx), (1, .ref (la 0)), (7, .int y161), (9, .ref sb)]) hx hb dL_isSo_831 hl (by decide) rfl (fun ls hl => ?_)
          refine tL_isSo2_l833 l D cS g cI xx xd xo hh ha z zn q la sa sb r M' C hDa  _ _ M162 y161 1 _ _ _ hF hP hS (lv_sub hl [1, 2, 3, 4, 0] rfl) ?_
          · intro M172 y171 H locs ls hF hP hS hl
            refine lv_iload hx hb dL_isSo_872 (lv_at hl 2 rfl) ?_
            refine lv_if_eq (tgt := 952) hx hb dL_isSo_874 (by decide) (fun c173 => ?_) (fun c173 => ?_)
            · have hF := it_t hF c173
              refine lv_iconst (v := 0) hx hb dL_isSo_952 (by decide) ?_
              obtain ⟨hz, hF⟩ := zb_use hF
              obtain ⟨er, eM⟩ := pr_use hF
              exact rt_Zs hx hb hr hlocks hS (by rw [← eM]; exact xs_sub hP) hz er dL_isSo_953
            · have hF := it_f hF c173
              refine lv_aload_n hx hb dL_isSo_877 rfl (lv_at hl 0 rfl) ?_
              refine lv_aload_n hx hb dL_isSo_878 rfl (lv_at hl 1 rfl) ?_
              refine lv_iconst (v := 0) hx hb dL_isSo_879 (by decide) ?_
              obtain ⟨hi, hF⟩ := rd_use hF
              refine va_iald hx hb hK hP 2 0 (pXS_2 cI cS xx xd xo hh ha z zn q la sa sb M172) rfl hi dL_isSo_880 ?_
              refine lv_topi (fun v174 ev174 => ?_)
              have hF := hF v174 ev174
              refine lv_iconst (v := 0) hx hb dL_isSo_881 (by decide) ?_
              obtain ⟨r176, M175, hM175, hF⟩ := b2_use hF
              refine clx_VI ⟨hx, hb, hml, hown, htb⟩ (kX8_room l D cS g cI xx xd xo hh ha z zn q (M172.1.1) v174 0 _ _ hM175) (cwV 2 htb (gX8_room bw3_28) rfl rfl rfl hdX8_room ⟨Nat.le_of_ble_eq_true rfl, Nat.le_of_ble_eq_true rfl⟩) hK (hDa _) hG hA hP hS (sg_XS_XX cI cS xx xd xo hh ha z zn q la sa sb M172 M175) hl.1 rfl 0 (pXX_0 _ _ _ _ _ _ _ _ _ _ _) rfl rfl (Nat.le_of_ble_eq_true rfl) ⟨Nat.le_of_ble_eq_true rfl, Nat.le_of_ble_eq_true rfl⟩ dL_isSo_882 (fun H locs hP hS => ?_)
              obtain ⟨M177, eM177⟩ : ∃ z : XSm, z = ((M175, M172.1.2), M172.2) := ⟨_, rfl⟩
              have hF := nm_use hF eM177
              have hP : va_P D vwCl (wXS cI cS xx xd xo hh ha z zn q la sa sb M177) H := by rw [eM177]; exact hP
              refine lv_iconst (v := (-1)) hx hb dL_isSo_885 (by decide) ?_
              refine lv_icmp_ne (tgt := 952) hx hb dL_isSo_886 (by decide) (fun c178 => ?_) (fun c178 => ?_)
              · have hF := it_f hF c178
                refine lv_iconst (v := 0) hx hb dL_isSo_952 (by decide) ?_
                obtain ⟨hz, hF⟩ := zb_use hF
                obtain ⟨er, eM⟩ := pr_use hF
                exact rt_Zs hx hb hr hlocks hS (by rw [← eM]; exact xs_sub hP) hz er dL_isSo_953
              · have hF := it_t hF c178
                refine lv_aload_n hx hb dL_isSo_889 rfl (lv_at hl 0 rfl) ?_
                refine lv_aload_n hx hb dL_isSo_890 rfl (lv_at hl 1 rfl) ?_
                refine lv_iconst (v := 1) hx hb dL_isSo_891 (by decide) ?_
                obtain ⟨hi, hF⟩ := rd_use hF
                refine va_iald hx hb hK hP 2 0 (pXS_2 cI cS xx xd xo hh ha z zn q la sa sb M177) rfl hi dL_isSo_892 ?_
                refine lv_topi (fun v179 ev179 => ?_)
                have hF := hF v179 ev179
                refine lv_iconst (v := 0) hx hb dL_isSo_893 (by decide) ?_
                obtain ⟨r181, M180, hM180, hF⟩ := b2_use hF
                refine clx_VI ⟨hx, hb, hml, hown, htb⟩ (kX8_booking l D cS g cI xx xd xo hh ha z zn q (M177.1.1) v179 0 _ _ hM180) (cwV 2 htb (gX8_booking bw3_35) rfl rfl rfl hdX8_booking ⟨Nat.le_of_ble_eq_true rfl, Nat.le_of_ble_eq_true rfl⟩) hK (hDa _) hG hA hP hS (sg_XS_XX cI cS xx xd xo hh ha z zn q la sa sb M177 M180) hl.1 rfl 0 (pXX_0 _ _ _ _ _ _ _ _ _ _ _) rfl rfl (Nat.le_of_ble_eq_true rfl) ⟨Nat.le_of_ble_eq_true rfl, Nat.le_of_ble_eq_true rfl⟩ dL_isSo_894 (fun H locs hP hS => ?_)
                obtain ⟨M182, eM182⟩ : ∃ z : XSm, z = ((M180, M177.1.2), M177.2) := ⟨_, rfl⟩
                have hF := nm_use hF eM182
                have hP : va_P D vwCl (wXS cI cS xx xd xo hh ha z zn q la sa sb M182) H := by rw [eM182]; exact hP
                refine lv_iconst (v := (-1)) hx hb dL_isSo_897 (by decide) ?_
                refine lv_icmp_ne (tgt := 952) hx hb dL_isSo_898 (by decide) (fun c183 => ?_) (fun c183 => ?_)
                · have hF := it_f hF c183
                  refine lv_iconst (v := 0) hx hb dL_isSo_952 (by decide) ?_
                  obtain ⟨hz, hF⟩ := zb_use hF
                  obtain ⟨er, eM⟩ := pr_use hF
                  exact rt_Zs hx hb hr hlocks hS (by rw [← eM]; exact xs_sub hP) hz er dL_isSo_953
                · have hF := it_t hF c183
                  refine lv_aload_n hx hb dL_isSo_901 rfl (lv_at hl 0 rfl) ?_
                  refine lv_aload_n hx hb dL_isSo_902 rfl (lv_at hl 1 rfl) ?_
                  refine lv_iconst (v := 2) hx hb dL_isSo_903 (by decide) ?_
                  obtain ⟨hi, hF⟩ := rd_use hF
                  refine va_iald hx hb hK hP 2 0 (pXS_2 cI cS xx xd xo hh ha z zn q la sa sb M182) rfl hi dL_isSo_904 ?_
                  refine lv_topi (fun v184 ev184 => ?_)
                  have hF := hF v184 ev184
                  refine lv_iconst (v := 0) hx hb dL_isSo_905 (by decide) ?_
                  obtain ⟨r186, M185, hM185, hF⟩ := b2_use hF
                  refine clx_VI ⟨hx, hb, hml, hown, htb⟩ (kX8_voucher l D cS g cI xx xd xo hh ha z zn q (M182.1.1) v184 0 _ _ hM185) (cwV 2 htb (gX8_voucher bw3_41) rfl rfl rfl hdX8_voucher ⟨Nat.le_of_ble_eq_true rfl, Nat.le_of_ble_eq_true rfl⟩) hK (hDa _) hG hA hP hS (sg_XS_XX cI cS xx xd xo hh ha z zn q la sa sb M182 M185) hl.1 rfl 0 (pXX_0 _ _ _ _ _ _ _ _ _ _ _) rfl rfl (Nat.le_of_ble_eq_true rfl) ⟨Nat.le_of_ble_eq_true rfl, Nat.le_of_ble_eq_true rfl⟩ dL_isSo_906 (fun H locs hP hS => ?_)
                  obtain ⟨M187, eM187⟩ : ∃ z : XSm, z = ((M185, M182.1.2), M182.2) := ⟨_, rfl⟩
                  have hF := nm_use hF eM187
                  have hP : va_P D vwCl (wXS cI cS xx xd xo hh ha z zn q la sa sb M187) H := by rw [eM187]; exact hP
                  refine lv_iconst (v := (-1)) hx hb dL_isSo_909 (by decide) ?_
                  refine lv_icmp_ne (tgt := 952) hx hb dL_isSo_910 (by decide) (fun c188 => ?_) (fun c188 => ?_)
                  · have hF := it_f hF c188
                    refine lv_iconst (v := 0) hx hb dL_isSo_952 (by decide) ?_
                    obtain ⟨hz, hF⟩ := zb_use hF
                    obtain ⟨er, eM⟩ := pr_use hF
                    exact rt_Zs hx hb hr hlocks hS (by rw [← eM]; exact xs_sub hP) hz er dL_isSo_953
                  · have hF := it_t hF c188
                    refine lv_aload_n hx hb dL_isSo_913 rfl (lv_at hl 0 rfl) ?_
                    refine lv_iconst (v := 0) hx hb dL_isSo_914 (by decide) ?_
                    obtain ⟨r190, M189, hM189, hF⟩ := b2_use hF
                    refine clx_VI ⟨hx, hb, hml, hown, htb⟩ (kX8_money l D cS g cI xx xd xo hh ha z zn q (M187.1.1) 0 _ _ hM189) (cwV 1 htb (gX8_money bw2_20) rfl rfl rfl hdX8_money ⟨Nat.le_of_ble_eq_true rfl, Nat.le_of_ble_eq_true rfl⟩) hK (hDa _) hG hA hP hS (sg_XS_XX cI cS xx xd xo hh ha z zn q la sa sb M187 M189) hl.1 rfl 0 (pXX_0 _ _ _ _ _ _ _ _ _ _ _) rfl rfl (Nat.le_of_ble_eq_true rfl) ⟨Nat.le_of_ble_eq_true rfl, Nat.le_of_ble_eq_true rfl⟩ dL_isSo_915 (fun H locs hP hS => ?_)
                    obtain ⟨M191, eM191⟩ : ∃ z : XSm, z = ((M189, M187.1.2), M187.2) := ⟨_, rfl⟩
                    have hF := nm_use hF eM191
                    have hP : va_P D vwCl (wXS cI cS xx xd xo hh ha z zn q la sa sb M191) H := by rw [eM191]; exact hP
                    refine lv_aload hx hb dL_isSo_918 (lv_at hl 3 rfl) ?_
                    refine lv_bipush (v := 6) hx hb dL_isSo_920 (by decide) ?_
                    obtain ⟨hi, hF⟩ := rd_use hF
                    refine va_iald hx hb hK hP 1 0 (pXS_1 cI cS xx xd xo hh ha z zn q la sa sb M191) rfl hi dL_isSo_922 ?_
                    refine lv_topi (fun v192 ev192 => ?_)
                    have hF := hF v192 ev192
                    refine lv_aload hx hb dL_isSo_923 (lv_at hl 3 rfl) ?_
                    refine lv_iconst (v := 4) hx hb dL_isSo_925 (by decide) ?_
                    obtain ⟨hi, hF⟩ := rd_use hF
                    refine va_iald hx hb hK hP 1 0 (pXS_1 cI cS xx xd xo hh ha z zn q la sa sb M191) rfl hi dL_isSo_926 ?_
                    refine lv_topi (fun v193 ev193 => ?_)
                    have hF := hF v193 ev193
                    refine lv_iadd hx hb dL_isSo_927 ?_
                    refine lv_icmp_ne (tgt := 952) hx hb dL_isSo_928 (by decide) (fun c194 => ?_) (fun c194 => ?_)
                    · have hF := it_f hF c194
                      refine lv_iconst (v := 0) hx hb dL_isSo_952 (by decide) ?_
                      obtain ⟨hz, hF⟩ := zb_use hF
                      obtain ⟨er, eM⟩ := pr_use hF
                      exact rt_Zs hx hb hr hlocks hS (by rw [← eM]; exact xs_sub hP) hz er dL_isSo_953
                    · have hF := it_t hF c194
                      refine lv_aload hx hb dL_isSo_931 (lv_at hl 3 rfl) ?_
                      refine lv_bipush (v := 6) hx hb dL_isSo_933 (by decide) ?_
                      obtain ⟨hi, hF⟩ := rd_use hF
                      refine va_iald hx hb hK hP 1 0 (pXS_1 cI cS xx xd xo hh ha z zn q la sa sb M191) rfl hi dL_isSo_935 ?_
                      refine lv_topi (fun v195 ev195 => ?_)
                      have hF := hF v195 ev195
                      refine lv_aload hx hb dL_isSo_936 (lv_at hl 3 rfl) ?_
                      refine lv_iconst (v := 1) hx hb dL_isSo_938 (by decide) ?_
                      obtain ⟨hi, hF⟩ := rd_use hF
                      refine va_iald hx hb hK hP 1 0 (pXS_1 cI cS xx xd xo hh ha z zn q la sa sb M191) rfl hi dL_isSo_939 ?_
                      refine lv_topi (fun v196 ev196 => ?_)
                      have hF := hF v196 ev196
                      refine lv_aload hx hb dL_isSo_940 (lv_at hl 3 rfl) ?_
                      refine lv_iconst (v := 5) hx hb dL_isSo_942 (by decide) ?_
                      obtain ⟨hi, hF⟩ := rd_use hF
                      refine va_iald hx hb hK hP 1 0 (pXS_1 cI cS xx xd xo hh ha z zn q la sa sb M191) rfl hi dL_isSo_943 ?_
                      refine lv_topi (fun v197 ev197 => ?_)
                      have hF := hF v197 ev197
                      refine lv_iadd hx hb dL_isSo_944 ?_
                      refine lv_icmp_ne (tgt := 952) hx hb dL_isSo_945 (by decide) (fun c198 => ?_) (fun c198 => ?_)
                      · have hF := it_f hF c198
                        refine lv_iconst (v := 0) hx hb dL_isSo_952 (by decide) ?_
                        obtain ⟨hz, hF⟩ := zb_use hF
                        obtain ⟨er, eM⟩ := pr_use hF
                        exact rt_Zs hx hb hr hlocks hS (by rw [← eM]; exact xs_sub hP) hz er dL_isSo_953
                      · have hF := it_t hF c198
                        refine lv_iconst (v := 1) hx hb dL_isSo_948 (by decide) ?_
                        refine lv_goto (tgt := 953) hx hb dL_isSo_949 (by decide) ?_
                        obtain ⟨hz, hF⟩ := zb_use hF
                        obtain ⟨er, eM⟩ := pr_use hF
                        exact rt_Zs hx hb hr hlocks hS (by rw [← eM]; exact xs_sub hP) hz er dL_isSo_953
set_option maxHeartbeats 4000000 in
set_option maxRecDepth 100000 in
theorem kL_isSo (l : Launch) (D : va_G) (cS : ClassId) (g : Nat → Nat) (cI : ClassId) (xx xd xo hh ha : Nat) (z : Nat → Nat → Nat) (zn q : Nat → Nat) (la : Nat → Nat) (N : XLm) (r : Int32) (M' : XLm) (hF : fL_isSo N = some (r, M')) : mIc l yL_isSo vL_isSo rmL_isSo D cI cS g [.ref xx, .ref (la 0), .ref (la 1), .ref (la 2), .ref (la 3), .ref (la 4), .ref (la 5)] (wXL cI cS xx xd xo hh ha z zn q la N) r (wXL cI cS xx xd xo hh ha z zn q la (M')) 2 11 := by
  refine st_Ic rfl (by decide) (Nat.le_of_ble_eq_true rfl) ?_
  intro p e s m args below meth c A ls hx hb hr hml hlocks hown hts hA hK hD0 hG hP hS hl
  have hown : s.vm.findClass RL = some m.cls := hown
  have hDa : ∀ N, va_D A (wXL cI cS xx xd xo hh ha z zn q la N) := fun N => hD0.adr (adr_XL _ _ _ _ _ _ _ _ _ _ _ _ _)
  have htb : ∀ w ∈ BIG, w.before args s = true := fun w h => hts w (List.mem_cons_of_mem _ h)
  have hl : lv_has ls 15 [(0, .ref xx), (1, .ref (la 0)), (2, .ref (la 1)), (3, .ref (la 2)), (4, .ref (la 3)), (5, .ref (la 4)), (6, .ref (la 5))] := hl
  have j65 : ∀ (N : XLm) (s0 : Int32) (H : Heap) (locs : List Loc) (ls : Array Slot), fL_isSo_j65 N s0 = some (r, M') → va_P D vwCl (wXL cI cS xx xd xo hh ha z zn q la N) H → va_S A s.heap H locs → lv_has ls 15 [(0, .ref xx), (1, .ref (la 0)), (2, .ref (la 1)), (3, .ref (la 2)), (4, .ref (la 3)), (5, .ref (la 4)), (6, .ref (la 5))] → W p l e rmL_isSo s m args below meth c H locs 0 0 (MQ below (qI D r (wXL cI cS xx xd xo hh ha z zn q la (M')) A) args s 2 11 A) (F0 m 65 ls [.int s0]) := by
    intro N s0 H locs ls hF hP hS hl
    obtain ⟨r1, N1, hN1, hF⟩ := b2_use hF
    obtain ⟨er, eM⟩ := pr_use hF
    subst er
    subst eM
    refine lv_istore (lv' := [(7, .int s0), (0, .ref xx), (1, .ref (la 0)), (2, .ref (la 1)), (3, .ref (la 2)), (4, .ref (la 3)), (5, .ref (la 4)), (6, .ref (la 5))]) hx hb dL_isSo_65 hl (by decide) rfl (fun ls hl => ?_)
    refine lv_iconst (v := 4) hx hb dL_isSo_67 (by decide) ?_
    refine nw_I (k := 4) (N' := 4) hx hb (htb _ bw1_54) hK hP (hDa _) hS hA (by decide) (by decide) (by decide) (Nat.le_of_ble_eq_true rfl) (Nat.le_of_ble_eq_true rfl) dL_isSo_68 (fun sa H hP hD hS => ?_)
    refine lv_astore (lv' := (8, .ref sa) :: [(7, .int s0), (0, .ref xx), (1, .ref (la 0)), (2, .ref (la 1)), (3, .ref (la 2)), (4, .ref (la 3)), (5, .ref (la 4)), (6, .ref (la 5))]) hx hb dL_isSo_70 hl (by decide) rfl (fun ls hl => ?_)
    refine lv_bipush (v := 7) hx hb dL_isSo_72 (by decide) ?_
    refine nw_I (k := 7) (N' := 7) hx hb (htb _ bw1_54) hK hP hD hS hA (by decide) (by decide) (by decide) (Nat.le_of_ble_eq_true rfl) (Nat.le_of_ble_eq_true rfl) dL_isSo_74 (fun sb H hP hD hS => ?_)
    refine lv_astore (lv' := (9, .ref sb) :: (8, .ref sa) :: [(7, .int s0), (0, .ref xx), (1, .ref (la 0)), (2, .ref (la 1)), (3, .ref (la 2)), (4, .ref (la 3)), (5, .ref (la 4)), (6, .ref (la 5))]) hx hb dL_isSo_76 hl (by decide) rfl (fun ls hl => ?_)
    have pm : List.Perm (((wXL cI cS xx xd xo hh ha z zn q la N) ++ [(sa, .inl (cI, 4, .inl (fun _ => 0)))]) ++ [(sb, .inl (cI, 7, .inl (fun _ => 0)))] : va_W) (wXS cI cS xx xd xo hh ha z zn q la sa sb (N, (fun _ => 0), (fun _ => 0))) := by
      rw [List.append_assoc]
      exact List.perm_append_comm
    have hP := va_P.perm pm hP
    have hD := va_D.perm pm hD
    exact tL_isSo2_j78 l D cS g cI xx xd xo hh ha z zn q la sa sb r1 N1 ⟨hx, hb, hr, hml, hlocks, hown, htb, hA, hK, hG⟩ (fun _ => hD.adr (adr_XS _ _ _ _ _ _ _ _ _ _ _ _ _ _ _)) (N, (fun _ => 0), (fun _ => 0)) s0 _ _ _ hN1 hP hS (lv_sub hl [3, 4, 5, 6, 7, 8, 9, 2, 1, 0] rfl)
  have j64 : ∀ (N : XLm) (H : Heap) (locs : List Loc) (ls : Array Slot), fL_isSo_j64 N = some (r, M') → va_P D vwCl (wXL cI cS xx xd xo hh ha z zn q la N) H → va_S A s.heap H locs → lv_has ls 15 [(0, .ref xx), (1, .ref (la 0)), (2, .ref (la 1)), (3, .ref (la 2)), (4, .ref (la 3)), (5, .ref (la 4)), (6, .ref (la 5))] → W p l e rmL_isSo s m args below meth c H locs 0 0 (MQ below (qI D r (wXL cI cS xx xd xo hh ha z zn q la (M')) A) args s 2 11 A) (F0 m 64 ls []) := by
    intro N H locs ls hF hP hS hl
    refine lv_iconst (v := 0) hx hb dL_isSo_64 (by decide) ?_
    exact j65 N 0 _ _ _ hF hP hS (lv_sub hl [0, 1, 2, 3, 4, 5, 6] rfl)
  refine lv_aload_n hx hb dL_isSo_0 rfl (lv_at hl 0 rfl) ?_
  refine lv_iconst (v := 0) hx hb dL_isSo_1 (by decide) ?_
  obtain ⟨r2, M1, hM1, hF⟩ := b2_use hF
  refine cl_VI ⟨hx, hb, hml, hown, htb⟩ (kX8_count l D cS g cI xx xd xo hh ha z zn q (N.1) 0 _ _ hM1) (cwV 1 htb (gX8_count bw1_224) rfl rfl rfl hdX8_count ⟨Nat.le_of_ble_eq_true rfl, Nat.le_of_ble_eq_true rfl⟩) hK (hDa _) hG hA hP hS (sg_XL_XX cI cS xx xd xo hh ha z zn q la N M1) hl.1 rfl 0 (pXX_0 _ _ _ _ _ _ _ _ _ _ _) rfl rfl (Nat.le_of_ble_eq_true rfl) dL_isSo_2 (fun H locs hP hS => ?_)
  obtain ⟨M3, eM3⟩ : ∃ z : XLm, z = (M1, N.2) := ⟨_, rfl⟩
  have hF := nm_use hF eM3
  have hP : va_P D vwCl (wXL cI cS xx xd xo hh ha z zn q la M3) H := by rw [eM3]; exact hP
  refine lv_aload_n hx hb dL_isSo_5 rfl (lv_at hl 1 rfl) ?_
  refine lv_iconst (v := 0) hx hb dL_isSo_6 (by decide) ?_
  obtain ⟨hi, hF⟩ := rd_use hF
  refine va_iald hx hb hK hP 0 0 (pXL_0 cI cS xx xd xo hh ha z zn q la M3) rfl hi dL_isSo_7 ?_
  refine lv_topi (fun v4 ev4 => ?_)
  have hF := hF v4 ev4
  refine lv_icmp_ne (tgt := 64) hx hb dL_isSo_8 (by decide) (fun c5 => ?_) (fun c5 => ?_)
  · have hF := it_f hF c5
    exact j64 M3 _ _ _ hF hP hS (lv_sub hl [0, 1, 2, 3, 4, 5, 6] rfl)
  · have hF := it_t hF c5
    refine lv_aload_n hx hb dL_isSo_11 rfl (lv_at hl 0 rfl) ?_
    refine lv_iconst (v := 1) hx hb dL_isSo_12 (by decide) ?_
    obtain ⟨r7, M6, hM6, hF⟩ := b2_use hF
    refine cl_VI ⟨hx, hb, hml, hown, htb⟩ (kX8_count l D cS g cI xx xd xo hh ha z zn q (M3.1) 1 _ _ hM6) (cwV 1 htb (gX8_count bw1_224) rfl rfl rfl hdX8_count ⟨Nat.le_of_ble_eq_true rfl, Nat.le_of_ble_eq_true rfl⟩) hK (hDa _) hG hA hP hS (sg_XL_XX cI cS xx xd xo hh ha z zn q la M3 M6) hl.1 rfl 0 (pXX_0 _ _ _ _ _ _ _ _ _ _ _) rfl rfl (Nat.le_of_ble_eq_true rfl) dL_isSo_13 (fun H locs hP hS => ?_)
    obtain ⟨M8, eM8⟩ : ∃ z : XLm, z = (M6, M3.2) := ⟨_, rfl⟩
    have hF := nm_use hF eM8
    have hP : va_P D vwCl (wXL cI cS xx xd xo hh ha z zn q la M8) H := by rw [eM8]; exact hP
    refine lv_aload_n hx hb dL_isSo_16 rfl (lv_at hl 1 rfl) ?_
    refine lv_iconst (v := 1) hx hb dL_isSo_17 (by decide) ?_
    obtain ⟨hi, hF⟩ := rd_use hF
    refine va_iald hx hb hK hP 0 0 (pXL_0 cI cS xx xd xo hh ha z zn q la M8) rfl hi dL_isSo_18 ?_
    refine lv_topi (fun v9 ev9 => ?_)
    have hF := hF v9 ev9
    refine lv_icmp_ne (tgt := 64) hx hb dL_isSo_19 (by decide) (fun c10 => ?_) (fun c10 => ?_)
    · have hF := it_f hF c10
      exact j64 M8 _ _ _ hF hP hS (lv_sub hl [0, 1, 2, 3, 4, 5, 6] rfl)
    · have hF := it_t hF c10
      refine lv_aload_n hx hb dL_isSo_22 rfl (lv_at hl 0 rfl) ?_
      refine lv_iconst (v := 2) hx hb dL_isSo_23 (by decide) ?_
      obtain ⟨r12, M11, hM11, hF⟩ := b2_use hF
      refine cl_VI ⟨hx, hb, hml, hown, htb⟩ (kX8_count l D cS g cI xx xd xo hh ha z zn q (M8.1) 2 _ _ hM11) (cwV 1 htb (gX8_count bw1_224) rfl rfl rfl hdX8_count ⟨Nat.le_of_ble_eq_true rfl, Nat.le_of_ble_eq_true rfl⟩) hK (hDa _) hG hA hP hS (sg_XL_XX cI cS xx xd xo hh ha z zn q la M8 M11) hl.1 rfl 0 (pXX_0 _ _ _ _ _ _ _ _ _ _ _) rfl rfl (Nat.le_of_ble_eq_true rfl) dL_isSo_24 (fun H locs hP hS => ?_)
      obtain ⟨M13, eM13⟩ : ∃ z : XLm, z = (M11, M8.2) := ⟨_, rfl⟩
      have hF := nm_use hF eM13
      have hP : va_P D vwCl (wXL cI cS xx xd xo hh ha z zn q la M13) H := by rw [eM13]; exact hP
      refine lv_aload_n hx hb dL_isSo_27 rfl (lv_at hl 1 rfl) ?_
      refine lv_iconst (v := 2) hx hb dL_isSo_28 (by decide) ?_
      obtain ⟨hi, hF⟩ := rd_use hF
      refine va_iald hx hb hK hP 0 0 (pXL_0 cI cS xx xd xo hh ha z zn q la M13) rfl hi dL_isSo_29 ?_
      refine lv_topi (fun v14 ev14 => ?_)
      have hF := hF v14 ev14
      refine lv_icmp_ne (tgt := 64) hx hb dL_isSo_30 (by decide) (fun c15 => ?_) (fun c15 => ?_)
      · have hF := it_f hF c15
        exact j64 M13 _ _ _ hF hP hS (lv_sub hl [0, 1, 2, 3, 4, 5, 6] rfl)
      · have hF := it_t hF c15
        refine lv_aload_n hx hb dL_isSo_33 rfl (lv_at hl 0 rfl) ?_
        refine lv_iconst (v := 3) hx hb dL_isSo_34 (by decide) ?_
        obtain ⟨r17, M16, hM16, hF⟩ := b2_use hF
        refine cl_VI ⟨hx, hb, hml, hown, htb⟩ (kX8_count l D cS g cI xx xd xo hh ha z zn q (M13.1) 3 _ _ hM16) (cwV 1 htb (gX8_count bw1_224) rfl rfl rfl hdX8_count ⟨Nat.le_of_ble_eq_true rfl, Nat.le_of_ble_eq_true rfl⟩) hK (hDa _) hG hA hP hS (sg_XL_XX cI cS xx xd xo hh ha z zn q la M13 M16) hl.1 rfl 0 (pXX_0 _ _ _ _ _ _ _ _ _ _ _) rfl rfl (Nat.le_of_ble_eq_true rfl) dL_isSo_35 (fun H locs hP hS => ?_)
        obtain ⟨M18, eM18⟩ : ∃ z : XLm, z = (M16, M13.2) := ⟨_, rfl⟩
        have hF := nm_use hF eM18
        have hP : va_P D vwCl (wXL cI cS xx xd xo hh ha z zn q la M18) H := by rw [eM18]; exact hP
        refine lv_if_ne (tgt := 64) hx hb dL_isSo_38 (by decide) (fun c19 => ?_) (fun c19 => ?_)
        · have hF := it_f hF c19
          exact j64 M18 _ _ _ hF hP hS (lv_sub hl [0, 1, 2, 3, 4, 5, 6] rfl)
        · have hF := it_t hF c19
          refine lv_aload_n hx hb dL_isSo_41 rfl (lv_at hl 0 rfl) ?_
          refine lv_iconst (v := 5) hx hb dL_isSo_42 (by decide) ?_
          obtain ⟨r21, M20, hM20, hF⟩ := b2_use hF
          refine cl_VI ⟨hx, hb, hml, hown, htb⟩ (kX8_count l D cS g cI xx xd xo hh ha z zn q (M18.1) 5 _ _ hM20) (cwV 1 htb (gX8_count bw1_224) rfl rfl rfl hdX8_count ⟨Nat.le_of_ble_eq_true rfl, Nat.le_of_ble_eq_true rfl⟩) hK (hDa _) hG hA hP hS (sg_XL_XX cI cS xx xd xo hh ha z zn q la M18 M20) hl.1 rfl 0 (pXX_0 _ _ _ _ _ _ _ _ _ _ _) rfl rfl (Nat.le_of_ble_eq_true rfl) dL_isSo_43 (fun H locs hP hS => ?_)
          obtain ⟨M22, eM22⟩ : ∃ z : XLm, z = (M20, M18.2) := ⟨_, rfl⟩
          have hF := nm_use hF eM22
          have hP : va_P D vwCl (wXL cI cS xx xd xo hh ha z zn q la M22) H := by rw [eM22]; exact hP
          refine lv_if_ne (tgt := 64) hx hb dL_isSo_46 (by decide) (fun c23 => ?_) (fun c23 => ?_)
          · have hF := it_f hF c23
            exact j64 M22 _ _ _ hF hP hS (lv_sub hl [0, 1, 2, 3, 4, 5, 6] rfl)
          · have hF := it_t hF c23
            refine lv_aload_n hx hb dL_isSo_49 rfl (lv_at hl 0 rfl) ?_
            refine lv_iconst (v := 0) hx hb dL_isSo_50 (by decide) ?_
            obtain ⟨r25, M24, hM24, hF⟩ := b2_use hF
            refine cl_VI ⟨hx, hb, hml, hown, htb⟩ (kX8_money l D cS g cI xx xd xo hh ha z zn q (M22.1) 0 _ _ hM24) (cwV 1 htb (gX8_money bw2_20) rfl rfl rfl hdX8_money ⟨Nat.le_of_ble_eq_true rfl, Nat.le_of_ble_eq_true rfl⟩) hK (hDa _) hG hA hP hS (sg_XL_XX cI cS xx xd xo hh ha z zn q la M22 M24) hl.1 rfl 0 (pXX_0 _ _ _ _ _ _ _ _ _ _ _) rfl rfl (Nat.le_of_ble_eq_true rfl) dL_isSo_51 (fun H locs hP hS => ?_)
            obtain ⟨M26, eM26⟩ : ∃ z : XLm, z = (M24, M22.2) := ⟨_, rfl⟩
            have hF := nm_use hF eM26
            have hP : va_P D vwCl (wXL cI cS xx xd xo hh ha z zn q la M26) H := by rw [eM26]; exact hP
            refine lv_aload_n hx hb dL_isSo_54 rfl (lv_at hl 1 rfl) ?_
            refine lv_iconst (v := 3) hx hb dL_isSo_55 (by decide) ?_
            obtain ⟨hi, hF⟩ := rd_use hF
            refine va_iald hx hb hK hP 0 0 (pXL_0 cI cS xx xd xo hh ha z zn q la M26) rfl hi dL_isSo_56 ?_
            refine lv_topi (fun v27 ev27 => ?_)
            have hF := hF v27 ev27
            refine lv_icmp_ne (tgt := 64) hx hb dL_isSo_57 (by decide) (fun c28 => ?_) (fun c28 => ?_)
            · have hF := it_f hF c28
              exact j64 M26 _ _ _ hF hP hS (lv_sub hl [0, 1, 2, 3, 4, 5, 6] rfl)
            · have hF := it_t hF c28
              refine lv_iconst (v := 1) hx hb dL_isSo_60 (by decide) ?_
              refine lv_goto (tgt := 65) hx hb dL_isSo_61 (by decide) ?_
              exact j65 M26 1 _ _ _ hF hP hS (lv_sub hl [0, 1, 2, 3, 4, 5, 6] rfl)

noncomputable def fL_acts_l83  (x8 : Int32) (x10 : Int32) (kk : XLm → Option (Int32 × XLm)) : Nat → XLm → Int32 → Option (Int32 × XLm) := fun fu => Nat.rec (motive := fun _ => XLm → Int32 → Option (Int32 × XLm)) (fun _ _ => none) (fun _ ih => fun N x11 => if 11 ≤ x11 then (kk N) else (Wr (N.2.2.2.1) 33 (x10 + x11) 0 fun f9 => nm ((N.1, (N.2.1, N.2.2.1, f9, N.2.2.2.2))) fun M10 => nm (x11 + 1) fun v11 => ih M10 v11)) fu
theorem fL_acts_l83_s  (x8 : Int32) (x10 : Int32) (kk : XLm → Option (Int32 × XLm)) (fu : Nat) (N : XLm) (x11 : Int32) : fL_acts_l83 x8 x10 kk (fu + 1) N x11 = (if 11 ≤ x11 then (kk N) else (Wr (N.2.2.2.1) 33 (x10 + x11) 0 fun f9 => nm ((N.1, (N.2.1, N.2.2.1, f9, N.2.2.2.2))) fun M10 => nm (x11 + 1) fun v11 => (fL_acts_l83 x8 x10 kk fu) M10 v11)) := rfl
theorem fL_acts_l83_z  (x8 : Int32) (x10 : Int32) (kk : XLm → Option (Int32 × XLm)) (N : XLm) (x11 : Int32) : fL_acts_l83 x8 x10 kk 0 N x11 = none := rfl
noncomputable def fL_acts_j72  (N : XLm) (x8 : Int32) : Option (Int32 × XLm) := Rd (N.2.1) 5 0 fun v6 => nm (11 * v6) fun v7 => fL_acts_l83 x8 v7 (fun M12 => Mo x8 101 fun v13 => Wr (M12.2.2.2.1) 33 v7 (20 + v13) fun f14 => nm ((M12.1, (M12.2.1, M12.2.2.1, f14, M12.2.2.2.2))) fun M15 => Dv x8 101 fun v16 => Mo v16 61 fun v17 => Wr (M15.2.2.2.1) 33 (v7 + 1) v17 fun f18 => nm ((M15.1, (M15.2.1, M15.2.2.1, f18, M15.2.2.2.2))) fun M19 => Dv x8 7 fun v20 => Mo v20 200 fun v21 => Wr (M19.2.2.2.1) 33 (v7 + 2) (1 + v21) fun f22 => nm ((M19.1, (M19.2.1, M19.2.2.1, f22, M19.2.2.2.2))) fun M23 => Dv x8 11 fun v24 => Mo v24 7 fun v25 => Wr (M23.2.2.2.1) 33 (v7 + 3) (2 + v25) fun f26 => nm ((M23.1, (M23.2.1, M23.2.2.1, f26, M23.2.2.2.2))) fun M27 => Rd (M27.2.1) 5 0 fun v28 => Wr (M27.2.1) 5 0 (v28 + 1) fun f29 => nm ((M27.1, (f29, M27.2.2))) fun M30 => Rd (M30.2.2.2.1) 33 v7 fun v31 => Rd (M30.2.2.2.1) 33 (v7 + 1) fun v32 => Rd (M30.2.2.2.1) 33 (v7 + 2) fun v33 => Rd (M30.2.2.2.1) 33 (v7 + 3) fun v34 => b2 (fX8_addRoom (M30.1) v31 v32 v33 v34) fun r36 M35 => nm ((M35, M30.2)) fun M37 => Rd (M37.2.1) 5 0 fun v38 => if r36 = (v38 - 1) then (Zb 1 (some (1, M37))) else (Zb 0 (some (0, M37)))) FU N 0
noncomputable def fL_acts_j32  (N : XLm) (x8 : Int32) : Option (Int32 × XLm) := Rd (N.2.1) 5 0 fun v4 => if v4 = 3 then (b2 (fX8_addRoom (N.1) 19 0 1 2) fun r41 M40 => nm ((M40, N.2)) fun M42 => if r41 = (-1) then (b2 (fX8_addRoom (M42.1) 20 61 1 2) fun r45 M44 => nm ((M44, M42.2)) fun M46 => if r45 = (-1) then (Zb 1 (some (1, M46))) else (Zb 0 (some (0, M46)))) else (Zb 0 (some (0, M42)))) else (fL_acts_j72 N x8)
noncomputable def fL_acts_j2020  (N : XLm) (x11 : Int32) (x13 : Int32) (x14 : Int32) (x15 : Int32) (x17 : Int32) (x20 : Int32) (s1 : Int32) (s2 : Int32) (s3 : Int32) : Option (Int32 × XLm) := Wr (N.2.2.2.1) 33 s1 (s2 + s3) fun f124 => nm ((N.1, (N.2.1, N.2.2.1, f124, N.2.2.2.2))) fun M125 => Rd (M125.2.2.2.2.1) 63 ((9 * x11) + 4) fun v126 => (fL_share (M125.2) v126 x17).bind fun r127 => (fL_refunds (M125.2) x11 r127).bind fun M128 => nm ((M125.1, M128)) fun M129 => b2 (fX8_play (M129.1) x11 x13 x14 x15) fun r131 M130 => nm ((M130, M129.2)) fun M132 => if r131 = x20 then (Zb 1 (some (1, M132))) else (Zb 0 (some (0, M132)))
noncomputable def fL_acts_j2019  (N : XLm) (x11 : Int32) (x13 : Int32) (x14 : Int32) (x15 : Int32) (x17 : Int32) (x20 : Int32) (s1 : Int32) (s2 : Int32) : Option (Int32 × XLm) := fL_acts_j2020 N x11 x13 x14 x15 x17 x20 s1 s2 0
noncomputable def fL_acts_j1992  (N : XLm) (x11 : Int32) (x13 : Int32) (x14 : Int32) (x15 : Int32) (x16 : Int32) (x17 : Int32) (x18 : Int32) (x20 : Int32) (s1 : Int32) (s2 : Int32) : Option (Int32 × XLm) := Wr (N.2.2.2.1) 33 s1 s2 fun f119 => nm ((N.1, (N.2.1, N.2.2.1, f119, N.2.2.2.2))) fun M120 => nm (x16 + 10) fun v121 => Rd (M120.2.2.2.1) 33 v121 fun v122 => if x13 ≤ 0 then (fL_acts_j2019 M120 x11 x13 x14 x15 x17 x20 v121 v122) else (Rd (M120.2.2.2.1) 33 x16 fun v134 => if x18 ≤ v134 then (fL_acts_j2019 M120 x11 x13 x14 x15 x17 x20 v121 v122) else (fL_acts_j2020 M120 x11 x13 x14 x15 x17 x20 v121 v122 1))
noncomputable def fL_acts_j1936  (N : XLm) (x11 : Int32) (x13 : Int32) (x14 : Int32) (x15 : Int32) (x16 : Int32) (x17 : Int32) (x18 : Int32) (x20 : Int32) (s1 : Int32) (s2 : Int32) (s3 : Int32) : Option (Int32 × XLm) := Wr (N.2.2.2.1) 33 s1 (s2 + s3) fun f106 => nm ((N.1, (N.2.1, N.2.2.1, f106, N.2.2.2.2))) fun M107 => nm (x16 + 7) fun v108 => Rd (M107.2.2.2.1) 33 v108 fun v109 => Wr (M107.2.2.2.1) 33 v108 (v109 + x14) fun f110 => nm ((M107.1, (M107.2.1, M107.2.2.1, f110, M107.2.2.2.2))) fun M111 => nm (x16 + 8) fun v112 => Rd (M111.2.2.2.1) 33 v112 fun v113 => Wr (M111.2.2.2.1) 33 v112 (v113 + x20) fun f114 => nm ((M111.1, (M111.2.1, M111.2.2.1, f114, M111.2.2.2.2))) fun M115 => Rd (M115.2.2.2.1) 33 (x16 + 9) fun v116 => if x17 ≤ v116 then (Rd (M115.2.2.2.1) 33 (x16 + 9) fun v118 => fL_acts_j1992 M115 x11 x13 x14 x15 x16 x17 x18 x20 (x16 + 9) v118) else (fL_acts_j1992 M115 x11 x13 x14 x15 x16 x17 x18 x20 (x16 + 9) x17)
noncomputable def fL_acts_j1824  (N : XLm) (x11 : Int32) (x13 : Int32) (x14 : Int32) (x15 : Int32) (x16 : Int32) (x17 : Int32) (x18 : Int32) (x19 : Int32) (s0 : Int32) : Option (Int32 × XLm) := Wr (N.2.2.2.2.1) 63 ((9 * x11) + 3) 1 fun f87 => nm ((N.1, (N.2.1, N.2.2.1, N.2.2.2.1, f87, N.2.2.2.2.2))) fun M88 => Rd (M88.2.2.2.2.1) 63 ((9 * x11) + 1) fun v89 => Wr (M88.2.2.2.2.1) 63 ((9 * x11) + 7) (v89 + x17) fun f90 => nm ((M88.1, (M88.2.1, M88.2.2.1, M88.2.2.2.1, f90, M88.2.2.2.2.2))) fun M91 => Wr (M91.2.2.2.2.1) 63 ((9 * x11) + 8) s0 fun f92 => nm ((M91.1, (M91.2.1, M91.2.2.1, M91.2.2.2.1, f92, M91.2.2.2.2.2))) fun M93 => Rd (M93.2.2.2.2.1) 63 ((9 * x11) + 7) fun v94 => Rd (M93.2.2.2.1) 33 (x16 + 1) fun v95 => Rd (M93.2.2.1) 5 2 fun v96 => Wr (M93.2.2.2.1) 33 (x16 + 4) (((v94 + s0) + v95) + (x15 * v96)) fun f97 => nm ((M93.1, (M93.2.1, M93.2.2.1, f97, M93.2.2.2.2))) fun M98 => nm (x16 + 5) fun v99 => Rd (M98.2.2.2.1) 33 v99 fun v100 => Wr (M98.2.2.2.1) 33 v99 (v100 + 1) fun f101 => nm ((M98.1, (M98.2.1, M98.2.2.1, f101, M98.2.2.2.2))) fun M102 => nm (x16 + 6) fun v103 => Rd (M102.2.2.2.1) 33 v103 fun v104 => if x19 = 0 then (fL_acts_j1936 M102 x11 x13 x14 x15 x16 x17 x18 s0 v103 v104 0) else (fL_acts_j1936 M102 x11 x13 x14 x15 x16 x17 x18 s0 v103 v104 1)
noncomputable def fL_acts_j1792  (N : XLm) (x11 : Int32) (x13 : Int32) (x14 : Int32) (x15 : Int32) (x16 : Int32) (x17 : Int32) (x18 : Int32) (s0 : Int32) : Option (Int32 × XLm) := if x13 = 0 then (Rd (N.2.2.2.1) 33 x16 fun v136 => fL_acts_j1824 N x11 x13 x14 x15 x16 x17 x18 s0 v136) else (if s0 = 0 then (Rd (N.2.2.2.1) 33 x16 fun v85 => Rd (N.2.2.1) 5 1 fun v86 => fL_acts_j1824 N x11 x13 x14 x15 x16 x17 x18 s0 (v85 + v86)) else (fL_acts_j1824 N x11 x13 x14 x15 x16 x17 x18 s0 x18))
noncomputable def fL_acts_j1791  (N : XLm) (x11 : Int32) (x13 : Int32) (x14 : Int32) (x15 : Int32) (x16 : Int32) (x17 : Int32) (x18 : Int32) : Option (Int32 × XLm) := fL_acts_j1792 N x11 x13 x14 x15 x16 x17 x18 0
noncomputable def fL_acts_j1739  (N : XLm) (x10 : Int32) (x11 : Int32) (x13 : Int32) (x14 : Int32) (x15 : Int32) : Option (Int32 × XLm) := nm (11 * x10) fun v78 => (fL_late (N.2) x11 0).bind fun r79 => Rd (N.2.2.1) 5 0 fun v80 => nm (x13 + (x14 * v80)) fun v81 => if x13 ≤ 0 then (fL_acts_j1791 N x11 x13 x14 x15 v78 r79 v81) else (Rd (N.2.2.2.1) 33 v78 fun v137 => Rd (N.2.2.1) 5 1 fun v138 => if (v137 + v138) < v81 then (fL_acts_j1791 N x11 x13 x14 x15 v78 r79 v81) else (fL_acts_j1792 N x11 x13 x14 x15 v78 r79 v81 1))
noncomputable def fL_acts_j1700  (N : XLm) (x10 : Int32) (x13 : Int32) (x14 : Int32) (x15 : Int32) (s0 : Int32) : Option (Int32 × XLm) := (fL_next (N.2) x10 0).bind fun r76 => if r76 = s0 then (fL_acts_j1739 N x10 s0 x13 x14 x15) else (b2 (fX8_play (N.1) s0 x13 x14 x15) fun r141 M140 => nm ((M140, N.2)) fun M142 => if r141 = (-2) then (Zb 1 (some (1, M142))) else (Zb 0 (some (0, M142))))
noncomputable def fL_acts_j1698  (N : XLm) (x10 : Int32) (x11 : Int32) (x13 : Int32) (x14 : Int32) (x15 : Int32) : Option (Int32 × XLm) := fL_acts_j1700 N x10 x13 x14 x15 x11
noncomputable def fL_acts_j1643  (N : XLm) (x8 : Int32) (x9 : Int32) (x10 : Int32) (x11 : Int32) (s0 : Int32) (s1 : Int32) : Option (Int32 × XLm) := Mo s0 s1 fun v70 => Dv x8 7 fun v71 => Mo v71 21 fun v72 => Dv x8 147 fun v73 => Mo v73 10 fun v74 => if 24 ≤ x9 then (fL_acts_j1698 N x10 x11 v70 v72 v74) else ((fL_next (N.2) x10 0).bind fun r144 => if r144 < 0 then (fL_acts_j1698 N x10 x11 v70 v72 v74) else ((fL_next (N.2) x10 0).bind fun r146 => fL_acts_j1700 N x10 v70 v72 v74 r146))
noncomputable def fL_acts_j1617  (N : XLm) (x8 : Int32) (x9 : Int32) (x10 : Int32) (x11 : Int32) : Option (Int32 × XLm) := Dv x8 21 fun v67 => Mo x8 3 fun v68 => if v68 = 0 then (Rd (N.2.2.2.1) 33 (11 * x10) fun v147 => fL_acts_j1643 N x8 x9 x10 x11 v67 (v147 + 1)) else (fL_acts_j1643 N x8 x9 x10 x11 v67 20)
noncomputable def fL_acts_j1310  (N : XLm) (x11 : Int32) (x13 : Int32) : Option (Int32 × XLm) := b2 (fX8_merge (N.1) x11 x13) fun r154 M153 => nm ((M153, N.2)) fun M155 => if r154 = (-2) then (Zb 1 (some (1, M155))) else (Zb 0 (some (0, M155)))
noncomputable def fL_acts_j1578  (x11 : Int32) (x13 : Int32) (x14 : Int32) (x15 : Int32) (kk : XLm → Option (Int32 × XLm)) (ih : XLm → Int32 → Option (Int32 × XLm)) (N : XLm) (x16 : Int32) : Option (Int32 × XLm) := nm (x16 + 1) fun v194 => ih N v194
noncomputable def fL_acts_l1512  (x11 : Int32) (x13 : Int32) (x14 : Int32) (x15 : Int32) (kk : XLm → Option (Int32 × XLm)) : Nat → XLm → Int32 → Option (Int32 × XLm) := fun fu => Nat.rec (motive := fun _ => XLm → Int32 → Option (Int32 × XLm)) (fun _ _ => none) (fun _ ih => fun N x16 => Rd (N.2.1) 5 1 fun v190 => if v190 ≤ x16 then (kk N) else (Rd (N.2.2.2.2.2.1) 28 ((4 * x16) + 2) fun v192 => if v192 = x11 then (Rd (N.2.2.2.2.2.1) 28 ((4 * x16) + 3) fun v195 => if v195 = x15 then (Wr (N.2.2.2.2.2.1) 28 ((4 * x16) + 2) x13 fun f197 => nm ((N.1, (N.2.1, N.2.2.1, N.2.2.2.1, N.2.2.2.2.1, f197, N.2.2.2.2.2.2))) fun M198 => Rd (M198.2.1) 5 4 fun v199 => Wr (M198.2.2.2.2.2.1) 28 ((4 * x16) + 3) v199 fun f200 => nm ((M198.1, (M198.2.1, M198.2.2.1, M198.2.2.2.1, M198.2.2.2.2.1, f200, M198.2.2.2.2.2.2))) fun M201 => Rd (M201.2.1) 5 4 fun v202 => Wr (M201.2.1) 5 4 (v202 + 1) fun f203 => nm ((M201.1, (f203, M201.2.2))) fun M204 => fL_acts_j1578 x11 x13 x14 x15 kk ih M204 x16) else (fL_acts_j1578 x11 x13 x14 x15 kk ih N x16)) else (fL_acts_j1578 x11 x13 x14 x15 kk ih N x16))) fu
theorem fL_acts_l1512_s  (x11 : Int32) (x13 : Int32) (x14 : Int32) (x15 : Int32) (kk : XLm → Option (Int32 × XLm)) (fu : Nat) (N : XLm) (x16 : Int32) : fL_acts_l1512 x11 x13 x14 x15 kk (fu + 1) N x16 = (Rd (N.2.1) 5 1 fun v190 => if v190 ≤ x16 then (kk N) else (Rd (N.2.2.2.2.2.1) 28 ((4 * x16) + 2) fun v192 => if v192 = x11 then (Rd (N.2.2.2.2.2.1) 28 ((4 * x16) + 3) fun v195 => if v195 = x15 then (Wr (N.2.2.2.2.2.1) 28 ((4 * x16) + 2) x13 fun f197 => nm ((N.1, (N.2.1, N.2.2.1, N.2.2.2.1, N.2.2.2.2.1, f197, N.2.2.2.2.2.2))) fun M198 => Rd (M198.2.1) 5 4 fun v199 => Wr (M198.2.2.2.2.2.1) 28 ((4 * x16) + 3) v199 fun f200 => nm ((M198.1, (M198.2.1, M198.2.2.1, M198.2.2.2.1, M198.2.2.2.2.1, f200, M198.2.2.2.2.2.2))) fun M201 => Rd (M201.2.1) 5 4 fun v202 => Wr (M201.2.1) 5 4 (v202 + 1) fun f203 => nm ((M201.1, (f203, M201.2.2))) fun M204 => fL_acts_j1578 x11 x13 x14 x15 kk (fL_acts_l1512 x11 x13 x14 x15 kk fu) M204 x16) else (fL_acts_j1578 x11 x13 x14 x15 kk (fL_acts_l1512 x11 x13 x14 x15 kk fu) N x16)) else (fL_acts_j1578 x11 x13 x14 x15 kk (fL_acts_l1512 x11 x13 x14 x15 kk fu) N x16))) := rfl
theorem fL_acts_l1512_z  (x11 : Int32) (x13 : Int32) (x14 : Int32) (x15 : Int32) (kk : XLm → Option (Int32 × XLm)) (N : XLm) (x16 : Int32) : fL_acts_l1512 x11 x13 x14 x15 kk 0 N x16 = none := rfl
noncomputable def fL_acts_l1502  (x11 : Int32) (x13 : Int32) (x14 : Int32) (kk : XLm → Option (Int32 × XLm)) : Nat → XLm → Int32 → Option (Int32 × XLm) := fun fu => Nat.rec (motive := fun _ => XLm → Int32 → Option (Int32 × XLm)) (fun _ _ => none) (fun _ ih => fun N x15 => if x14 ≤ x15 then (kk N) else (fL_acts_l1512 x11 x13 x14 x15 (fun M205 => nm (x15 + 1) fun v206 => ih M205 v206) FU N 0)) fu
theorem fL_acts_l1502_s  (x11 : Int32) (x13 : Int32) (x14 : Int32) (kk : XLm → Option (Int32 × XLm)) (fu : Nat) (N : XLm) (x15 : Int32) : fL_acts_l1502 x11 x13 x14 kk (fu + 1) N x15 = (if x14 ≤ x15 then (kk N) else (fL_acts_l1512 x11 x13 x14 x15 (fun M205 => nm (x15 + 1) fun v206 => (fL_acts_l1502 x11 x13 x14 kk fu) M205 v206) FU N 0)) := rfl
theorem fL_acts_l1502_z  (x11 : Int32) (x13 : Int32) (x14 : Int32) (kk : XLm → Option (Int32 × XLm)) (N : XLm) (x15 : Int32) : fL_acts_l1502 x11 x13 x14 kk 0 N x15 = none := rfl
noncomputable def fL_acts_j1381  (N : XLm) (x11 : Int32) (x13 : Int32) : Option (Int32 × XLm) := nm ((9 * x13) + 2) fun v165 => Rd (N.2.2.2.2.1) 63 v165 fun v166 => Rd (N.2.2.2.2.1) 63 ((9 * x11) + 2) fun v167 => Wr (N.2.2.2.2.1) 63 v165 (v166 + v167) fun f168 => nm ((N.1, (N.2.1, N.2.2.1, N.2.2.2.1, f168, N.2.2.2.2.2))) fun M169 => nm ((9 * x13) + 4) fun v170 => Rd (M169.2.2.2.2.1) 63 v170 fun v171 => Rd (M169.2.2.2.2.1) 63 ((9 * x11) + 4) fun v172 => Wr (M169.2.2.2.2.1) 63 v170 (v171 + v172) fun f173 => nm ((M169.1, (M169.2.1, M169.2.2.1, M169.2.2.2.1, f173, M169.2.2.2.2.2))) fun M174 => nm ((9 * x13) + 5) fun v175 => Rd (M174.2.2.2.2.1) 63 v175 fun v176 => Rd (M174.2.2.2.2.1) 63 ((9 * x11) + 5) fun v177 => Wr (M174.2.2.2.2.1) 63 v175 (v176 + v177) fun f178 => nm ((M174.1, (M174.2.1, M174.2.2.1, M174.2.2.2.1, f178, M174.2.2.2.2.2))) fun M179 => Wr (M179.2.2.2.2.1) 63 ((9 * x11) + 2) 0 fun f180 => nm ((M179.1, (M179.2.1, M179.2.2.1, M179.2.2.2.1, f180, M179.2.2.2.2.2))) fun M181 => Wr (M181.2.2.2.2.1) 63 ((9 * x11) + 4) 0 fun f182 => nm ((M181.1, (M181.2.1, M181.2.2.1, M181.2.2.2.1, f182, M181.2.2.2.2.2))) fun M183 => Wr (M183.2.2.2.2.1) 63 ((9 * x11) + 5) 0 fun f184 => nm ((M183.1, (M183.2.1, M183.2.2.1, M183.2.2.2.1, f184, M183.2.2.2.2.2))) fun M185 => Wr (M185.2.2.2.2.1) 63 ((9 * x11) + 3) 3 fun f186 => nm ((M185.1, (M185.2.1, M185.2.2.1, M185.2.2.2.1, f186, M185.2.2.2.2.2))) fun M187 => Rd (M187.2.1) 5 4 fun v188 => fL_acts_l1502 x11 x13 v188 (fun M207 => b2 (fX8_merge (M207.1) x11 x13) fun r209 M208 => nm ((M208, M207.2)) fun M210 => Rd (M210.2.2.2.2.1) 63 ((9 * x13) + 2) fun v211 => if r209 = v211 then (Zb 1 (some (1, M210))) else (Zb 0 (some (0, M210)))) FU M187 0
noncomputable def fL_acts_j1329  (N : XLm) (x10 : Int32) (x11 : Int32) (x13 : Int32) : Option (Int32 × XLm) := Rd (N.2.2.2.2.1) 63 ((9 * x11) + 2) fun v161 => Rd (N.2.2.2.2.1) 63 ((9 * x13) + 2) fun v162 => Rd (N.2.2.2.1) 33 ((11 * x10) + 3) fun v163 => if (v161 + v162) ≤ v163 then (fL_acts_j1381 N x11 x13) else (b2 (fX8_merge (N.1) x11 x13) fun r214 M213 => nm ((M213, N.2)) fun M215 => if r214 = (-3) then (Zb 1 (some (1, M215))) else (Zb 0 (some (0, M215))))
noncomputable def fL_acts_j1279  (N : XLm) (x10 : Int32) (x11 : Int32) (x12 : Int32) (x13 : Int32) : Option (Int32 × XLm) := if x12 = 0 then (fL_acts_j1310 N x11 x13) else (Rd (N.2.2.2.2.1) 63 ((9 * x13) + 3) fun v157 => if v157 = 0 then (Rd (N.2.2.2.2.1) 63 (9 * x13) fun v159 => if v159 = x10 then (fL_acts_j1329 N x10 x11 x13) else (fL_acts_j1310 N x11 x13)) else (fL_acts_j1310 N x11 x13))
noncomputable def fL_acts_j1243  (N : XLm) (x8 : Int32) (x10 : Int32) (x11 : Int32) (x12 : Int32) : Option (Int32 × XLm) := Dv x8 21 fun v148 => Rd (N.2.1) 5 1 fun v149 => Mo v148 v149 fun v150 => if v150 = x11 then (b2 (fX8_merge (N.1) x11 x11) fun r218 M217 => nm ((M217, N.2)) fun M219 => if r218 = (-1) then (Zb 1 (some (1, M219))) else (Zb 0 (some (0, M219)))) else (fL_acts_j1279 N x10 x11 x12 v150)
noncomputable def fL_acts_j1236  (N : XLm) (x8 : Int32) (x9 : Int32) (x10 : Int32) (x11 : Int32) (x12 : Int32) : Option (Int32 × XLm) := if 20 ≤ x9 then (fL_acts_j1617 N x8 x9 x10 x11) else (fL_acts_j1243 N x8 x10 x11 x12)
noncomputable def fL_acts_j1192  (N : XLm) (x11 : Int32) (s0 : Int32) : Option (Int32 × XLm) := (fL_refunds (N.2) x11 s0).bind fun M227 => nm ((N.1, M227)) fun M228 => Wr (M228.2.2.2.2.1) 63 ((9 * x11) + 3) 2 fun f229 => nm ((M228.1, (M228.2.1, M228.2.2.1, M228.2.2.2.1, f229, M228.2.2.2.2.2))) fun M230 => b2 (fX8_cancel (M230.1) x11) fun r232 M231 => nm ((M231, M230.2)) fun M233 => if r232 = s0 then (Zb 1 (some (1, M233))) else (Zb 0 (some (0, M233)))
noncomputable def fL_acts_j1155  (N : XLm) (x11 : Int32) : Option (Int32 × XLm) := (fL_paid (N.2) x11).bind fun r222 => (fL_late (N.2) x11 0).bind fun r223 => Rd (N.2.2.1) 5 3 fun v224 => if r223 ≤ v224 then (Dv r222 2 fun v226 => fL_acts_j1192 N x11 v226) else (fL_acts_j1192 N x11 r222)
noncomputable def fL_acts_j1133  (N : XLm) (x11 : Int32) (x12 : Int32) : Option (Int32 × XLm) := if x12 = 0 then (b2 (fX8_cancel (N.1) x11) fun r236 M235 => nm ((M235, N.2)) fun M237 => if r236 = (-2) then (Zb 1 (some (1, M237))) else (Zb 0 (some (0, M237)))) else (fL_acts_j1155 N x11)
noncomputable def fL_acts_j1126  (N : XLm) (x8 : Int32) (x9 : Int32) (x10 : Int32) (x11 : Int32) (x12 : Int32) : Option (Int32 × XLm) := if x9 = 16 then (fL_acts_j1133 N x11 x12) else (fL_acts_j1236 N x8 x9 x10 x11 x12)
noncomputable def fL_acts_j1064  (N : XLm) (x11 : Int32) (x13 : Int32) : Option (Int32 × XLm) := b2 (fX8_move (N.1) x11 x13) fun r243 M242 => nm ((M242, N.2)) fun M244 => if r243 = (-2) then (Zb 1 (some (1, M244))) else (Zb 0 (some (0, M244)))
noncomputable def fL_acts_j1083  (N : XLm) (x11 : Int32) (x13 : Int32) : Option (Int32 × XLm) := Rd (N.2.2.2.2.1) 63 ((9 * x11) + 1) fun v248 => Wr (N.2.2.2.2.1) 63 ((9 * x11) + 1) x13 fun f249 => nm ((N.1, (N.2.1, N.2.2.1, N.2.2.2.1, f249, N.2.2.2.2.2))) fun M250 => b2 (fX8_move (M250.1) x11 x13) fun r252 M251 => nm ((M251, M250.2)) fun M253 => if r252 = v248 then (Zb 1 (some (1, M253))) else (Zb 0 (some (0, M253)))
noncomputable def fL_acts_j1032  (N : XLm) (x8 : Int32) (x10 : Int32) (x11 : Int32) (x12 : Int32) : Option (Int32 × XLm) := Dv x8 21 fun v239 => Mo v239 721 fun v240 => if x12 = 0 then (fL_acts_j1064 N x11 v240) else ((fL_may (N.2) x10 v240 x11).bind fun r246 => if r246 = 0 then (fL_acts_j1064 N x11 v240) else (fL_acts_j1083 N x11 v240))
noncomputable def fL_acts_j1013  (N : XLm) (x8 : Int32) (x9 : Int32) (x11 : Int32) (s0 : Int32) : Option (Int32 × XLm) := Rd (N.2.2.2.2.1) 63 (9 * x11) fun v63 => if x9 = 15 then (fL_acts_j1032 N x8 v63 x11 s0) else (fL_acts_j1126 N x8 x9 v63 x11 s0)
noncomputable def fL_acts_j985  (N : XLm) (x8 : Int32) (x9 : Int32) : Option (Int32 × XLm) := Dv x8 3 fun v58 => Rd (N.2.1) 5 1 fun v59 => Mo v58 v59 fun v60 => Rd (N.2.2.2.2.1) 63 ((9 * v60) + 3) fun v61 => if v61 = 0 then (fL_acts_j1013 N x8 x9 v60 1) else (fL_acts_j1013 N x8 x9 v60 0)
noncomputable def fL_acts_j932  (N : XLm) (x8 : Int32) (x9 : Int32) : Option (Int32 × XLm) := Rd (N.2.1) 5 1 fun v56 => if v56 = 0 then (b2 (fX8_cancel (N.1) 0) fun r256 M255 => nm ((M255, N.2)) fun M257 => if r256 = (-1) then (b2 (fX8_move (M257.1) 0 0) fun r260 M259 => nm ((M259, M257.2)) fun M261 => if r260 = (-1) then (b2 (fX8_merge (M261.1) 0 1) fun r264 M263 => nm ((M263, M261.2)) fun M265 => if r264 = (-1) then (b2 (fX8_play (M265.1) 0 0 0 0) fun r268 M267 => nm ((M267, M265.2)) fun M269 => if r268 = (-1) then (Zb 1 (some (1, M269))) else (Zb 0 (some (0, M269)))) else (Zb 0 (some (0, M265)))) else (Zb 0 (some (0, M261)))) else (Zb 0 (some (0, M257)))) else (fL_acts_j985 N x8 x9)
noncomputable def fL_acts_j909  (N : XLm) (x11 : Int32) (x12 : Int32) (s1 : Int32) (s2 : Int32) (s3 : Int32) : Option (Int32 × XLm) := Mo s2 s3 fun v278 => Wr (N.2.2.1) 5 s1 v278 fun f279 => nm ((N.1, (N.2.1, f279, N.2.2.2))) fun M280 => Rd (M280.2.2.1) 5 x11 fun v281 => b2 (fX8_set (M280.1) x11 v281) fun r283 M282 => nm ((M282, M280.2)) fun M284 => if r283 = x12 then (Zb 1 (some (1, M284))) else (Zb 0 (some (0, M284)))
noncomputable def fL_acts_j845  (N : XLm) (x8 : Int32) : Option (Int32 × XLm) := Mo x8 5 fun v271 => Rd (N.2.2.1) 5 v271 fun v272 => Dv x8 5 fun v273 => if v271 = 0 then (fL_acts_j909 N v271 v272 v271 v273 11) else (if v271 = 1 then (fL_acts_j909 N v271 v272 v271 v273 31) else (if v271 = 2 then (fL_acts_j909 N v271 v272 v271 v273 21) else (if v271 = 3 then (fL_acts_j909 N v271 v272 v271 v273 61) else (fL_acts_j909 N v271 v272 v271 v273 51))))
noncomputable def fL_acts_j838  (N : XLm) (x8 : Int32) (x9 : Int32) : Option (Int32 × XLm) := if 15 ≤ x9 then (fL_acts_j932 N x8 x9) else (fL_acts_j845 N x8)
noncomputable def fL_acts_j782  (N : XLm) (x8 : Int32) (x10 : Int32) : Option (Int32 × XLm) := Rd (N.2.2.2.1) 33 ((11 * x10) + 2) fun v286 => Dv x8 3 fun v287 => Mo v287 200 fun v288 => Wr (N.2.2.2.1) 33 ((11 * x10) + 2) (1 + v288) fun f289 => nm ((N.1, (N.2.1, N.2.2.1, f289, N.2.2.2.2))) fun M290 => Rd (M290.2.2.2.1) 33 ((11 * x10) + 2) fun v291 => b2 (fX8_setPrice (M290.1) x10 v291) fun r293 M292 => nm ((M292, M290.2)) fun M294 => if r293 = v286 then (Zb 1 (some (1, M294))) else (Zb 0 (some (0, M294)))
noncomputable def fL_acts_j775  (N : XLm) (x8 : Int32) (x9 : Int32) (x10 : Int32) : Option (Int32 × XLm) := if x9 = 12 then (fL_acts_j782 N x8 x10) else (fL_acts_j838 N x8 x9)
noncomputable def fL_acts_j745  (N : XLm) (x10 : Int32) (x11 : Int32) (x12 : Int32) (x13 : Int32) (x14 : Int32) : Option (Int32 × XLm) := Rd (N.2.1) 5 1 fun v353 => Wr (N.2.1) 5 1 (v353 + 1) fun f354 => nm ((N.1, (f354, N.2.2))) fun M355 => b2 (fX8_book (M355.1) x10 x11 x12 x13) fun r357 M356 => nm ((M356, M355.2)) fun M358 => if r357 = x14 then (Zb 1 (some (1, M358))) else (Zb 0 (some (0, M358)))
noncomputable def fL_acts_j695  (N : XLm) (x10 : Int32) (x11 : Int32) (x12 : Int32) (x13 : Int32) (x14 : Int32) (x15 : Int32) (x16 : Int32) (s1 : Int32) (s2 : Int32) : Option (Int32 × XLm) := Wr (N.2.2.2.2.2.1) 28 s1 s2 fun f341 => nm ((N.1, (N.2.1, N.2.2.1, N.2.2.2.1, N.2.2.2.2.1, f341, N.2.2.2.2.2.2))) fun M342 => Rd (M342.2.1) 5 4 fun v343 => Wr (M342.2.2.2.2.2.1) 28 ((4 * x14) + 3) v343 fun f344 => nm ((M342.1, (M342.2.1, M342.2.2.1, M342.2.2.2.1, M342.2.2.2.2.1, f344, M342.2.2.2.2.2.2))) fun M345 => Rd (M345.2.1) 5 4 fun v346 => Wr (M345.2.1) 5 4 (v346 + 1) fun f347 => nm ((M345.1, (f347, M345.2.2))) fun M348 => Rd (M348.2.1) 5 3 fun v349 => Wr (M348.2.1) 5 3 (v349 + (x15 - x16)) fun f350 => nm ((M348.1, (f350, M348.2.2))) fun M351 => if x16 ≤ 0 then (fL_acts_j745 M351 x10 x11 x12 x13 x14) else (nm ((2 * x13) + 1) fun v360 => Rd (M351.2.2.2.2.2.2) 8 v360 fun v361 => Wr (M351.2.2.2.2.2.2) 8 v360 (v361 - x16) fun f362 => nm ((M351.1, (M351.2.1, M351.2.2.1, M351.2.2.2.1, M351.2.2.2.2.1, M351.2.2.2.2.2.1, f362))) fun M363 => fL_acts_j745 M363 x10 x11 x12 x13 x14)
noncomputable def fL_acts_j544  (N : XLm) (x10 : Int32) (x11 : Int32) (x12 : Int32) (x13 : Int32) (x14 : Int32) (x15 : Int32) (s0 : Int32) : Option (Int32 × XLm) := Wr (N.2.2.2.2.1) 63 (9 * x14) x10 fun f318 => nm ((N.1, (N.2.1, N.2.2.1, N.2.2.2.1, f318, N.2.2.2.2.2))) fun M319 => Wr (M319.2.2.2.2.1) 63 ((9 * x14) + 1) x11 fun f320 => nm ((M319.1, (M319.2.1, M319.2.2.1, M319.2.2.2.1, f320, M319.2.2.2.2.2))) fun M321 => Wr (M321.2.2.2.2.1) 63 ((9 * x14) + 2) x12 fun f322 => nm ((M321.1, (M321.2.1, M321.2.2.1, M321.2.2.2.1, f322, M321.2.2.2.2.2))) fun M323 => Wr (M323.2.2.2.2.1) 63 ((9 * x14) + 3) 0 fun f324 => nm ((M323.1, (M323.2.1, M323.2.2.1, M323.2.2.2.1, f324, M323.2.2.2.2.2))) fun M325 => Wr (M325.2.2.2.2.1) 63 ((9 * x14) + 4) x15 fun f326 => nm ((M325.1, (M325.2.1, M325.2.2.1, M325.2.2.2.1, f326, M325.2.2.2.2.2))) fun M327 => Wr (M327.2.2.2.2.1) 63 ((9 * x14) + 5) (x15 - s0) fun f328 => nm ((M327.1, (M327.2.1, M327.2.2.1, M327.2.2.2.1, f328, M327.2.2.2.2.2))) fun M329 => Wr (M329.2.2.2.2.1) 63 ((9 * x14) + 6) 0 fun f330 => nm ((M329.1, (M329.2.1, M329.2.2.1, M329.2.2.2.1, f330, M329.2.2.2.2.2))) fun M331 => Wr (M331.2.2.2.2.1) 63 ((9 * x14) + 7) (-9) fun f332 => nm ((M331.1, (M331.2.1, M331.2.2.1, M331.2.2.2.1, f332, M331.2.2.2.2.2))) fun M333 => Wr (M333.2.2.2.2.1) 63 ((9 * x14) + 8) (-9) fun f334 => nm ((M333.1, (M333.2.1, M333.2.2.1, M333.2.2.2.1, f334, M333.2.2.2.2.2))) fun M335 => Wr (M335.2.2.2.2.2.1) 28 (4 * x14) x13 fun f336 => nm ((M335.1, (M335.2.1, M335.2.2.1, M335.2.2.2.1, M335.2.2.2.2.1, f336, M335.2.2.2.2.2.2))) fun M337 => Wr (M337.2.2.2.2.2.1) 28 ((4 * x14) + 1) s0 fun f338 => nm ((M337.1, (M337.2.1, M337.2.2.1, M337.2.2.2.1, M337.2.2.2.2.1, f338, M337.2.2.2.2.2.2))) fun M339 => if s0 ≤ 0 then (fL_acts_j695 M339 x10 x11 x12 x13 x14 x15 s0 ((4 * x14) + 2) (-1)) else (fL_acts_j695 M339 x10 x11 x12 x13 x14 x15 s0 ((4 * x14) + 2) x14)
noncomputable def fL_acts_j488  (N : XLm) (x10 : Int32) (x11 : Int32) (x12 : Int32) (x13 : Int32) : Option (Int32 × XLm) := Rd (N.2.1) 5 1 fun v312 => Rd (N.2.2.2.1) 33 ((11 * x10) + 2) fun v313 => nm (v313 * x12) fun v314 => if 0 ≤ x13 then (Rd (N.2.2.2.2.2.2) 8 ((2 * x13) + 1) fun v316 => if v314 ≤ v316 then (fL_acts_j544 N x10 x11 x12 x13 v312 v314 v314) else (Rd (N.2.2.2.2.2.2) 8 ((2 * x13) + 1) fun v364 => fL_acts_j544 N x10 x11 x12 x13 v312 v314 v364)) else (fL_acts_j544 N x10 x11 x12 x13 v312 v314 0)
noncomputable def fL_acts_j434  (N : XLm) (x10 : Int32) (x11 : Int32) (x12 : Int32) (x13 : Int32) : Option (Int32 × XLm) := Rd (N.2.1) 5 1 fun v310 => if v310 = 7 then (Rd (N.2.2.2.1) 33 ((11 * x10) + 3) fun v365 => b2 (fX8_book (N.1) x10 x11 (v365 + 1) x13) fun r367 M366 => nm ((M366, N.2)) fun M368 => if r367 = (-1) then (b2 (fX8_book (M368.1) x10 721 2 (-1)) fun r371 M370 => nm ((M370, M368.2)) fun M372 => if r371 = (-1) then (Zb 1 (some (1, M372))) else (Zb 0 (some (0, M372)))) else (Zb 0 (some (0, M368)))) else (fL_acts_j488 N x10 x11 x12 x13)
noncomputable def fL_acts_j357  (N : XLm) (x8 : Int32) (x10 : Int32) (s0 : Int32) (s1 : Int32) : Option (Int32 × XLm) := Mo s0 s1 fun v299 => Dv x8 1440 fun v300 => Rd (N.2.2.2.1) 33 ((11 * x10) + 3) fun v301 => Mo v300 (v301 - 1) fun v302 => nm (2 + v302) fun v303 => Dv x8 5 fun v304 => Rd (N.2.1) 5 2 fun v305 => Mo v304 (v305 + 1) fun v306 => nm (v306 - 1) fun v307 => (fL_may (N.2) x10 v299 (-1)).bind fun r308 => if r308 = 0 then (b2 (fX8_book (N.1) x10 v299 v303 v307) fun r375 M374 => nm ((M374, N.2)) fun M376 => if r375 = (-2) then (Zb 1 (some (1, M376))) else (Zb 0 (some (0, M376)))) else (fL_acts_j434 N x10 v299 v303 v307)
noncomputable def fL_acts_j337  (N : XLm) (x8 : Int32) (x10 : Int32) : Option (Int32 × XLm) := Dv x8 3 fun v296 => Mo x8 2 fun v297 => if v297 = 0 then (fL_acts_j357 N x8 x10 v296 721) else (fL_acts_j357 N x8 x10 v296 240)
noncomputable def fL_acts_j322  (N : XLm) (x8 : Int32) (x9 : Int32) : Option (Int32 × XLm) := Rd (N.2.1) 5 0 fun v51 => Mo x8 v51 fun v52 => if 12 ≤ x9 then (fL_acts_j775 N x8 x9 v52) else (fL_acts_j337 N x8 v52)
noncomputable def fL_acts_j249  (N : XLm) (x8 : Int32) : Option (Int32 × XLm) := Rd (N.2.1) 5 2 fun v380 => nm (2 * v380) fun v381 => Mo x8 500 fun v382 => Wr (N.2.2.2.2.2.2) 8 v381 (1 + v382) fun f383 => nm ((N.1, (N.2.1, N.2.2.1, N.2.2.2.1, N.2.2.2.2.1, N.2.2.2.2.2.1, f383))) fun M384 => Rd (M384.2.2.2.2.2.2) 8 v381 fun v385 => Wr (M384.2.2.2.2.2.2) 8 (v381 + 1) v385 fun f386 => nm ((M384.1, (M384.2.1, M384.2.2.1, M384.2.2.2.1, M384.2.2.2.2.1, M384.2.2.2.2.2.1, f386))) fun M387 => Rd (M387.2.1) 5 3 fun v388 => Rd (M387.2.2.2.2.2.2) 8 v381 fun v389 => Wr (M387.2.1) 5 3 (v388 + v389) fun f390 => nm ((M387.1, (f390, M387.2.2))) fun M391 => Rd (M391.2.1) 5 2 fun v392 => Wr (M391.2.1) 5 2 (v392 + 1) fun f393 => nm ((M391.1, (f393, M391.2.2))) fun M394 => Rd (M394.2.2.2.2.2.2) 8 v381 fun v395 => b2 (fX8_sellVoucher (M394.1) v395) fun r397 M396 => nm ((M396, M394.2)) fun M398 => Rd (M398.2.1) 5 2 fun v399 => if r397 = (v399 - 1) then (Zb 1 (some (1, M398))) else (Zb 0 (some (0, M398)))
noncomputable def fL_acts_j210  (N : XLm) (x8 : Int32) (x9 : Int32) : Option (Int32 × XLm) := if 4 ≤ x9 then (fL_acts_j322 N x8 x9) else (Rd (N.2.1) 5 2 fun v378 => if v378 = 4 then (b2 (fX8_sellVoucher (N.1) 501) fun r402 M401 => nm ((M401, N.2)) fun M403 => if r402 = (-1) then (b2 (fX8_sellVoucher (M403.1) 0) fun r406 M405 => nm ((M405, M403.2)) fun M407 => if r406 = (-1) then (Zb 1 (some (1, M407))) else (Zb 0 (some (0, M407)))) else (Zb 0 (some (0, M403)))) else (fL_acts_j249 N x8))
noncomputable def fL_acts  (N : XLm) (x7 : Int32) : Option (Int32 × XLm) := (fL_low (x7 >>> ((5 : Int32) &&& 31)) 10000000).bind fun r1 => (fL_low x7 26).bind fun r2 => if r2 < 2 then (fL_acts_j32 N r1) else (Rd (N.2.1) 5 0 fun v48 => if v48 = 0 then (fL_acts_j32 N r1) else (fL_acts_j210 N r1 r2))
abbrev vL_acts : List Cond := Cond.code yL_acts cL_acts 21 (some .boolean) :: BIG
theorem gL_acts {own : String} {idx : Nat} (h : (Cond.methodLink own idx yL_acts) ∈ BIG) : GoodIn BIG (va_wsS own idx yL_acts vL_acts) := gdS h bw2_38 bw1_0 bw2_39
theorem gL_acts_n : GoodIn BIG vL_acts := gdN bw2_39
def rmL_acts : Room := { frames := 8, cells := 0, slots := 0, locals := 171 }
theorem hdL_acts : yL_acts.cls ≠ "java/lang/invoke/MethodHandle" ∧ yL_acts.cls ≠ "java/lang/invoke/VarHandle" ∧ (parseMethodDescriptor yL_acts.desc).map (fun d => d.parameters.length) = some 8 := by decide +kernel
set_option maxHeartbeats 4000000 in
set_option maxRecDepth 100000 in
theorem tL_acts_l83 (l : Launch) (D : va_G) (cS : ClassId) (g : Nat → Nat) (cI : ClassId) (xx xd xo hh ha : Nat) (z : Nat → Nat → Nat) (zn q : Nat → Nat) (la : Nat → Nat) (r : Int32) (M' : XLm) {p : Program} {e : Env} {s : State} {m : MethodId} {args : Array Value} {below : List Frame} {meth : Method} {c : Code} {A : Nat → Prop} (C : CX p s m args meth c A D cI cS g cL_acts 21 (some .boolean) RL) (hDa : ∀ N, va_D A (wXL cI cS xx xd xo hh ha z zn q la N)) : ∀ (x8 : Int32) (x10 : Int32) (kk : XLm → Option (Int32 × XLm)) (fu : Nat) (N : XLm) (x11 : Int32) (H : Heap) (locs : List Loc) (ls : Array Slot), fL_acts_l83 x8 x10 kk fu N x11 = some (r, M') → va_P D vwCl (wXL cI cS xx xd xo hh ha z zn q la N) H → va_S A s.heap H locs → lv_has ls 21 [(0, .ref xx), (1, .ref (la 0)), (3, .ref (la 2)), (8, .int x8), (10, .int x10), (11, .int x11)] → (∀ (N : XLm) (H : Heap) (locs : List Loc) (ls : Array Slot), kk N = some (r, M') → va_P D vwCl (wXL cI cS xx xd xo hh ha z zn q la N) H → va_S A s.heap H locs → lv_has ls 21 [(0, .ref xx), (1, .ref (la 0)), (3, .ref (la 2)), (8, .int x8), (10, .int x10)] → W p l e rmL_acts s m args below meth c H locs 0 0 (MQ below (qI D r (wXL cI cS xx xd xo hh ha z zn q la (M')) A) args s 0 0 A) (F0 m 104 ls [])) → W p l e rmL_acts s m args below meth c H locs 0 0 (MQ below (qI D r (wXL cI cS xx xd xo hh ha z zn q la (M')) A) args s 0 0 A) (F0 m 83 ls []) := by
  obtain ⟨hx, hb, hr, hml, hlocks, hown, htb, hA, hK, hG⟩ := id C
  intro x8 x10 kk fu
  induction fu with
  | zero => intro N x11 H locs ls hF; exact nn_use hF
  | succ fu ihn =>
    intro N x11 H locs ls hF hP hS hl after
    rw [fL_acts_l83_s] at hF
    refine lv_iload hx hb dL_acts_83 (lv_at hl 5 rfl) ?_
    refine lv_bipush (v := 11) hx hb dL_acts_85 (by decide) ?_
    refine lv_icmp_ge (tgt := 104) hx hb dL_acts_87 (by decide) (fun c8 => ?_) (fun c8 => ?_)
    · have hF := it_t hF c8
      exact after N _ _ _ hF hP hS (lv_sub hl [0, 1, 2, 3, 4] rfl)
    · have hF := it_f hF c8
      refine lv_aload_n hx hb dL_acts_90 rfl (lv_at hl 2 rfl) ?_
      refine lv_iload hx hb dL_acts_91 (lv_at hl 4 rfl) ?_
      refine lv_iload hx hb dL_acts_93 (lv_at hl 5 rfl) ?_
      refine lv_iadd hx hb dL_acts_95 ?_
      refine lv_iconst (v := 0) hx hb dL_acts_96 (by decide) ?_
      obtain ⟨hi, hF⟩ := wr_use hF
      refine va_iast hx hb hK hP (hDa _) hS 2 0 (pXL_2 cI cS xx xd xo hh ha z zn q la N) rfl hi dL_acts_97 (fun H locs hP _ hS => ?_)
      obtain ⟨M10, eM10⟩ : ∃ z : XLm, z = (N.1, (N.2.1, N.2.2.1, (upd (N.2.2.2.1) (x10 + x11 : Int32).toNatClampNeg 0), N.2.2.2.2)) := ⟨_, rfl⟩
      have hF := nm_use hF eM10
      have hP : va_P D vwCl (wXL cI cS xx xd xo hh ha z zn q la M10) H := by rw [eM10]; exact hP
      obtain ⟨v11, ev11⟩ : ∃ z : Int32, z = x11 + 1 := ⟨_, rfl⟩
      refine lv_iinc (v := v11) (lv' := [(11, .int v11), (0, .ref xx), (1, .ref (la 0)), (3, .ref (la 2)), (8, .int x8), (10, .int x10)]) hx hb dL_acts_98 hl (k := 5) rfl (by rw [ev11]; rfl) (by decide) rfl (fun ls hl => ?_)
      have hF := nm_use hF ev11
      refine lv_goto (tgt := 83) hx hb dL_acts_101 (by decide) ?_
      exact ihn M10 v11 _ _ _ hF hP hS (lv_sub hl [1, 2, 3, 4, 5, 0] rfl) after
set_option maxHeartbeats 4000000 in
set_option maxRecDepth 100000 in
theorem tL_acts_j72 (l : Launch) (D : va_G) (cS : ClassId) (g : Nat → Nat) (cI : ClassId) (xx xd xo hh ha : Nat) (z : Nat → Nat → Nat) (zn q : Nat → Nat) (la : Nat → Nat) (r : Int32) (M' : XLm) {p : Program} {e : Env} {s : State} {m : MethodId} {args : Array Value} {below : List Frame} {meth : Method} {c : Code} {A : Nat → Prop} (C : CX p s m args meth c A D cI cS g cL_acts 21 (some .boolean) RL) (hDa : ∀ N, va_D A (wXL cI cS xx xd xo hh ha z zn q la N)) : ∀ (N : XLm) (x8 : Int32) (H : Heap) (locs : List Loc) (ls : Array Slot), fL_acts_j72 N x8 = some (r, M') → va_P D vwCl (wXL cI cS xx xd xo hh ha z zn q la N) H → va_S A s.heap H locs → lv_has ls 21 [(0, .ref xx), (1, .ref (la 0)), (3, .ref (la 2)), (8, .int x8)] → W p l e rmL_acts s m args below meth c H locs 0 0 (MQ below (qI D r (wXL cI cS xx xd xo hh ha z zn q la (M')) A) args s 0 0 A) (F0 m 72 ls []) := by
  obtain ⟨hx, hb, hr, hml, hlocks, hown, htb, hA, hK, hG⟩ := id C
  intro N x8 H locs ls hF hP hS hl
  refine lv_bipush (v := 11) hx hb dL_acts_72 (by decide) ?_
  refine lv_aload_n hx hb dL_acts_74 rfl (lv_at hl 1 rfl) ?_
  refine lv_iconst (v := 0) hx hb dL_acts_75 (by decide) ?_
  obtain ⟨hi, hF⟩ := rd_use hF
  refine va_iald hx hb hK hP 0 0 (pXL_0 cI cS xx xd xo hh ha z zn q la N) rfl hi dL_acts_76 ?_
  refine lv_topi (fun v6 ev6 => ?_)
  have hF := hF v6 ev6
  refine lv_imul hx hb dL_acts_77 ?_
  refine lv_topi (fun v7 ev7 => ?_)
  have hF := nm_use hF ev7
  refine lv_istore (lv' := [(10, .int v7), (0, .ref xx), (1, .ref (la 0)), (3, .ref (la 2)), (8, .int x8)]) hx hb dL_acts_78 hl (by decide) rfl (fun ls hl => ?_)
  refine lv_iconst (v := 0) hx hb dL_acts_80 (by decide) ?_
  refine lv_istore (lv' := [(11, .int 0), (10, .int v7), (0, .ref xx), (1, .ref (la 0)), (3, .ref (la 2)), (8, .int x8)]) hx hb dL_acts_81 hl (by decide) rfl (fun ls hl => ?_)
  refine tL_acts_l83 l D cS g cI xx xd xo hh ha z zn q la r M' C hDa x8 v7 _ _ N 0 _ _ _ hF hP hS (lv_sub hl [2, 3, 4, 5, 1, 0] rfl) ?_
  · intro M12 H locs ls hF hP hS hl
    refine lv_aload_n hx hb dL_acts_104 rfl (lv_at hl 2 rfl) ?_
    refine lv_iload hx hb dL_acts_105 (lv_at hl 4 rfl) ?_
    refine lv_bipush (v := 20) hx hb dL_acts_107 (by decide) ?_
    refine lv_iload hx hb dL_acts_109 (lv_at hl 3 rfl) ?_
    refine lv_bipush (v := 101) hx hb dL_acts_111 (by decide) ?_
    obtain ⟨hd, hF⟩ := mo_use hF
    refine lv_irem hx hb dL_acts_113 hd ?_
    refine lv_topi (fun v13 ev13 => ?_)
    have hF := hF v13 ev13
    refine lv_iadd hx hb dL_acts_114 ?_
    obtain ⟨hi, hF⟩ := wr_use hF
    refine va_iast hx hb hK hP (hDa _) hS 2 0 (pXL_2 cI cS xx xd xo hh ha z zn q la M12) rfl hi dL_acts_115 (fun H locs hP _ hS => ?_)
    obtain ⟨M15, eM15⟩ : ∃ z : XLm, z = (M12.1, (M12.2.1, M12.2.2.1, (upd (M12.2.2.2.1) (v7 : Int32).toNatClampNeg (20 + v13)), M12.2.2.2.2)) := ⟨_, rfl⟩
    have hF := nm_use hF eM15
    have hP : va_P D vwCl (wXL cI cS xx xd xo hh ha z zn q la M15) H := by rw [eM15]; exact hP
    refine lv_aload_n hx hb dL_acts_116 rfl (lv_at hl 2 rfl) ?_
    refine lv_iload hx hb dL_acts_117 (lv_at hl 4 rfl) ?_
    refine lv_iconst (v := 1) hx hb dL_acts_119 (by decide) ?_
    refine lv_iadd hx hb dL_acts_120 ?_
    refine lv_iload hx hb dL_acts_121 (lv_at hl 3 rfl) ?_
    refine lv_bipush (v := 101) hx hb dL_acts_123 (by decide) ?_
    obtain ⟨hd, hF⟩ := dv_use hF
    refine lv_idiv hx hb dL_acts_125 hd ?_
    refine lv_topi (fun v16 ev16 => ?_)
    have hF := hF v16 ev16
    refine lv_bipush (v := 61) hx hb dL_acts_126 (by decide) ?_
    obtain ⟨hd, hF⟩ := mo_use hF
    refine lv_irem hx hb dL_acts_128 hd ?_
    refine lv_topi (fun v17 ev17 => ?_)
    have hF := hF v17 ev17
    obtain ⟨hi, hF⟩ := wr_use hF
    refine va_iast hx hb hK hP (hDa _) hS 2 0 (pXL_2 cI cS xx xd xo hh ha z zn q la M15) rfl hi dL_acts_129 (fun H locs hP _ hS => ?_)
    obtain ⟨M19, eM19⟩ : ∃ z : XLm, z = (M15.1, (M15.2.1, M15.2.2.1, (upd (M15.2.2.2.1) (v7 + 1 : Int32).toNatClampNeg v17), M15.2.2.2.2)) := ⟨_, rfl⟩
    have hF := nm_use hF eM19
    have hP : va_P D vwCl (wXL cI cS xx xd xo hh ha z zn q la M19) H := by rw [eM19]; exact hP
    refine lv_aload_n hx hb dL_acts_130 rfl (lv_at hl 2 rfl) ?_
    refine lv_iload hx hb dL_acts_131 (lv_at hl 4 rfl) ?_
    refine lv_iconst (v := 2) hx hb dL_acts_133 (by decide) ?_
    refine lv_iadd hx hb dL_acts_134 ?_
    refine lv_iconst (v := 1) hx hb dL_acts_135 (by decide) ?_
    refine lv_iload hx hb dL_acts_136 (lv_at hl 3 rfl) ?_
    refine lv_bipush (v := 7) hx hb dL_acts_138 (by decide) ?_
    obtain ⟨hd, hF⟩ := dv_use hF
    refine lv_idiv hx hb dL_acts_140 hd ?_
    refine lv_topi (fun v20 ev20 => ?_)
    have hF := hF v20 ev20
    refine lv_sipush (v := 200) hx hb dL_acts_141 (by decide) ?_
    obtain ⟨hd, hF⟩ := mo_use hF
    refine lv_irem hx hb dL_acts_144 hd ?_
    refine lv_topi (fun v21 ev21 => ?_)
    have hF := hF v21 ev21
    refine lv_iadd hx hb dL_acts_145 ?_
    obtain ⟨hi, hF⟩ := wr_use hF
    refine va_iast hx hb hK hP (hDa _) hS 2 0 (pXL_2 cI cS xx xd xo hh ha z zn q la M19) rfl hi dL_acts_146 (fun H locs hP _ hS => ?_)
    obtain ⟨M23, eM23⟩ : ∃ z : XLm, z = (M19.1, (M19.2.1, M19.2.2.1, (upd (M19.2.2.2.1) (v7 + 2 : Int32).toNatClampNeg (1 + v21)), M19.2.2.2.2)) := ⟨_, rfl⟩
    have hF := nm_use hF eM23
    have hP : va_P D vwCl (wXL cI cS xx xd xo hh ha z zn q la M23) H := by rw [eM23]; exact hP
    refine lv_aload_n hx hb dL_acts_147 rfl (lv_at hl 2 rfl) ?_
    refine lv_iload hx hb dL_acts_148 (lv_at hl 4 rfl) ?_
    refine lv_iconst (v := 3) hx hb dL_acts_150 (by decide) ?_
    refine lv_iadd hx hb dL_acts_151 ?_
    refine lv_iconst (v := 2) hx hb dL_acts_152 (by decide) ?_
    refine lv_iload hx hb dL_acts_153 (lv_at hl 3 rfl) ?_
    refine lv_bipush (v := 11) hx hb dL_acts_155 (by decide) ?_
    obtain ⟨hd, hF⟩ := dv_use hF
    refine lv_idiv hx hb dL_acts_157 hd ?_
    refine lv_topi (fun v24 ev24 => ?_)
    have hF := hF v24 ev24
    refine lv_bipush (v := 7) hx hb dL_acts_158 (by decide) ?_
    obtain ⟨hd, hF⟩ := mo_use hF
    refine lv_irem hx hb dL_acts_160 hd ?_
    refine lv_topi (fun v25 ev25 => ?_)
    have hF := hF v25 ev25
    refine lv_iadd hx hb dL_acts_161 ?_
    obtain ⟨hi, hF⟩ := wr_use hF
    refine va_iast hx hb hK hP (hDa _) hS 2 0 (pXL_2 cI cS xx xd xo hh ha z zn q la M23) rfl hi dL_acts_162 (fun H locs hP _ hS => ?_)
    obtain ⟨M27, eM27⟩ : ∃ z : XLm, z = (M23.1, (M23.2.1, M23.2.2.1, (upd (M23.2.2.2.1) (v7 + 3 : Int32).toNatClampNeg (2 + v25)), M23.2.2.2.2)) := ⟨_, rfl⟩
    have hF := nm_use hF eM27
    have hP : va_P D vwCl (wXL cI cS xx xd xo hh ha z zn q la M27) H := by rw [eM27]; exact hP
    refine lv_aload_n hx hb dL_acts_163 rfl (lv_at hl 1 rfl) ?_
    refine lv_iconst (v := 0) hx hb dL_acts_164 (by decide) ?_
    refine lv_dup2_11 hx hb dL_acts_165 rfl rfl ?_
    obtain ⟨hi, hF⟩ := rd_use hF
    refine va_iald hx hb hK hP 0 0 (pXL_0 cI cS xx xd xo hh ha z zn q la M27) rfl hi dL_acts_166 ?_
    refine lv_topi (fun v28 ev28 => ?_)
    have hF := hF v28 ev28
    refine lv_iconst (v := 1) hx hb dL_acts_167 (by decide) ?_
    refine lv_iadd hx hb dL_acts_168 ?_
    obtain ⟨hi, hF⟩ := wr_use hF
    refine va_iast hx hb hK hP (hDa _) hS 0 0 (pXL_0 cI cS xx xd xo hh ha z zn q la M27) rfl hi dL_acts_169 (fun H locs hP _ hS => ?_)
    obtain ⟨M30, eM30⟩ : ∃ z : XLm, z = (M27.1, ((upd (M27.2.1) (0 : Int32).toNatClampNeg (v28 + 1)), M27.2.2)) := ⟨_, rfl⟩
    have hF := nm_use hF eM30
    have hP : va_P D vwCl (wXL cI cS xx xd xo hh ha z zn q la M30) H := by rw [eM30]; exact hP
    refine lv_aload_n hx hb dL_acts_170 rfl (lv_at hl 0 rfl) ?_
    refine lv_aload_n hx hb dL_acts_171 rfl (lv_at hl 2 rfl) ?_
    refine lv_iload hx hb dL_acts_172 (lv_at hl 4 rfl) ?_
    obtain ⟨hi, hF⟩ := rd_use hF
    refine va_iald hx hb hK hP 2 0 (pXL_2 cI cS xx xd xo hh ha z zn q la M30) rfl hi dL_acts_174 ?_
    refine lv_topi (fun v31 ev31 => ?_)
    have hF := hF v31 ev31
    refine lv_aload_n hx hb dL_acts_175 rfl (lv_at hl 2 rfl) ?_
    refine lv_iload hx hb dL_acts_176 (lv_at hl 4 rfl) ?_
    refine lv_iconst (v := 1) hx hb dL_acts_178 (by decide) ?_
    refine lv_iadd hx hb dL_acts_179 ?_
    obtain ⟨hi, hF⟩ := rd_use hF
    refine va_iald hx hb hK hP 2 0 (pXL_2 cI cS xx xd xo hh ha z zn q la M30) rfl hi dL_acts_180 ?_
    refine lv_topi (fun v32 ev32 => ?_)
    have hF := hF v32 ev32
    refine lv_aload_n hx hb dL_acts_181 rfl (lv_at hl 2 rfl) ?_
    refine lv_iload hx hb dL_acts_182 (lv_at hl 4 rfl) ?_
    refine lv_iconst (v := 2) hx hb dL_acts_184 (by decide) ?_
    refine lv_iadd hx hb dL_acts_185 ?_
    obtain ⟨hi, hF⟩ := rd_use hF
    refine va_iald hx hb hK hP 2 0 (pXL_2 cI cS xx xd xo hh ha z zn q la M30) rfl hi dL_acts_186 ?_
    refine lv_topi (fun v33 ev33 => ?_)
    have hF := hF v33 ev33
    refine lv_aload_n hx hb dL_acts_187 rfl (lv_at hl 2 rfl) ?_
    refine lv_iload hx hb dL_acts_188 (lv_at hl 4 rfl) ?_
    refine lv_iconst (v := 3) hx hb dL_acts_190 (by decide) ?_
    refine lv_iadd hx hb dL_acts_191 ?_
    obtain ⟨hi, hF⟩ := rd_use hF
    refine va_iald hx hb hK hP 2 0 (pXL_2 cI cS xx xd xo hh ha z zn q la M30) rfl hi dL_acts_192 ?_
    refine lv_topi (fun v34 ev34 => ?_)
    have hF := hF v34 ev34
    obtain ⟨r36, M35, hM35, hF⟩ := b2_use hF
    refine cl_VI ⟨hx, hb, hml, hown, htb⟩ (kX8_addRoom l D cS g cI xx xd xo hh ha z zn q (M30.1) v31 v32 v33 v34 _ _ hM35) (cwV 4 htb (gX8_addRoom bw2_41) rfl rfl rfl hdX8_addRoom ⟨Nat.le_of_ble_eq_true rfl, Nat.le_of_ble_eq_true rfl⟩) hK (hDa _) hG hA hP hS (sg_XL_XX cI cS xx xd xo hh ha z zn q la M30 M35) hl.1 rfl 0 (pXX_0 _ _ _ _ _ _ _ _ _ _ _) rfl rfl (Nat.le_of_ble_eq_true rfl) dL_acts_193 (fun H locs hP hS => ?_)
    obtain ⟨M37, eM37⟩ : ∃ z : XLm, z = (M35, M30.2) := ⟨_, rfl⟩
    have hF := nm_use hF eM37
    have hP : va_P D vwCl (wXL cI cS xx xd xo hh ha z zn q la M37) H := by rw [eM37]; exact hP
    refine lv_aload_n hx hb dL_acts_196 rfl (lv_at hl 1 rfl) ?_
    refine lv_iconst (v := 0) hx hb dL_acts_197 (by decide) ?_
    obtain ⟨hi, hF⟩ := rd_use hF
    refine va_iald hx hb hK hP 0 0 (pXL_0 cI cS xx xd xo hh ha z zn q la M37) rfl hi dL_acts_198 ?_
    refine lv_topi (fun v38 ev38 => ?_)
    have hF := hF v38 ev38
    refine lv_iconst (v := 1) hx hb dL_acts_199 (by decide) ?_
    refine lv_isub hx hb dL_acts_200 ?_
    refine lv_icmp_ne (tgt := 208) hx hb dL_acts_201 (by decide) (fun c39 => ?_) (fun c39 => ?_)
    · have hF := it_f hF c39
      refine lv_iconst (v := 0) hx hb dL_acts_208 (by decide) ?_
      obtain ⟨hz, hF⟩ := zb_use hF
      obtain ⟨er, eM⟩ := pr_use hF
      exact rt_Z hx hb hr hlocks hS (by rw [← eM]; exact hP) hz er dL_acts_209
    · have hF := it_t hF c39
      refine lv_iconst (v := 1) hx hb dL_acts_204 (by decide) ?_
      refine lv_goto (tgt := 209) hx hb dL_acts_205 (by decide) ?_
      obtain ⟨hz, hF⟩ := zb_use hF
      obtain ⟨er, eM⟩ := pr_use hF
      exact rt_Z hx hb hr hlocks hS (by rw [← eM]; exact hP) hz er dL_acts_209
set_option maxHeartbeats 4000000 in
set_option maxRecDepth 100000 in
theorem tL_acts_j32 (l : Launch) (D : va_G) (cS : ClassId) (g : Nat → Nat) (cI : ClassId) (xx xd xo hh ha : Nat) (z : Nat → Nat → Nat) (zn q : Nat → Nat) (la : Nat → Nat) (r : Int32) (M' : XLm) {p : Program} {e : Env} {s : State} {m : MethodId} {args : Array Value} {below : List Frame} {meth : Method} {c : Code} {A : Nat → Prop} (C : CX p s m args meth c A D cI cS g cL_acts 21 (some .boolean) RL) (hDa : ∀ N, va_D A (wXL cI cS xx xd xo hh ha z zn q la N)) : ∀ (N : XLm) (x8 : Int32) (H : Heap) (locs : List Loc) (ls : Array Slot), fL_acts_j32 N x8 = some (r, M') → va_P D vwCl (wXL cI cS xx xd xo hh ha z zn q la N) H → va_S A s.heap H locs → lv_has ls 21 [(0, .ref xx), (1, .ref (la 0)), (3, .ref (la 2)), (8, .int x8)] → W p l e rmL_acts s m args below meth c H locs 0 0 (MQ below (qI D r (wXL cI cS xx xd xo hh ha z zn q la (M')) A) args s 0 0 A) (F0 m 32 ls []) := by
  obtain ⟨hx, hb, hr, hml, hlocks, hown, htb, hA, hK, hG⟩ := id C
  intro N x8 H locs ls hF hP hS hl
  refine lv_aload_n hx hb dL_acts_32 rfl (lv_at hl 1 rfl) ?_
  refine lv_iconst (v := 0) hx hb dL_acts_33 (by decide) ?_
  obtain ⟨hi, hF⟩ := rd_use hF
  refine va_iald hx hb hK hP 0 0 (pXL_0 cI cS xx xd xo hh ha z zn q la N) rfl hi dL_acts_34 ?_
  refine lv_topi (fun v4 ev4 => ?_)
  have hF := hF v4 ev4
  refine lv_iconst (v := 3) hx hb dL_acts_35 (by decide) ?_
  refine lv_icmp_ne (tgt := 72) hx hb dL_acts_36 (by decide) (fun c5 => ?_) (fun c5 => ?_)
  · have hF := it_f hF c5
    exact tL_acts_j72 l D cS g cI xx xd xo hh ha z zn q la r M' C hDa N x8 _ _ _ hF hP hS (lv_sub hl [0, 1, 2, 3] rfl)
  · have hF := it_t hF c5
    refine lv_aload_n hx hb dL_acts_39 rfl (lv_at hl 0 rfl) ?_
    refine lv_bipush (v := 19) hx hb dL_acts_40 (by decide) ?_
    refine lv_iconst (v := 0) hx hb dL_acts_42 (by decide) ?_
    refine lv_iconst (v := 1) hx hb dL_acts_43 (by decide) ?_
    refine lv_iconst (v := 2) hx hb dL_acts_44 (by decide) ?_
    obtain ⟨r41, M40, hM40, hF⟩ := b2_use hF
    refine cl_VI ⟨hx, hb, hml, hown, htb⟩ (kX8_addRoom l D cS g cI xx xd xo hh ha z zn q (N.1) 19 0 1 2 _ _ hM40) (cwV 4 htb (gX8_addRoom bw2_41) rfl rfl rfl hdX8_addRoom ⟨Nat.le_of_ble_eq_true rfl, Nat.le_of_ble_eq_true rfl⟩) hK (hDa _) hG hA hP hS (sg_XL_XX cI cS xx xd xo hh ha z zn q la N M40) hl.1 rfl 0 (pXX_0 _ _ _ _ _ _ _ _ _ _ _) rfl rfl (Nat.le_of_ble_eq_true rfl) dL_acts_45 (fun H locs hP hS => ?_)
    obtain ⟨M42, eM42⟩ : ∃ z : XLm, z = (M40, N.2) := ⟨_, rfl⟩
    have hF := nm_use hF eM42
    have hP : va_P D vwCl (wXL cI cS xx xd xo hh ha z zn q la M42) H := by rw [eM42]; exact hP
    refine lv_iconst (v := (-1)) hx hb dL_acts_48 (by decide) ?_
    refine lv_icmp_ne (tgt := 70) hx hb dL_acts_49 (by decide) (fun c43 => ?_) (fun c43 => ?_)
    · have hF := it_f hF c43
      refine lv_iconst (v := 0) hx hb dL_acts_70 (by decide) ?_
      obtain ⟨hz, hF⟩ := zb_use hF
      obtain ⟨er, eM⟩ := pr_use hF
      exact rt_Z hx hb hr hlocks hS (by rw [← eM]; exact hP) hz er dL_acts_71
    · have hF := it_t hF c43
      refine lv_aload_n hx hb dL_acts_52 rfl (lv_at hl 0 rfl) ?_
      refine lv_bipush (v := 20) hx hb dL_acts_53 (by decide) ?_
      refine lv_bipush (v := 61) hx hb dL_acts_55 (by decide) ?_
      refine lv_iconst (v := 1) hx hb dL_acts_57 (by decide) ?_
      refine lv_iconst (v := 2) hx hb dL_acts_58 (by decide) ?_
      obtain ⟨r45, M44, hM44, hF⟩ := b2_use hF
      refine cl_VI ⟨hx, hb, hml, hown, htb⟩ (kX8_addRoom l D cS g cI xx xd xo hh ha z zn q (M42.1) 20 61 1 2 _ _ hM44) (cwV 4 htb (gX8_addRoom bw2_41) rfl rfl rfl hdX8_addRoom ⟨Nat.le_of_ble_eq_true rfl, Nat.le_of_ble_eq_true rfl⟩) hK (hDa _) hG hA hP hS (sg_XL_XX cI cS xx xd xo hh ha z zn q la M42 M44) hl.1 rfl 0 (pXX_0 _ _ _ _ _ _ _ _ _ _ _) rfl rfl (Nat.le_of_ble_eq_true rfl) dL_acts_59 (fun H locs hP hS => ?_)
      obtain ⟨M46, eM46⟩ : ∃ z : XLm, z = (M44, M42.2) := ⟨_, rfl⟩
      have hF := nm_use hF eM46
      have hP : va_P D vwCl (wXL cI cS xx xd xo hh ha z zn q la M46) H := by rw [eM46]; exact hP
      refine lv_iconst (v := (-1)) hx hb dL_acts_62 (by decide) ?_
      refine lv_icmp_ne (tgt := 70) hx hb dL_acts_63 (by decide) (fun c47 => ?_) (fun c47 => ?_)
      · have hF := it_f hF c47
        refine lv_iconst (v := 0) hx hb dL_acts_70 (by decide) ?_
        obtain ⟨hz, hF⟩ := zb_use hF
        obtain ⟨er, eM⟩ := pr_use hF
        exact rt_Z hx hb hr hlocks hS (by rw [← eM]; exact hP) hz er dL_acts_71
      · have hF := it_t hF c47
        refine lv_iconst (v := 1) hx hb dL_acts_66 (by decide) ?_
        refine lv_goto (tgt := 71) hx hb dL_acts_67 (by decide) ?_
        obtain ⟨hz, hF⟩ := zb_use hF
        obtain ⟨er, eM⟩ := pr_use hF
        exact rt_Z hx hb hr hlocks hS (by rw [← eM]; exact hP) hz er dL_acts_71
set_option maxHeartbeats 4000000 in
set_option maxRecDepth 100000 in
theorem tL_acts_j2020 (l : Launch) (D : va_G) (cS : ClassId) (g : Nat → Nat) (cI : ClassId) (xx xd xo hh ha : Nat) (z : Nat → Nat → Nat) (zn q : Nat → Nat) (la : Nat → Nat) (r : Int32) (M' : XLm) {p : Program} {e : Env} {s : State} {m : MethodId} {args : Array Value} {below : List Frame} {meth : Method} {c : Code} {A : Nat → Prop} (C : CX p s m args meth c A D cI cS g cL_acts 21 (some .boolean) RL) (hDa : ∀ N, va_D A (wXL cI cS xx xd xo hh ha z zn q la N)) : ∀ (N : XLm) (x11 : Int32) (x13 : Int32) (x14 : Int32) (x15 : Int32) (x17 : Int32) (x20 : Int32) (s1 : Int32) (s2 : Int32) (s3 : Int32) (H : Heap) (locs : List Loc) (ls : Array Slot), fL_acts_j2020 N x11 x13 x14 x15 x17 x20 s1 s2 s3 = some (r, M') → va_P D vwCl (wXL cI cS xx xd xo hh ha z zn q la N) H → va_S A s.heap H locs → lv_has ls 21 [(0, .ref xx), (1, .ref (la 0)), (2, .ref (la 1)), (4, .ref (la 3)), (5, .ref (la 4)), (6, .ref (la 5)), (11, .int x11), (13, .int x13), (14, .int x14), (15, .int x15), (17, .int x17), (20, .int x20)] → W p l e rmL_acts s m args below meth c H locs 0 0 (MQ below (qI D r (wXL cI cS xx xd xo hh ha z zn q la (M')) A) args s 0 0 A) (F0 m 2020 ls [.int s3, .int s2, .int s1, .ref (la 2)]) := by
  obtain ⟨hx, hb, hr, hml, hlocks, hown, htb, hA, hK, hG⟩ := id C
  intro N x11 x13 x14 x15 x17 x20 s1 s2 s3 H locs ls hF hP hS hl
  refine lv_iadd hx hb dL_acts_2020 ?_
  obtain ⟨hi, hF⟩ := wr_use hF
  refine va_iast hx hb hK hP (hDa _) hS 2 0 (pXL_2 cI cS xx xd xo hh ha z zn q la N) rfl hi dL_acts_2021 (fun H locs hP _ hS => ?_)
  obtain ⟨M125, eM125⟩ : ∃ z : XLm, z = (N.1, (N.2.1, N.2.2.1, (upd (N.2.2.2.1) (s1 : Int32).toNatClampNeg (s2 + s3)), N.2.2.2.2)) := ⟨_, rfl⟩
  have hF := nm_use hF eM125
  have hP : va_P D vwCl (wXL cI cS xx xd xo hh ha z zn q la M125) H := by rw [eM125]; exact hP
  refine lv_aload_n hx hb dL_acts_2022 rfl (lv_at hl 1 rfl) ?_
  refine lv_aload hx hb dL_acts_2023 (lv_at hl 3 rfl) ?_
  refine lv_aload hx hb dL_acts_2025 (lv_at hl 4 rfl) ?_
  refine lv_aload hx hb dL_acts_2027 (lv_at hl 5 rfl) ?_
  refine lv_iload hx hb dL_acts_2029 (lv_at hl 6 rfl) ?_
  refine lv_aload_n hx hb dL_acts_2031 rfl (lv_at hl 2 rfl) ?_
  refine lv_aload hx hb dL_acts_2032 (lv_at hl 3 rfl) ?_
  refine lv_bipush (v := 9) hx hb dL_acts_2034 (by decide) ?_
  refine lv_iload hx hb dL_acts_2036 (lv_at hl 6 rfl) ?_
  refine lv_imul hx hb dL_acts_2038 ?_
  refine lv_iconst (v := 4) hx hb dL_acts_2039 (by decide) ?_
  refine lv_iadd hx hb dL_acts_2040 ?_
  obtain ⟨hi, hF⟩ := rd_use hF
  refine va_iald hx hb hK hP 3 0 (pXL_3 cI cS xx xd xo hh ha z zn q la M125) rfl hi dL_acts_2041 ?_
  refine lv_topi (fun v126 ev126 => ?_)
  have hF := hF v126 ev126
  refine lv_iload hx hb dL_acts_2042 (lv_at hl 10 rfl) ?_
  obtain ⟨r127, hr127, hF⟩ := bd_use hF
  refine cl_SI ⟨hx, hb, hml, hown, htb⟩ (kL_share l D cS g cI la (M125.2) v126 x17 _ hr127) (va_cwS 3 htb (gL_share bw3_22) rfl rfl rfl hdL_share ⟨Nat.le_of_ble_eq_true rfl, Nat.le_of_ble_eq_true rfl⟩) hK (hDa _) hG hA hP hS (sr_XL_LA cI cS xx xd xo hh ha z zn q la M125) hl.1 rfl rfl (Nat.le_of_ble_eq_true rfl) dL_acts_2044 (fun H locs hP hS => ?_)
  obtain ⟨M128, hM128, hF⟩ := bd_use hF
  refine cl_SVw ⟨hx, hb, hml, hown, htb⟩ (kL_refunds l D cS g cI la (M125.2) x11 r127 _ hM128) (va_cwS 6 htb (gL_refunds bw3_19) rfl rfl rfl hdL_refunds ⟨Nat.le_of_ble_eq_true rfl, Nat.le_of_ble_eq_true rfl⟩) hK (hDa _) hG hA hP hS (sg_XL_LA cI cS xx xd xo hh ha z zn q la M125 M128) hl.1 rfl rfl (Nat.le_of_ble_eq_true rfl) dL_acts_2047 (fun H locs hP hS => ?_)
  obtain ⟨M129, eM129⟩ : ∃ z : XLm, z = (M125.1, M128) := ⟨_, rfl⟩
  have hF := nm_use hF eM129
  have hP : va_P D vwCl (wXL cI cS xx xd xo hh ha z zn q la M129) H := by rw [eM129]; exact hP
  refine lv_aload_n hx hb dL_acts_2050 rfl (lv_at hl 0 rfl) ?_
  refine lv_iload hx hb dL_acts_2051 (lv_at hl 6 rfl) ?_
  refine lv_iload hx hb dL_acts_2053 (lv_at hl 7 rfl) ?_
  refine lv_iload hx hb dL_acts_2055 (lv_at hl 8 rfl) ?_
  refine lv_iload hx hb dL_acts_2057 (lv_at hl 9 rfl) ?_
  obtain ⟨r131, M130, hM130, hF⟩ := b2_use hF
  refine cl_VI ⟨hx, hb, hml, hown, htb⟩ (kX8_play l D cS g cI xx xd xo hh ha z zn q (M129.1) x11 x13 x14 x15 _ _ hM130) (cwV 4 htb (gX8_play bw2_230) rfl rfl rfl hdX8_play ⟨Nat.le_of_ble_eq_true rfl, Nat.le_of_ble_eq_true rfl⟩) hK (hDa _) hG hA hP hS (sg_XL_XX cI cS xx xd xo hh ha z zn q la M129 M130) hl.1 rfl 0 (pXX_0 _ _ _ _ _ _ _ _ _ _ _) rfl rfl (Nat.le_of_ble_eq_true rfl) dL_acts_2059 (fun H locs hP hS => ?_)
  obtain ⟨M132, eM132⟩ : ∃ z : XLm, z = (M130, M129.2) := ⟨_, rfl⟩
  have hF := nm_use hF eM132
  have hP : va_P D vwCl (wXL cI cS xx xd xo hh ha z zn q la M132) H := by rw [eM132]; exact hP
  refine lv_iload hx hb dL_acts_2062 (lv_at hl 11 rfl) ?_
  refine lv_icmp_ne (tgt := 2071) hx hb dL_acts_2064 (by decide) (fun c133 => ?_) (fun c133 => ?_)
  · have hF := it_f hF c133
    refine lv_iconst (v := 0) hx hb dL_acts_2071 (by decide) ?_
    obtain ⟨hz, hF⟩ := zb_use hF
    obtain ⟨er, eM⟩ := pr_use hF
    exact rt_Z hx hb hr hlocks hS (by rw [← eM]; exact hP) hz er dL_acts_2072
  · have hF := it_t hF c133
    refine lv_iconst (v := 1) hx hb dL_acts_2067 (by decide) ?_
    refine lv_goto (tgt := 2072) hx hb dL_acts_2068 (by decide) ?_
    obtain ⟨hz, hF⟩ := zb_use hF
    obtain ⟨er, eM⟩ := pr_use hF
    exact rt_Z hx hb hr hlocks hS (by rw [← eM]; exact hP) hz er dL_acts_2072
set_option maxHeartbeats 4000000 in
set_option maxRecDepth 100000 in
theorem tL_acts_j2019 (l : Launch) (D : va_G) (cS : ClassId) (g : Nat → Nat) (cI : ClassId) (xx xd xo hh ha : Nat) (z : Nat → Nat → Nat) (zn q : Nat → Nat) (la : Nat → Nat) (r : Int32) (M' : XLm) {p : Program} {e : Env} {s : State} {m : MethodId} {args : Array Value} {below : List Frame} {meth : Method} {c : Code} {A : Nat → Prop} (C : CX p s m args meth c A D cI cS g cL_acts 21 (some .boolean) RL) (hDa : ∀ N, va_D A (wXL cI cS xx xd xo hh ha z zn q la N)) : ∀ (N : XLm) (x11 : Int32) (x13 : Int32) (x14 : Int32) (x15 : Int32) (x17 : Int32) (x20 : Int32) (s1 : Int32) (s2 : Int32) (H : Heap) (locs : List Loc) (ls : Array Slot), fL_acts_j2019 N x11 x13 x14 x15 x17 x20 s1 s2 = some (r, M') → va_P D vwCl (wXL cI cS xx xd xo hh ha z zn q la N) H → va_S A s.heap H locs → lv_has ls 21 [(0, .ref xx), (1, .ref (la 0)), (2, .ref (la 1)), (4, .ref (la 3)), (5, .ref (la 4)), (6, .ref (la 5)), (11, .int x11), (13, .int x13), (14, .int x14), (15, .int x15), (17, .int x17), (20, .int x20)] → W p l e rmL_acts s m args below meth c H locs 0 0 (MQ below (qI D r (wXL cI cS xx xd xo hh ha z zn q la (M')) A) args s 0 0 A) (F0 m 2019 ls [.int s2, .int s1, .ref (la 2)]) := by
  obtain ⟨hx, hb, hr, hml, hlocks, hown, htb, hA, hK, hG⟩ := id C
  intro N x11 x13 x14 x15 x17 x20 s1 s2 H locs ls hF hP hS hl
  refine lv_iconst (v := 0) hx hb dL_acts_2019 (by decide) ?_
  exact tL_acts_j2020 l D cS g cI xx xd xo hh ha z zn q la r M' C hDa N x11 x13 x14 x15 x17 x20 s1 s2 0 _ _ _ hF hP hS (lv_sub hl [0, 1, 2, 3, 4, 5, 6, 7, 8, 9, 10, 11] rfl)
set_option maxHeartbeats 4000000 in
set_option maxRecDepth 100000 in
theorem tL_acts_j1992 (l : Launch) (D : va_G) (cS : ClassId) (g : Nat → Nat) (cI : ClassId) (xx xd xo hh ha : Nat) (z : Nat → Nat → Nat) (zn q : Nat → Nat) (la : Nat → Nat) (r : Int32) (M' : XLm) {p : Program} {e : Env} {s : State} {m : MethodId} {args : Array Value} {below : List Frame} {meth : Method} {c : Code} {A : Nat → Prop} (C : CX p s m args meth c A D cI cS g cL_acts 21 (some .boolean) RL) (hDa : ∀ N, va_D A (wXL cI cS xx xd xo hh ha z zn q la N)) : ∀ (N : XLm) (x11 : Int32) (x13 : Int32) (x14 : Int32) (x15 : Int32) (x16 : Int32) (x17 : Int32) (x18 : Int32) (x20 : Int32) (s1 : Int32) (s2 : Int32) (H : Heap) (locs : List Loc) (ls : Array Slot), fL_acts_j1992 N x11 x13 x14 x15 x16 x17 x18 x20 s1 s2 = some (r, M') → va_P D vwCl (wXL cI cS xx xd xo hh ha z zn q la N) H → va_S A s.heap H locs → lv_has ls 21 [(0, .ref xx), (1, .ref (la 0)), (2, .ref (la 1)), (3, .ref (la 2)), (4, .ref (la 3)), (5, .ref (la 4)), (6, .ref (la 5)), (11, .int x11), (13, .int x13), (14, .int x14), (15, .int x15), (16, .int x16), (17, .int x17), (18, .int x18), (20, .int x20)] → W p l e rmL_acts s m args below meth c H locs 0 0 (MQ below (qI D r (wXL cI cS xx xd xo hh ha z zn q la (M')) A) args s 0 0 A) (F0 m 1992 ls [.int s2, .int s1, .ref (la 2)]) := by
  obtain ⟨hx, hb, hr, hml, hlocks, hown, htb, hA, hK, hG⟩ := id C
  intro N x11 x13 x14 x15 x16 x17 x18 x20 s1 s2 H locs ls hF hP hS hl
  obtain ⟨hi, hF⟩ := wr_use hF
  refine va_iast hx hb hK hP (hDa _) hS 2 0 (pXL_2 cI cS xx xd xo hh ha z zn q la N) rfl hi dL_acts_1992 (fun H locs hP _ hS => ?_)
  obtain ⟨M120, eM120⟩ : ∃ z : XLm, z = (N.1, (N.2.1, N.2.2.1, (upd (N.2.2.2.1) (s1 : Int32).toNatClampNeg s2), N.2.2.2.2)) := ⟨_, rfl⟩
  have hF := nm_use hF eM120
  have hP : va_P D vwCl (wXL cI cS xx xd xo hh ha z zn q la M120) H := by rw [eM120]; exact hP
  refine lv_aload_n hx hb dL_acts_1993 rfl (lv_at hl 3 rfl) ?_
  refine lv_iload hx hb dL_acts_1994 (lv_at hl 11 rfl) ?_
  refine lv_bipush (v := 10) hx hb dL_acts_1996 (by decide) ?_
  refine lv_iadd hx hb dL_acts_1998 ?_
  refine lv_topi (fun v121 ev121 => ?_)
  have hF := nm_use hF ev121
  refine lv_dup2_11 hx hb dL_acts_1999 rfl rfl ?_
  obtain ⟨hi, hF⟩ := rd_use hF
  refine va_iald hx hb hK hP 2 0 (pXL_2 cI cS xx xd xo hh ha z zn q la M120) rfl hi dL_acts_2000 ?_
  refine lv_topi (fun v122 ev122 => ?_)
  have hF := hF v122 ev122
  refine lv_iload hx hb dL_acts_2001 (lv_at hl 8 rfl) ?_
  refine lv_if_le (tgt := 2019) hx hb dL_acts_2003 (by decide) (fun c123 => ?_) (fun c123 => ?_)
  · have hF := it_t hF c123
    exact tL_acts_j2019 l D cS g cI xx xd xo hh ha z zn q la r M' C hDa M120 x11 x13 x14 x15 x17 x20 v121 v122 _ _ _ hF hP hS (lv_sub hl [0, 1, 2, 4, 5, 6, 7, 8, 9, 10, 12, 14] rfl)
  · have hF := it_f hF c123
    refine lv_iload hx hb dL_acts_2006 (lv_at hl 13 rfl) ?_
    refine lv_aload_n hx hb dL_acts_2008 rfl (lv_at hl 3 rfl) ?_
    refine lv_iload hx hb dL_acts_2009 (lv_at hl 11 rfl) ?_
    obtain ⟨hi, hF⟩ := rd_use hF
    refine va_iald hx hb hK hP 2 0 (pXL_2 cI cS xx xd xo hh ha z zn q la M120) rfl hi dL_acts_2011 ?_
    refine lv_topi (fun v134 ev134 => ?_)
    have hF := hF v134 ev134
    refine lv_icmp_le (tgt := 2019) hx hb dL_acts_2012 (by decide) (fun c135 => ?_) (fun c135 => ?_)
    · have hF := it_t hF c135
      exact tL_acts_j2019 l D cS g cI xx xd xo hh ha z zn q la r M' C hDa M120 x11 x13 x14 x15 x17 x20 v121 v122 _ _ _ hF hP hS (lv_sub hl [0, 1, 2, 4, 5, 6, 7, 8, 9, 10, 12, 14] rfl)
    · have hF := it_f hF c135
      refine lv_iconst (v := 1) hx hb dL_acts_2015 (by decide) ?_
      refine lv_goto (tgt := 2020) hx hb dL_acts_2016 (by decide) ?_
      exact tL_acts_j2020 l D cS g cI xx xd xo hh ha z zn q la r M' C hDa M120 x11 x13 x14 x15 x17 x20 v121 v122 1 _ _ _ hF hP hS (lv_sub hl [0, 1, 2, 4, 5, 6, 7, 8, 9, 10, 12, 14] rfl)
set_option maxHeartbeats 4000000 in
set_option maxRecDepth 100000 in
theorem tL_acts_j1936 (l : Launch) (D : va_G) (cS : ClassId) (g : Nat → Nat) (cI : ClassId) (xx xd xo hh ha : Nat) (z : Nat → Nat → Nat) (zn q : Nat → Nat) (la : Nat → Nat) (r : Int32) (M' : XLm) {p : Program} {e : Env} {s : State} {m : MethodId} {args : Array Value} {below : List Frame} {meth : Method} {c : Code} {A : Nat → Prop} (C : CX p s m args meth c A D cI cS g cL_acts 21 (some .boolean) RL) (hDa : ∀ N, va_D A (wXL cI cS xx xd xo hh ha z zn q la N)) : ∀ (N : XLm) (x11 : Int32) (x13 : Int32) (x14 : Int32) (x15 : Int32) (x16 : Int32) (x17 : Int32) (x18 : Int32) (x20 : Int32) (s1 : Int32) (s2 : Int32) (s3 : Int32) (H : Heap) (locs : List Loc) (ls : Array Slot), fL_acts_j1936 N x11 x13 x14 x15 x16 x17 x18 x20 s1 s2 s3 = some (r, M') → va_P D vwCl (wXL cI cS xx xd xo hh ha z zn q la N) H → va_S A s.heap H locs → lv_has ls 21 [(0, .ref xx), (1, .ref (la 0)), (2, .ref (la 1)), (3, .ref (la 2)), (4, .ref (la 3)), (5, .ref (la 4)), (6, .ref (la 5)), (11, .int x11), (13, .int x13), (14, .int x14), (15, .int x15), (16, .int x16), (17, .int x17), (18, .int x18), (20, .int x20)] → W p l e rmL_acts s m args below meth c H locs 0 0 (MQ below (qI D r (wXL cI cS xx xd xo hh ha z zn q la (M')) A) args s 0 0 A) (F0 m 1936 ls [.int s3, .int s2, .int s1, .ref (la 2)]) := by
  obtain ⟨hx, hb, hr, hml, hlocks, hown, htb, hA, hK, hG⟩ := id C
  intro N x11 x13 x14 x15 x16 x17 x18 x20 s1 s2 s3 H locs ls hF hP hS hl
  refine lv_iadd hx hb dL_acts_1936 ?_
  obtain ⟨hi, hF⟩ := wr_use hF
  refine va_iast hx hb hK hP (hDa _) hS 2 0 (pXL_2 cI cS xx xd xo hh ha z zn q la N) rfl hi dL_acts_1937 (fun H locs hP _ hS => ?_)
  obtain ⟨M107, eM107⟩ : ∃ z : XLm, z = (N.1, (N.2.1, N.2.2.1, (upd (N.2.2.2.1) (s1 : Int32).toNatClampNeg (s2 + s3)), N.2.2.2.2)) := ⟨_, rfl⟩
  have hF := nm_use hF eM107
  have hP : va_P D vwCl (wXL cI cS xx xd xo hh ha z zn q la M107) H := by rw [eM107]; exact hP
  refine lv_aload_n hx hb dL_acts_1938 rfl (lv_at hl 3 rfl) ?_
  refine lv_iload hx hb dL_acts_1939 (lv_at hl 11 rfl) ?_
  refine lv_bipush (v := 7) hx hb dL_acts_1941 (by decide) ?_
  refine lv_iadd hx hb dL_acts_1943 ?_
  refine lv_topi (fun v108 ev108 => ?_)
  have hF := nm_use hF ev108
  refine lv_dup2_11 hx hb dL_acts_1944 rfl rfl ?_
  obtain ⟨hi, hF⟩ := rd_use hF
  refine va_iald hx hb hK hP 2 0 (pXL_2 cI cS xx xd xo hh ha z zn q la M107) rfl hi dL_acts_1945 ?_
  refine lv_topi (fun v109 ev109 => ?_)
  have hF := hF v109 ev109
  refine lv_iload hx hb dL_acts_1946 (lv_at hl 9 rfl) ?_
  refine lv_iadd hx hb dL_acts_1948 ?_
  obtain ⟨hi, hF⟩ := wr_use hF
  refine va_iast hx hb hK hP (hDa _) hS 2 0 (pXL_2 cI cS xx xd xo hh ha z zn q la M107) rfl hi dL_acts_1949 (fun H locs hP _ hS => ?_)
  obtain ⟨M111, eM111⟩ : ∃ z : XLm, z = (M107.1, (M107.2.1, M107.2.2.1, (upd (M107.2.2.2.1) (v108 : Int32).toNatClampNeg (v109 + x14)), M107.2.2.2.2)) := ⟨_, rfl⟩
  have hF := nm_use hF eM111
  have hP : va_P D vwCl (wXL cI cS xx xd xo hh ha z zn q la M111) H := by rw [eM111]; exact hP
  refine lv_aload_n hx hb dL_acts_1950 rfl (lv_at hl 3 rfl) ?_
  refine lv_iload hx hb dL_acts_1951 (lv_at hl 11 rfl) ?_
  refine lv_bipush (v := 8) hx hb dL_acts_1953 (by decide) ?_
  refine lv_iadd hx hb dL_acts_1955 ?_
  refine lv_topi (fun v112 ev112 => ?_)
  have hF := nm_use hF ev112
  refine lv_dup2_11 hx hb dL_acts_1956 rfl rfl ?_
  obtain ⟨hi, hF⟩ := rd_use hF
  refine va_iald hx hb hK hP 2 0 (pXL_2 cI cS xx xd xo hh ha z zn q la M111) rfl hi dL_acts_1957 ?_
  refine lv_topi (fun v113 ev113 => ?_)
  have hF := hF v113 ev113
  refine lv_iload hx hb dL_acts_1958 (lv_at hl 14 rfl) ?_
  refine lv_iadd hx hb dL_acts_1960 ?_
  obtain ⟨hi, hF⟩ := wr_use hF
  refine va_iast hx hb hK hP (hDa _) hS 2 0 (pXL_2 cI cS xx xd xo hh ha z zn q la M111) rfl hi dL_acts_1961 (fun H locs hP _ hS => ?_)
  obtain ⟨M115, eM115⟩ : ∃ z : XLm, z = (M111.1, (M111.2.1, M111.2.2.1, (upd (M111.2.2.2.1) (v112 : Int32).toNatClampNeg (v113 + x20)), M111.2.2.2.2)) := ⟨_, rfl⟩
  have hF := nm_use hF eM115
  have hP : va_P D vwCl (wXL cI cS xx xd xo hh ha z zn q la M115) H := by rw [eM115]; exact hP
  refine lv_aload_n hx hb dL_acts_1962 rfl (lv_at hl 3 rfl) ?_
  refine lv_iload hx hb dL_acts_1963 (lv_at hl 11 rfl) ?_
  refine lv_bipush (v := 9) hx hb dL_acts_1965 (by decide) ?_
  refine lv_iadd hx hb dL_acts_1967 ?_
  refine lv_iload hx hb dL_acts_1968 (lv_at hl 12 rfl) ?_
  refine lv_aload_n hx hb dL_acts_1970 rfl (lv_at hl 3 rfl) ?_
  refine lv_iload hx hb dL_acts_1971 (lv_at hl 11 rfl) ?_
  refine lv_bipush (v := 9) hx hb dL_acts_1973 (by decide) ?_
  refine lv_iadd hx hb dL_acts_1975 ?_
  obtain ⟨hi, hF⟩ := rd_use hF
  refine va_iald hx hb hK hP 2 0 (pXL_2 cI cS xx xd xo hh ha z zn q la M115) rfl hi dL_acts_1976 ?_
  refine lv_topi (fun v116 ev116 => ?_)
  have hF := hF v116 ev116
  refine lv_icmp_le (tgt := 1985) hx hb dL_acts_1977 (by decide) (fun c117 => ?_) (fun c117 => ?_)
  · have hF := it_t hF c117
    refine lv_aload_n hx hb dL_acts_1985 rfl (lv_at hl 3 rfl) ?_
    refine lv_iload hx hb dL_acts_1986 (lv_at hl 11 rfl) ?_
    refine lv_bipush (v := 9) hx hb dL_acts_1988 (by decide) ?_
    refine lv_iadd hx hb dL_acts_1990 ?_
    obtain ⟨hi, hF⟩ := rd_use hF
    refine va_iald hx hb hK hP 2 0 (pXL_2 cI cS xx xd xo hh ha z zn q la M115) rfl hi dL_acts_1991 ?_
    refine lv_topi (fun v118 ev118 => ?_)
    have hF := hF v118 ev118
    exact tL_acts_j1992 l D cS g cI xx xd xo hh ha z zn q la r M' C hDa M115 x11 x13 x14 x15 x16 x17 x18 x20 (x16 + 9) v118 _ _ _ hF hP hS (lv_sub hl [0, 1, 2, 3, 4, 5, 6, 7, 8, 9, 10, 11, 12, 13, 14] rfl)
  · have hF := it_f hF c117
    refine lv_iload hx hb dL_acts_1980 (lv_at hl 12 rfl) ?_
    refine lv_goto (tgt := 1992) hx hb dL_acts_1982 (by decide) ?_
    exact tL_acts_j1992 l D cS g cI xx xd xo hh ha z zn q la r M' C hDa M115 x11 x13 x14 x15 x16 x17 x18 x20 (x16 + 9) x17 _ _ _ hF hP hS (lv_sub hl [0, 1, 2, 3, 4, 5, 6, 7, 8, 9, 10, 11, 12, 13, 14] rfl)
set_option maxHeartbeats 4000000 in
set_option maxRecDepth 100000 in
theorem tL_acts_j1824 (l : Launch) (D : va_G) (cS : ClassId) (g : Nat → Nat) (cI : ClassId) (xx xd xo hh ha : Nat) (z : Nat → Nat → Nat) (zn q : Nat → Nat) (la : Nat → Nat) (r : Int32) (M' : XLm) {p : Program} {e : Env} {s : State} {m : MethodId} {args : Array Value} {below : List Frame} {meth : Method} {c : Code} {A : Nat → Prop} (C : CX p s m args meth c A D cI cS g cL_acts 21 (some .boolean) RL) (hDa : ∀ N, va_D A (wXL cI cS xx xd xo hh ha z zn q la N)) : ∀ (N : XLm) (x11 : Int32) (x13 : Int32) (x14 : Int32) (x15 : Int32) (x16 : Int32) (x17 : Int32) (x18 : Int32) (x19 : Int32) (s0 : Int32) (H : Heap) (locs : List Loc) (ls : Array Slot), fL_acts_j1824 N x11 x13 x14 x15 x16 x17 x18 x19 s0 = some (r, M') → va_P D vwCl (wXL cI cS xx xd xo hh ha z zn q la N) H → va_S A s.heap H locs → lv_has ls 21 [(0, .ref xx), (1, .ref (la 0)), (2, .ref (la 1)), (3, .ref (la 2)), (4, .ref (la 3)), (5, .ref (la 4)), (6, .ref (la 5)), (11, .int x11), (13, .int x13), (14, .int x14), (15, .int x15), (16, .int x16), (17, .int x17), (18, .int x18), (19, .int x19)] → W p l e rmL_acts s m args below meth c H locs 0 0 (MQ below (qI D r (wXL cI cS xx xd xo hh ha z zn q la (M')) A) args s 0 0 A) (F0 m 1824 ls [.int s0]) := by
  obtain ⟨hx, hb, hr, hml, hlocks, hown, htb, hA, hK, hG⟩ := id C
  intro N x11 x13 x14 x15 x16 x17 x18 x19 s0 H locs ls hF hP hS hl
  refine lv_istore (lv' := [(20, .int s0), (0, .ref xx), (1, .ref (la 0)), (2, .ref (la 1)), (3, .ref (la 2)), (4, .ref (la 3)), (5, .ref (la 4)), (6, .ref (la 5)), (11, .int x11), (13, .int x13), (14, .int x14), (15, .int x15), (16, .int x16), (17, .int x17), (18, .int x18), (19, .int x19)]) hx hb dL_acts_1824 hl (by decide) rfl (fun ls hl => ?_)
  refine lv_aload hx hb dL_acts_1826 (lv_at hl 5 rfl) ?_
  refine lv_bipush (v := 9) hx hb dL_acts_1828 (by decide) ?_
  refine lv_iload hx hb dL_acts_1830 (lv_at hl 8 rfl) ?_
  refine lv_imul hx hb dL_acts_1832 ?_
  refine lv_iconst (v := 3) hx hb dL_acts_1833 (by decide) ?_
  refine lv_iadd hx hb dL_acts_1834 ?_
  refine lv_iconst (v := 1) hx hb dL_acts_1835 (by decide) ?_
  obtain ⟨hi, hF⟩ := wr_use hF
  refine va_iast hx hb hK hP (hDa _) hS 3 0 (pXL_3 cI cS xx xd xo hh ha z zn q la N) rfl hi dL_acts_1836 (fun H locs hP _ hS => ?_)
  obtain ⟨M88, eM88⟩ : ∃ z : XLm, z = (N.1, (N.2.1, N.2.2.1, N.2.2.2.1, (upd (N.2.2.2.2.1) ((9 * x11) + 3 : Int32).toNatClampNeg 1), N.2.2.2.2.2)) := ⟨_, rfl⟩
  have hF := nm_use hF eM88
  have hP : va_P D vwCl (wXL cI cS xx xd xo hh ha z zn q la M88) H := by rw [eM88]; exact hP
  refine lv_aload hx hb dL_acts_1837 (lv_at hl 5 rfl) ?_
  refine lv_bipush (v := 9) hx hb dL_acts_1839 (by decide) ?_
  refine lv_iload hx hb dL_acts_1841 (lv_at hl 8 rfl) ?_
  refine lv_imul hx hb dL_acts_1843 ?_
  refine lv_bipush (v := 7) hx hb dL_acts_1844 (by decide) ?_
  refine lv_iadd hx hb dL_acts_1846 ?_
  refine lv_aload hx hb dL_acts_1847 (lv_at hl 5 rfl) ?_
  refine lv_bipush (v := 9) hx hb dL_acts_1849 (by decide) ?_
  refine lv_iload hx hb dL_acts_1851 (lv_at hl 8 rfl) ?_
  refine lv_imul hx hb dL_acts_1853 ?_
  refine lv_iconst (v := 1) hx hb dL_acts_1854 (by decide) ?_
  refine lv_iadd hx hb dL_acts_1855 ?_
  obtain ⟨hi, hF⟩ := rd_use hF
  refine va_iald hx hb hK hP 3 0 (pXL_3 cI cS xx xd xo hh ha z zn q la M88) rfl hi dL_acts_1856 ?_
  refine lv_topi (fun v89 ev89 => ?_)
  have hF := hF v89 ev89
  refine lv_iload hx hb dL_acts_1857 (lv_at hl 13 rfl) ?_
  refine lv_iadd hx hb dL_acts_1859 ?_
  obtain ⟨hi, hF⟩ := wr_use hF
  refine va_iast hx hb hK hP (hDa _) hS 3 0 (pXL_3 cI cS xx xd xo hh ha z zn q la M88) rfl hi dL_acts_1860 (fun H locs hP _ hS => ?_)
  obtain ⟨M91, eM91⟩ : ∃ z : XLm, z = (M88.1, (M88.2.1, M88.2.2.1, M88.2.2.2.1, (upd (M88.2.2.2.2.1) ((9 * x11) + 7 : Int32).toNatClampNeg (v89 + x17)), M88.2.2.2.2.2)) := ⟨_, rfl⟩
  have hF := nm_use hF eM91
  have hP : va_P D vwCl (wXL cI cS xx xd xo hh ha z zn q la M91) H := by rw [eM91]; exact hP
  refine lv_aload hx hb dL_acts_1861 (lv_at hl 5 rfl) ?_
  refine lv_bipush (v := 9) hx hb dL_acts_1863 (by decide) ?_
  refine lv_iload hx hb dL_acts_1865 (lv_at hl 8 rfl) ?_
  refine lv_imul hx hb dL_acts_1867 ?_
  refine lv_bipush (v := 8) hx hb dL_acts_1868 (by decide) ?_
  refine lv_iadd hx hb dL_acts_1870 ?_
  refine lv_iload hx hb dL_acts_1871 (lv_at hl 0 rfl) ?_
  obtain ⟨hi, hF⟩ := wr_use hF
  refine va_iast hx hb hK hP (hDa _) hS 3 0 (pXL_3 cI cS xx xd xo hh ha z zn q la M91) rfl hi dL_acts_1873 (fun H locs hP _ hS => ?_)
  obtain ⟨M93, eM93⟩ : ∃ z : XLm, z = (M91.1, (M91.2.1, M91.2.2.1, M91.2.2.2.1, (upd (M91.2.2.2.2.1) ((9 * x11) + 8 : Int32).toNatClampNeg s0), M91.2.2.2.2.2)) := ⟨_, rfl⟩
  have hF := nm_use hF eM93
  have hP : va_P D vwCl (wXL cI cS xx xd xo hh ha z zn q la M93) H := by rw [eM93]; exact hP
  refine lv_aload_n hx hb dL_acts_1874 rfl (lv_at hl 4 rfl) ?_
  refine lv_iload hx hb dL_acts_1875 (lv_at hl 12 rfl) ?_
  refine lv_iconst (v := 4) hx hb dL_acts_1877 (by decide) ?_
  refine lv_iadd hx hb dL_acts_1878 ?_
  refine lv_aload hx hb dL_acts_1879 (lv_at hl 5 rfl) ?_
  refine lv_bipush (v := 9) hx hb dL_acts_1881 (by decide) ?_
  refine lv_iload hx hb dL_acts_1883 (lv_at hl 8 rfl) ?_
  refine lv_imul hx hb dL_acts_1885 ?_
  refine lv_bipush (v := 7) hx hb dL_acts_1886 (by decide) ?_
  refine lv_iadd hx hb dL_acts_1888 ?_
  obtain ⟨hi, hF⟩ := rd_use hF
  refine va_iald hx hb hK hP 3 0 (pXL_3 cI cS xx xd xo hh ha z zn q la M93) rfl hi dL_acts_1889 ?_
  refine lv_topi (fun v94 ev94 => ?_)
  have hF := hF v94 ev94
  refine lv_iload hx hb dL_acts_1890 (lv_at hl 0 rfl) ?_
  refine lv_iadd hx hb dL_acts_1892 ?_
  refine lv_aload_n hx hb dL_acts_1893 rfl (lv_at hl 4 rfl) ?_
  refine lv_iload hx hb dL_acts_1894 (lv_at hl 12 rfl) ?_
  refine lv_iconst (v := 1) hx hb dL_acts_1896 (by decide) ?_
  refine lv_iadd hx hb dL_acts_1897 ?_
  obtain ⟨hi, hF⟩ := rd_use hF
  refine va_iald hx hb hK hP 2 0 (pXL_2 cI cS xx xd xo hh ha z zn q la M93) rfl hi dL_acts_1898 ?_
  refine lv_topi (fun v95 ev95 => ?_)
  have hF := hF v95 ev95
  refine lv_iadd hx hb dL_acts_1899 ?_
  refine lv_iload hx hb dL_acts_1900 (lv_at hl 11 rfl) ?_
  refine lv_aload_n hx hb dL_acts_1902 rfl (lv_at hl 3 rfl) ?_
  refine lv_iconst (v := 2) hx hb dL_acts_1903 (by decide) ?_
  obtain ⟨hi, hF⟩ := rd_use hF
  refine va_iald hx hb hK hP 1 0 (pXL_1 cI cS xx xd xo hh ha z zn q la M93) rfl hi dL_acts_1904 ?_
  refine lv_topi (fun v96 ev96 => ?_)
  have hF := hF v96 ev96
  refine lv_imul hx hb dL_acts_1905 ?_
  refine lv_iadd hx hb dL_acts_1906 ?_
  obtain ⟨hi, hF⟩ := wr_use hF
  refine va_iast hx hb hK hP (hDa _) hS 2 0 (pXL_2 cI cS xx xd xo hh ha z zn q la M93) rfl hi dL_acts_1907 (fun H locs hP _ hS => ?_)
  obtain ⟨M98, eM98⟩ : ∃ z : XLm, z = (M93.1, (M93.2.1, M93.2.2.1, (upd (M93.2.2.2.1) (x16 + 4 : Int32).toNatClampNeg (((v94 + s0) + v95) + (x15 * v96))), M93.2.2.2.2)) := ⟨_, rfl⟩
  have hF := nm_use hF eM98
  have hP : va_P D vwCl (wXL cI cS xx xd xo hh ha z zn q la M98) H := by rw [eM98]; exact hP
  refine lv_aload_n hx hb dL_acts_1908 rfl (lv_at hl 4 rfl) ?_
  refine lv_iload hx hb dL_acts_1909 (lv_at hl 12 rfl) ?_
  refine lv_iconst (v := 5) hx hb dL_acts_1911 (by decide) ?_
  refine lv_iadd hx hb dL_acts_1912 ?_
  refine lv_topi (fun v99 ev99 => ?_)
  have hF := nm_use hF ev99
  refine lv_dup2_11 hx hb dL_acts_1913 rfl rfl ?_
  obtain ⟨hi, hF⟩ := rd_use hF
  refine va_iald hx hb hK hP 2 0 (pXL_2 cI cS xx xd xo hh ha z zn q la M98) rfl hi dL_acts_1914 ?_
  refine lv_topi (fun v100 ev100 => ?_)
  have hF := hF v100 ev100
  refine lv_iconst (v := 1) hx hb dL_acts_1915 (by decide) ?_
  refine lv_iadd hx hb dL_acts_1916 ?_
  obtain ⟨hi, hF⟩ := wr_use hF
  refine va_iast hx hb hK hP (hDa _) hS 2 0 (pXL_2 cI cS xx xd xo hh ha z zn q la M98) rfl hi dL_acts_1917 (fun H locs hP _ hS => ?_)
  obtain ⟨M102, eM102⟩ : ∃ z : XLm, z = (M98.1, (M98.2.1, M98.2.2.1, (upd (M98.2.2.2.1) (v99 : Int32).toNatClampNeg (v100 + 1)), M98.2.2.2.2)) := ⟨_, rfl⟩
  have hF := nm_use hF eM102
  have hP : va_P D vwCl (wXL cI cS xx xd xo hh ha z zn q la M102) H := by rw [eM102]; exact hP
  refine lv_aload_n hx hb dL_acts_1918 rfl (lv_at hl 4 rfl) ?_
  refine lv_iload hx hb dL_acts_1919 (lv_at hl 12 rfl) ?_
  refine lv_bipush (v := 6) hx hb dL_acts_1921 (by decide) ?_
  refine lv_iadd hx hb dL_acts_1923 ?_
  refine lv_topi (fun v103 ev103 => ?_)
  have hF := nm_use hF ev103
  refine lv_dup2_11 hx hb dL_acts_1924 rfl rfl ?_
  obtain ⟨hi, hF⟩ := rd_use hF
  refine va_iald hx hb hK hP 2 0 (pXL_2 cI cS xx xd xo hh ha z zn q la M102) rfl hi dL_acts_1925 ?_
  refine lv_topi (fun v104 ev104 => ?_)
  have hF := hF v104 ev104
  refine lv_iload hx hb dL_acts_1926 (lv_at hl 15 rfl) ?_
  refine lv_if_eq (tgt := 1935) hx hb dL_acts_1928 (by decide) (fun c105 => ?_) (fun c105 => ?_)
  · have hF := it_t hF c105
    refine lv_iconst (v := 0) hx hb dL_acts_1935 (by decide) ?_
    exact tL_acts_j1936 l D cS g cI xx xd xo hh ha z zn q la r M' C hDa M102 x11 x13 x14 x15 x16 x17 x18 s0 v103 v104 0 _ _ _ hF hP hS (lv_sub hl [1, 2, 3, 4, 5, 6, 7, 8, 9, 10, 11, 12, 13, 14, 0] rfl)
  · have hF := it_f hF c105
    refine lv_iconst (v := 1) hx hb dL_acts_1931 (by decide) ?_
    refine lv_goto (tgt := 1936) hx hb dL_acts_1932 (by decide) ?_
    exact tL_acts_j1936 l D cS g cI xx xd xo hh ha z zn q la r M' C hDa M102 x11 x13 x14 x15 x16 x17 x18 s0 v103 v104 1 _ _ _ hF hP hS (lv_sub hl [1, 2, 3, 4, 5, 6, 7, 8, 9, 10, 11, 12, 13, 14, 0] rfl)
set_option maxHeartbeats 4000000 in
set_option maxRecDepth 100000 in
theorem tL_acts_j1792 (l : Launch) (D : va_G) (cS : ClassId) (g : Nat → Nat) (cI : ClassId) (xx xd xo hh ha : Nat) (z : Nat → Nat → Nat) (zn q : Nat → Nat) (la : Nat → Nat) (r : Int32) (M' : XLm) {p : Program} {e : Env} {s : State} {m : MethodId} {args : Array Value} {below : List Frame} {meth : Method} {c : Code} {A : Nat → Prop} (C : CX p s m args meth c A D cI cS g cL_acts 21 (some .boolean) RL) (hDa : ∀ N, va_D A (wXL cI cS xx xd xo hh ha z zn q la N)) : ∀ (N : XLm) (x11 : Int32) (x13 : Int32) (x14 : Int32) (x15 : Int32) (x16 : Int32) (x17 : Int32) (x18 : Int32) (s0 : Int32) (H : Heap) (locs : List Loc) (ls : Array Slot), fL_acts_j1792 N x11 x13 x14 x15 x16 x17 x18 s0 = some (r, M') → va_P D vwCl (wXL cI cS xx xd xo hh ha z zn q la N) H → va_S A s.heap H locs → lv_has ls 21 [(0, .ref xx), (1, .ref (la 0)), (2, .ref (la 1)), (3, .ref (la 2)), (4, .ref (la 3)), (5, .ref (la 4)), (6, .ref (la 5)), (11, .int x11), (13, .int x13), (14, .int x14), (15, .int x15), (16, .int x16), (17, .int x17), (18, .int x18)] → W p l e rmL_acts s m args below meth c H locs 0 0 (MQ below (qI D r (wXL cI cS xx xd xo hh ha z zn q la (M')) A) args s 0 0 A) (F0 m 1792 ls [.int s0]) := by
  obtain ⟨hx, hb, hr, hml, hlocks, hown, htb, hA, hK, hG⟩ := id C
  intro N x11 x13 x14 x15 x16 x17 x18 s0 H locs ls hF hP hS hl
  refine lv_istore (lv' := [(19, .int s0), (0, .ref xx), (1, .ref (la 0)), (2, .ref (la 1)), (3, .ref (la 2)), (4, .ref (la 3)), (5, .ref (la 4)), (6, .ref (la 5)), (11, .int x11), (13, .int x13), (14, .int x14), (15, .int x15), (16, .int x16), (17, .int x17), (18, .int x18)]) hx hb dL_acts_1792 hl (by decide) rfl (fun ls hl => ?_)
  refine lv_iload hx hb dL_acts_1794 (lv_at hl 9 rfl) ?_
  refine lv_if_ne (tgt := 1806) hx hb dL_acts_1796 (by decide) (fun c83 => ?_) (fun c83 => ?_)
  · have hF := it_f hF c83
    refine lv_iload hx hb dL_acts_1806 (lv_at hl 0 rfl) ?_
    refine lv_if_eq (tgt := 1816) hx hb dL_acts_1808 (by decide) (fun c84 => ?_) (fun c84 => ?_)
    · have hF := it_t hF c84
      refine lv_aload_n hx hb dL_acts_1816 rfl (lv_at hl 4 rfl) ?_
      refine lv_iload hx hb dL_acts_1817 (lv_at hl 12 rfl) ?_
      obtain ⟨hi, hF⟩ := rd_use hF
      refine va_iald hx hb hK hP 2 0 (pXL_2 cI cS xx xd xo hh ha z zn q la N) rfl hi dL_acts_1819 ?_
      refine lv_topi (fun v85 ev85 => ?_)
      have hF := hF v85 ev85
      refine lv_aload_n hx hb dL_acts_1820 rfl (lv_at hl 3 rfl) ?_
      refine lv_iconst (v := 1) hx hb dL_acts_1821 (by decide) ?_
      obtain ⟨hi, hF⟩ := rd_use hF
      refine va_iald hx hb hK hP 1 0 (pXL_1 cI cS xx xd xo hh ha z zn q la N) rfl hi dL_acts_1822 ?_
      refine lv_topi (fun v86 ev86 => ?_)
      have hF := hF v86 ev86
      refine lv_iadd hx hb dL_acts_1823 ?_
      exact tL_acts_j1824 l D cS g cI xx xd xo hh ha z zn q la r M' C hDa N x11 x13 x14 x15 x16 x17 x18 s0 (v85 + v86) _ _ _ hF hP hS (lv_sub hl [1, 2, 3, 4, 5, 6, 7, 8, 9, 10, 11, 12, 13, 14, 0] rfl)
    · have hF := it_f hF c84
      refine lv_iload hx hb dL_acts_1811 (lv_at hl 14 rfl) ?_
      refine lv_goto (tgt := 1824) hx hb dL_acts_1813 (by decide) ?_
      exact tL_acts_j1824 l D cS g cI xx xd xo hh ha z zn q la r M' C hDa N x11 x13 x14 x15 x16 x17 x18 s0 x18 _ _ _ hF hP hS (lv_sub hl [1, 2, 3, 4, 5, 6, 7, 8, 9, 10, 11, 12, 13, 14, 0] rfl)
  · have hF := it_t hF c83
    refine lv_aload_n hx hb dL_acts_1799 rfl (lv_at hl 4 rfl) ?_
    refine lv_iload hx hb dL_acts_1800 (lv_at hl 12 rfl) ?_
    obtain ⟨hi, hF⟩ := rd_use hF
    refine va_iald hx hb hK hP 2 0 (pXL_2 cI cS xx xd xo hh ha z zn q la N) rfl hi dL_acts_1802 ?_
    refine lv_topi (fun v136 ev136 => ?_)
    have hF := hF v136 ev136
    refine lv_goto (tgt := 1824) hx hb dL_acts_1803 (by decide) ?_
    exact tL_acts_j1824 l D cS g cI xx xd xo hh ha z zn q la r M' C hDa N x11 x13 x14 x15 x16 x17 x18 s0 v136 _ _ _ hF hP hS (lv_sub hl [1, 2, 3, 4, 5, 6, 7, 8, 9, 10, 11, 12, 13, 14, 0] rfl)
set_option maxHeartbeats 4000000 in
set_option maxRecDepth 100000 in
theorem tL_acts_j1791 (l : Launch) (D : va_G) (cS : ClassId) (g : Nat → Nat) (cI : ClassId) (xx xd xo hh ha : Nat) (z : Nat → Nat → Nat) (zn q : Nat → Nat) (la : Nat → Nat) (r : Int32) (M' : XLm) {p : Program} {e : Env} {s : State} {m : MethodId} {args : Array Value} {below : List Frame} {meth : Method} {c : Code} {A : Nat → Prop} (C : CX p s m args meth c A D cI cS g cL_acts 21 (some .boolean) RL) (hDa : ∀ N, va_D A (wXL cI cS xx xd xo hh ha z zn q la N)) : ∀ (N : XLm) (x11 : Int32) (x13 : Int32) (x14 : Int32) (x15 : Int32) (x16 : Int32) (x17 : Int32) (x18 : Int32) (H : Heap) (locs : List Loc) (ls : Array Slot), fL_acts_j1791 N x11 x13 x14 x15 x16 x17 x18 = some (r, M') → va_P D vwCl (wXL cI cS xx xd xo hh ha z zn q la N) H → va_S A s.heap H locs → lv_has ls 21 [(0, .ref xx), (1, .ref (la 0)), (2, .ref (la 1)), (3, .ref (la 2)), (4, .ref (la 3)), (5, .ref (la 4)), (6, .ref (la 5)), (11, .int x11), (13, .int x13), (14, .int x14), (15, .int x15), (16, .int x16), (17, .int x17), (18, .int x18)] → W p l e rmL_acts s m args below meth c H locs 0 0 (MQ below (qI D r (wXL cI cS xx xd xo hh ha z zn q la (M')) A) args s 0 0 A) (F0 m 1791 ls []) := by
  obtain ⟨hx, hb, hr, hml, hlocks, hown, htb, hA, hK, hG⟩ := id C
  intro N x11 x13 x14 x15 x16 x17 x18 H locs ls hF hP hS hl
  refine lv_iconst (v := 0) hx hb dL_acts_1791 (by decide) ?_
  exact tL_acts_j1792 l D cS g cI xx xd xo hh ha z zn q la r M' C hDa N x11 x13 x14 x15 x16 x17 x18 0 _ _ _ hF hP hS (lv_sub hl [0, 1, 2, 3, 4, 5, 6, 7, 8, 9, 10, 11, 12, 13] rfl)
set_option maxHeartbeats 4000000 in
set_option maxRecDepth 100000 in
theorem tL_acts_j1739 (l : Launch) (D : va_G) (cS : ClassId) (g : Nat → Nat) (cI : ClassId) (xx xd xo hh ha : Nat) (z : Nat → Nat → Nat) (zn q : Nat → Nat) (la : Nat → Nat) (r : Int32) (M' : XLm) {p : Program} {e : Env} {s : State} {m : MethodId} {args : Array Value} {below : List Frame} {meth : Method} {c : Code} {A : Nat → Prop} (C : CX p s m args meth c A D cI cS g cL_acts 21 (some .boolean) RL) (hDa : ∀ N, va_D A (wXL cI cS xx xd xo hh ha z zn q la N)) : ∀ (N : XLm) (x10 : Int32) (x11 : Int32) (x13 : Int32) (x14 : Int32) (x15 : Int32) (H : Heap) (locs : List Loc) (ls : Array Slot), fL_acts_j1739 N x10 x11 x13 x14 x15 = some (r, M') → va_P D vwCl (wXL cI cS xx xd xo hh ha z zn q la N) H → va_S A s.heap H locs → lv_has ls 21 [(0, .ref xx), (1, .ref (la 0)), (2, .ref (la 1)), (3, .ref (la 2)), (4, .ref (la 3)), (5, .ref (la 4)), (6, .ref (la 5)), (10, .int x10), (11, .int x11), (13, .int x13), (14, .int x14), (15, .int x15)] → W p l e rmL_acts s m args below meth c H locs 0 0 (MQ below (qI D r (wXL cI cS xx xd xo hh ha z zn q la (M')) A) args s 0 0 A) (F0 m 1739 ls []) := by
  obtain ⟨hx, hb, hr, hml, hlocks, hown, htb, hA, hK, hG⟩ := id C
  intro N x10 x11 x13 x14 x15 H locs ls hF hP hS hl
  refine lv_bipush (v := 11) hx hb dL_acts_1739 (by decide) ?_
  refine lv_iload hx hb dL_acts_1741 (lv_at hl 7 rfl) ?_
  refine lv_imul hx hb dL_acts_1743 ?_
  refine lv_topi (fun v78 ev78 => ?_)
  have hF := nm_use hF ev78
  refine lv_istore (lv' := [(16, .int v78), (0, .ref xx), (1, .ref (la 0)), (2, .ref (la 1)), (3, .ref (la 2)), (4, .ref (la 3)), (5, .ref (la 4)), (6, .ref (la 5)), (10, .int x10), (11, .int x11), (13, .int x13), (14, .int x14), (15, .int x15)]) hx hb dL_acts_1744 hl (by decide) rfl (fun ls hl => ?_)
  refine lv_aload_n hx hb dL_acts_1746 rfl (lv_at hl 2 rfl) ?_
  refine lv_aload_n hx hb dL_acts_1747 rfl (lv_at hl 4 rfl) ?_
  refine lv_aload hx hb dL_acts_1748 (lv_at hl 5 rfl) ?_
  refine lv_iload hx hb dL_acts_1750 (lv_at hl 9 rfl) ?_
  refine lv_iconst (v := 0) hx hb dL_acts_1752 (by decide) ?_
  obtain ⟨r79, hr79, hF⟩ := bd_use hF
  refine cl_SI ⟨hx, hb, hml, hown, htb⟩ (kL_late l D cS g cI la (N.2) x11 0 _ hr79) (va_cwS 5 htb (gL_late bw3_13) rfl rfl rfl hdL_late ⟨Nat.le_of_ble_eq_true rfl, Nat.le_of_ble_eq_true rfl⟩) hK (hDa _) hG hA hP hS (sr_XL_LA cI cS xx xd xo hh ha z zn q la N) hl.1 rfl rfl (Nat.le_of_ble_eq_true rfl) dL_acts_1753 (fun H locs hP hS => ?_)
  refine lv_istore (lv' := [(17, .int r79), (16, .int v78), (0, .ref xx), (1, .ref (la 0)), (2, .ref (la 1)), (3, .ref (la 2)), (4, .ref (la 3)), (5, .ref (la 4)), (6, .ref (la 5)), (10, .int x10), (11, .int x11), (13, .int x13), (14, .int x14), (15, .int x15)]) hx hb dL_acts_1756 hl (by decide) rfl (fun ls hl => ?_)
  refine lv_iload hx hb dL_acts_1758 (lv_at hl 11 rfl) ?_
  refine lv_iload hx hb dL_acts_1760 (lv_at hl 12 rfl) ?_
  refine lv_aload_n hx hb dL_acts_1762 rfl (lv_at hl 4 rfl) ?_
  refine lv_iconst (v := 0) hx hb dL_acts_1763 (by decide) ?_
  obtain ⟨hi, hF⟩ := rd_use hF
  refine va_iald hx hb hK hP 1 0 (pXL_1 cI cS xx xd xo hh ha z zn q la N) rfl hi dL_acts_1764 ?_
  refine lv_topi (fun v80 ev80 => ?_)
  have hF := hF v80 ev80
  refine lv_imul hx hb dL_acts_1765 ?_
  refine lv_iadd hx hb dL_acts_1766 ?_
  refine lv_topi (fun v81 ev81 => ?_)
  have hF := nm_use hF ev81
  refine lv_istore (lv' := [(18, .int v81), (17, .int r79), (16, .int v78), (0, .ref xx), (1, .ref (la 0)), (2, .ref (la 1)), (3, .ref (la 2)), (4, .ref (la 3)), (5, .ref (la 4)), (6, .ref (la 5)), (10, .int x10), (11, .int x11), (13, .int x13), (14, .int x14), (15, .int x15)]) hx hb dL_acts_1767 hl (by decide) rfl (fun ls hl => ?_)
  refine lv_iload hx hb dL_acts_1769 (lv_at hl 12 rfl) ?_
  refine lv_if_le (tgt := 1791) hx hb dL_acts_1771 (by decide) (fun c82 => ?_) (fun c82 => ?_)
  · have hF := it_t hF c82
    exact tL_acts_j1791 l D cS g cI xx xd xo hh ha z zn q la r M' C hDa N x11 x13 x14 x15 v78 r79 v81 _ _ _ hF hP hS (lv_sub hl [3, 4, 5, 6, 7, 8, 9, 11, 12, 13, 14, 2, 1, 0] rfl)
  · have hF := it_f hF c82
    refine lv_iload hx hb dL_acts_1774 (lv_at hl 0 rfl) ?_
    refine lv_aload_n hx hb dL_acts_1776 rfl (lv_at hl 6 rfl) ?_
    refine lv_iload hx hb dL_acts_1777 (lv_at hl 2 rfl) ?_
    obtain ⟨hi, hF⟩ := rd_use hF
    refine va_iald hx hb hK hP 2 0 (pXL_2 cI cS xx xd xo hh ha z zn q la N) rfl hi dL_acts_1779 ?_
    refine lv_topi (fun v137 ev137 => ?_)
    have hF := hF v137 ev137
    refine lv_aload_n hx hb dL_acts_1780 rfl (lv_at hl 5 rfl) ?_
    refine lv_iconst (v := 1) hx hb dL_acts_1781 (by decide) ?_
    obtain ⟨hi, hF⟩ := rd_use hF
    refine va_iald hx hb hK hP 1 0 (pXL_1 cI cS xx xd xo hh ha z zn q la N) rfl hi dL_acts_1782 ?_
    refine lv_topi (fun v138 ev138 => ?_)
    have hF := hF v138 ev138
    refine lv_iadd hx hb dL_acts_1783 ?_
    refine lv_icmp_gt (tgt := 1791) hx hb dL_acts_1784 (by decide) (fun c139 => ?_) (fun c139 => ?_)
    · have hF := it_t hF c139
      exact tL_acts_j1791 l D cS g cI xx xd xo hh ha z zn q la r M' C hDa N x11 x13 x14 x15 v78 r79 v81 _ _ _ hF hP hS (lv_sub hl [3, 4, 5, 6, 7, 8, 9, 11, 12, 13, 14, 2, 1, 0] rfl)
    · have hF := it_f hF c139
      refine lv_iconst (v := 1) hx hb dL_acts_1787 (by decide) ?_
      refine lv_goto (tgt := 1792) hx hb dL_acts_1788 (by decide) ?_
      exact tL_acts_j1792 l D cS g cI xx xd xo hh ha z zn q la r M' C hDa N x11 x13 x14 x15 v78 r79 v81 1 _ _ _ hF hP hS (lv_sub hl [3, 4, 5, 6, 7, 8, 9, 11, 12, 13, 14, 2, 1, 0] rfl)
set_option maxHeartbeats 4000000 in
set_option maxRecDepth 100000 in
theorem tL_acts_j1700 (l : Launch) (D : va_G) (cS : ClassId) (g : Nat → Nat) (cI : ClassId) (xx xd xo hh ha : Nat) (z : Nat → Nat → Nat) (zn q : Nat → Nat) (la : Nat → Nat) (r : Int32) (M' : XLm) {p : Program} {e : Env} {s : State} {m : MethodId} {args : Array Value} {below : List Frame} {meth : Method} {c : Code} {A : Nat → Prop} (C : CX p s m args meth c A D cI cS g cL_acts 21 (some .boolean) RL) (hDa : ∀ N, va_D A (wXL cI cS xx xd xo hh ha z zn q la N)) : ∀ (N : XLm) (x10 : Int32) (x13 : Int32) (x14 : Int32) (x15 : Int32) (s0 : Int32) (H : Heap) (locs : List Loc) (ls : Array Slot), fL_acts_j1700 N x10 x13 x14 x15 s0 = some (r, M') → va_P D vwCl (wXL cI cS xx xd xo hh ha z zn q la N) H → va_S A s.heap H locs → lv_has ls 21 [(0, .ref xx), (1, .ref (la 0)), (2, .ref (la 1)), (3, .ref (la 2)), (4, .ref (la 3)), (5, .ref (la 4)), (6, .ref (la 5)), (10, .int x10), (13, .int x13), (14, .int x14), (15, .int x15)] → W p l e rmL_acts s m args below meth c H locs 0 0 (MQ below (qI D r (wXL cI cS xx xd xo hh ha z zn q la (M')) A) args s 0 0 A) (F0 m 1700 ls [.int s0]) := by
  obtain ⟨hx, hb, hr, hml, hlocks, hown, htb, hA, hK, hG⟩ := id C
  intro N x10 x13 x14 x15 s0 H locs ls hF hP hS hl
  refine lv_istore (lv' := [(11, .int s0), (0, .ref xx), (1, .ref (la 0)), (2, .ref (la 1)), (3, .ref (la 2)), (4, .ref (la 3)), (5, .ref (la 4)), (6, .ref (la 5)), (10, .int x10), (13, .int x13), (14, .int x14), (15, .int x15)]) hx hb dL_acts_1700 hl (by decide) rfl (fun ls hl => ?_)
  refine lv_aload_n hx hb dL_acts_1702 rfl (lv_at hl 2 rfl) ?_
  refine lv_aload hx hb dL_acts_1703 (lv_at hl 5 rfl) ?_
  refine lv_iload hx hb dL_acts_1705 (lv_at hl 8 rfl) ?_
  refine lv_iconst (v := 0) hx hb dL_acts_1707 (by decide) ?_
  obtain ⟨r76, hr76, hF⟩ := bd_use hF
  refine cl_SI ⟨hx, hb, hml, hown, htb⟩ (kL_next l D cS g cI la (N.2) x10 0 _ hr76) (va_cwS 4 htb (gL_next bw3_16) rfl rfl rfl hdL_next ⟨Nat.le_of_ble_eq_true rfl, Nat.le_of_ble_eq_true rfl⟩) hK (hDa _) hG hA hP hS (sr_XL_LA cI cS xx xd xo hh ha z zn q la N) hl.1 rfl rfl (Nat.le_of_ble_eq_true rfl) dL_acts_1708 (fun H locs hP hS => ?_)
  refine lv_iload hx hb dL_acts_1711 (lv_at hl 0 rfl) ?_
  refine lv_icmp_eq (tgt := 1739) hx hb dL_acts_1713 (by decide) (fun c77 => ?_) (fun c77 => ?_)
  · have hF := it_t hF c77
    exact tL_acts_j1739 l D cS g cI xx xd xo hh ha z zn q la r M' C hDa N x10 s0 x13 x14 x15 _ _ _ hF hP hS (lv_sub hl [1, 2, 3, 4, 5, 6, 7, 8, 0, 9, 10, 11] rfl)
  · have hF := it_f hF c77
    refine lv_aload_n hx hb dL_acts_1716 rfl (lv_at hl 1 rfl) ?_
    refine lv_iload hx hb dL_acts_1717 (lv_at hl 0 rfl) ?_
    refine lv_iload hx hb dL_acts_1719 (lv_at hl 9 rfl) ?_
    refine lv_iload hx hb dL_acts_1721 (lv_at hl 10 rfl) ?_
    refine lv_iload hx hb dL_acts_1723 (lv_at hl 11 rfl) ?_
    obtain ⟨r141, M140, hM140, hF⟩ := b2_use hF
    refine cl_VI ⟨hx, hb, hml, hown, htb⟩ (kX8_play l D cS g cI xx xd xo hh ha z zn q (N.1) s0 x13 x14 x15 _ _ hM140) (cwV 4 htb (gX8_play bw2_230) rfl rfl rfl hdX8_play ⟨Nat.le_of_ble_eq_true rfl, Nat.le_of_ble_eq_true rfl⟩) hK (hDa _) hG hA hP hS (sg_XL_XX cI cS xx xd xo hh ha z zn q la N M140) hl.1 rfl 0 (pXX_0 _ _ _ _ _ _ _ _ _ _ _) rfl rfl (Nat.le_of_ble_eq_true rfl) dL_acts_1725 (fun H locs hP hS => ?_)
    obtain ⟨M142, eM142⟩ : ∃ z : XLm, z = (M140, N.2) := ⟨_, rfl⟩
    have hF := nm_use hF eM142
    have hP : va_P D vwCl (wXL cI cS xx xd xo hh ha z zn q la M142) H := by rw [eM142]; exact hP
    refine lv_bipush (v := (-2)) hx hb dL_acts_1728 (by decide) ?_
    refine lv_icmp_ne (tgt := 1737) hx hb dL_acts_1730 (by decide) (fun c143 => ?_) (fun c143 => ?_)
    · have hF := it_f hF c143
      refine lv_iconst (v := 0) hx hb dL_acts_1737 (by decide) ?_
      obtain ⟨hz, hF⟩ := zb_use hF
      obtain ⟨er, eM⟩ := pr_use hF
      exact rt_Z hx hb hr hlocks hS (by rw [← eM]; exact hP) hz er dL_acts_1738
    · have hF := it_t hF c143
      refine lv_iconst (v := 1) hx hb dL_acts_1733 (by decide) ?_
      refine lv_goto (tgt := 1738) hx hb dL_acts_1734 (by decide) ?_
      obtain ⟨hz, hF⟩ := zb_use hF
      obtain ⟨er, eM⟩ := pr_use hF
      exact rt_Z hx hb hr hlocks hS (by rw [← eM]; exact hP) hz er dL_acts_1738
set_option maxHeartbeats 4000000 in
set_option maxRecDepth 100000 in
theorem tL_acts_j1698 (l : Launch) (D : va_G) (cS : ClassId) (g : Nat → Nat) (cI : ClassId) (xx xd xo hh ha : Nat) (z : Nat → Nat → Nat) (zn q : Nat → Nat) (la : Nat → Nat) (r : Int32) (M' : XLm) {p : Program} {e : Env} {s : State} {m : MethodId} {args : Array Value} {below : List Frame} {meth : Method} {c : Code} {A : Nat → Prop} (C : CX p s m args meth c A D cI cS g cL_acts 21 (some .boolean) RL) (hDa : ∀ N, va_D A (wXL cI cS xx xd xo hh ha z zn q la N)) : ∀ (N : XLm) (x10 : Int32) (x11 : Int32) (x13 : Int32) (x14 : Int32) (x15 : Int32) (H : Heap) (locs : List Loc) (ls : Array Slot), fL_acts_j1698 N x10 x11 x13 x14 x15 = some (r, M') → va_P D vwCl (wXL cI cS xx xd xo hh ha z zn q la N) H → va_S A s.heap H locs → lv_has ls 21 [(0, .ref xx), (1, .ref (la 0)), (2, .ref (la 1)), (3, .ref (la 2)), (4, .ref (la 3)), (5, .ref (la 4)), (6, .ref (la 5)), (10, .int x10), (11, .int x11), (13, .int x13), (14, .int x14), (15, .int x15)] → W p l e rmL_acts s m args below meth c H locs 0 0 (MQ below (qI D r (wXL cI cS xx xd xo hh ha z zn q la (M')) A) args s 0 0 A) (F0 m 1698 ls []) := by
  obtain ⟨hx, hb, hr, hml, hlocks, hown, htb, hA, hK, hG⟩ := id C
  intro N x10 x11 x13 x14 x15 H locs ls hF hP hS hl
  refine lv_iload hx hb dL_acts_1698 (lv_at hl 8 rfl) ?_
  exact tL_acts_j1700 l D cS g cI xx xd xo hh ha z zn q la r M' C hDa N x10 x13 x14 x15 x11 _ _ _ hF hP hS (lv_sub hl [0, 1, 2, 3, 4, 5, 6, 7, 9, 10, 11] rfl)
set_option maxHeartbeats 4000000 in
set_option maxRecDepth 100000 in
theorem tL_acts_j1643 (l : Launch) (D : va_G) (cS : ClassId) (g : Nat → Nat) (cI : ClassId) (xx xd xo hh ha : Nat) (z : Nat → Nat → Nat) (zn q : Nat → Nat) (la : Nat → Nat) (r : Int32) (M' : XLm) {p : Program} {e : Env} {s : State} {m : MethodId} {args : Array Value} {below : List Frame} {meth : Method} {c : Code} {A : Nat → Prop} (C : CX p s m args meth c A D cI cS g cL_acts 21 (some .boolean) RL) (hDa : ∀ N, va_D A (wXL cI cS xx xd xo hh ha z zn q la N)) : ∀ (N : XLm) (x8 : Int32) (x9 : Int32) (x10 : Int32) (x11 : Int32) (s0 : Int32) (s1 : Int32) (H : Heap) (locs : List Loc) (ls : Array Slot), fL_acts_j1643 N x8 x9 x10 x11 s0 s1 = some (r, M') → va_P D vwCl (wXL cI cS xx xd xo hh ha z zn q la N) H → va_S A s.heap H locs → lv_has ls 21 [(0, .ref xx), (1, .ref (la 0)), (2, .ref (la 1)), (3, .ref (la 2)), (4, .ref (la 3)), (5, .ref (la 4)), (6, .ref (la 5)), (8, .int x8), (9, .int x9), (10, .int x10), (11, .int x11)] → W p l e rmL_acts s m args below meth c H locs 0 0 (MQ below (qI D r (wXL cI cS xx xd xo hh ha z zn q la (M')) A) args s 0 0 A) (F0 m 1643 ls [.int s1, .int s0]) := by
  obtain ⟨hx, hb, hr, hml, hlocks, hown, htb, hA, hK, hG⟩ := id C
  intro N x8 x9 x10 x11 s0 s1 H locs ls hF hP hS hl
  obtain ⟨hd, hF⟩ := mo_use hF
  refine lv_irem hx hb dL_acts_1643 hd ?_
  refine lv_topi (fun v70 ev70 => ?_)
  have hF := hF v70 ev70
  refine lv_istore (lv' := [(13, .int v70), (0, .ref xx), (1, .ref (la 0)), (2, .ref (la 1)), (3, .ref (la 2)), (4, .ref (la 3)), (5, .ref (la 4)), (6, .ref (la 5)), (8, .int x8), (9, .int x9), (10, .int x10), (11, .int x11)]) hx hb dL_acts_1644 hl (by decide) rfl (fun ls hl => ?_)
  refine lv_iload hx hb dL_acts_1646 (lv_at hl 8 rfl) ?_
  refine lv_bipush (v := 7) hx hb dL_acts_1648 (by decide) ?_
  obtain ⟨hd, hF⟩ := dv_use hF
  refine lv_idiv hx hb dL_acts_1650 hd ?_
  refine lv_topi (fun v71 ev71 => ?_)
  have hF := hF v71 ev71
  refine lv_bipush (v := 21) hx hb dL_acts_1651 (by decide) ?_
  obtain ⟨hd, hF⟩ := mo_use hF
  refine lv_irem hx hb dL_acts_1653 hd ?_
  refine lv_topi (fun v72 ev72 => ?_)
  have hF := hF v72 ev72
  refine lv_istore (lv' := [(14, .int v72), (13, .int v70), (0, .ref xx), (1, .ref (la 0)), (2, .ref (la 1)), (3, .ref (la 2)), (4, .ref (la 3)), (5, .ref (la 4)), (6, .ref (la 5)), (8, .int x8), (9, .int x9), (10, .int x10), (11, .int x11)]) hx hb dL_acts_1654 hl (by decide) rfl (fun ls hl => ?_)
  refine lv_iload hx hb dL_acts_1656 (lv_at hl 9 rfl) ?_
  refine lv_sipush (v := 147) hx hb dL_acts_1658 (by decide) ?_
  obtain ⟨hd, hF⟩ := dv_use hF
  refine lv_idiv hx hb dL_acts_1661 hd ?_
  refine lv_topi (fun v73 ev73 => ?_)
  have hF := hF v73 ev73
  refine lv_bipush (v := 10) hx hb dL_acts_1662 (by decide) ?_
  obtain ⟨hd, hF⟩ := mo_use hF
  refine lv_irem hx hb dL_acts_1664 hd ?_
  refine lv_topi (fun v74 ev74 => ?_)
  have hF := hF v74 ev74
  refine lv_istore (lv' := [(15, .int v74), (14, .int v72), (13, .int v70), (0, .ref xx), (1, .ref (la 0)), (2, .ref (la 1)), (3, .ref (la 2)), (4, .ref (la 3)), (5, .ref (la 4)), (6, .ref (la 5)), (8, .int x8), (9, .int x9), (10, .int x10), (11, .int x11)]) hx hb dL_acts_1665 hl (by decide) rfl (fun ls hl => ?_)
  refine lv_iload hx hb dL_acts_1667 (lv_at hl 11 rfl) ?_
  refine lv_bipush (v := 24) hx hb dL_acts_1669 (by decide) ?_
  refine lv_icmp_ge (tgt := 1698) hx hb dL_acts_1671 (by decide) (fun c75 => ?_) (fun c75 => ?_)
  · have hF := it_t hF c75
    exact tL_acts_j1698 l D cS g cI xx xd xo hh ha z zn q la r M' C hDa N x10 x11 v70 v72 v74 _ _ _ hF hP hS (lv_sub hl [3, 4, 5, 6, 7, 8, 9, 12, 13, 2, 1, 0] rfl)
  · have hF := it_f hF c75
    refine lv_aload_n hx hb dL_acts_1674 rfl (lv_at hl 4 rfl) ?_
    refine lv_aload hx hb dL_acts_1675 (lv_at hl 7 rfl) ?_
    refine lv_iload hx hb dL_acts_1677 (lv_at hl 12 rfl) ?_
    refine lv_iconst (v := 0) hx hb dL_acts_1679 (by decide) ?_
    obtain ⟨r144, hr144, hF⟩ := bd_use hF
    refine cl_SI ⟨hx, hb, hml, hown, htb⟩ (kL_next l D cS g cI la (N.2) x10 0 _ hr144) (va_cwS 4 htb (gL_next bw3_16) rfl rfl rfl hdL_next ⟨Nat.le_of_ble_eq_true rfl, Nat.le_of_ble_eq_true rfl⟩) hK (hDa _) hG hA hP hS (sr_XL_LA cI cS xx xd xo hh ha z zn q la N) hl.1 rfl rfl (Nat.le_of_ble_eq_true rfl) dL_acts_1680 (fun H locs hP hS => ?_)
    refine lv_if_lt (tgt := 1698) hx hb dL_acts_1683 (by decide) (fun c145 => ?_) (fun c145 => ?_)
    · have hF := it_t hF c145
      exact tL_acts_j1698 l D cS g cI xx xd xo hh ha z zn q la r M' C hDa N x10 x11 v70 v72 v74 _ _ _ hF hP hS (lv_sub hl [3, 4, 5, 6, 7, 8, 9, 12, 13, 2, 1, 0] rfl)
    · have hF := it_f hF c145
      refine lv_aload_n hx hb dL_acts_1686 rfl (lv_at hl 4 rfl) ?_
      refine lv_aload hx hb dL_acts_1687 (lv_at hl 7 rfl) ?_
      refine lv_iload hx hb dL_acts_1689 (lv_at hl 12 rfl) ?_
      refine lv_iconst (v := 0) hx hb dL_acts_1691 (by decide) ?_
      obtain ⟨r146, hr146, hF⟩ := bd_use hF
      refine cl_SI ⟨hx, hb, hml, hown, htb⟩ (kL_next l D cS g cI la (N.2) x10 0 _ hr146) (va_cwS 4 htb (gL_next bw3_16) rfl rfl rfl hdL_next ⟨Nat.le_of_ble_eq_true rfl, Nat.le_of_ble_eq_true rfl⟩) hK (hDa _) hG hA hP hS (sr_XL_LA cI cS xx xd xo hh ha z zn q la N) hl.1 rfl rfl (Nat.le_of_ble_eq_true rfl) dL_acts_1692 (fun H locs hP hS => ?_)
      refine lv_goto (tgt := 1700) hx hb dL_acts_1695 (by decide) ?_
      exact tL_acts_j1700 l D cS g cI xx xd xo hh ha z zn q la r M' C hDa N x10 v70 v72 v74 r146 _ _ _ hF hP hS (lv_sub hl [3, 4, 5, 6, 7, 8, 9, 12, 2, 1, 0] rfl)
set_option maxHeartbeats 4000000 in
set_option maxRecDepth 100000 in
theorem tL_acts_j1617 (l : Launch) (D : va_G) (cS : ClassId) (g : Nat → Nat) (cI : ClassId) (xx xd xo hh ha : Nat) (z : Nat → Nat → Nat) (zn q : Nat → Nat) (la : Nat → Nat) (r : Int32) (M' : XLm) {p : Program} {e : Env} {s : State} {m : MethodId} {args : Array Value} {below : List Frame} {meth : Method} {c : Code} {A : Nat → Prop} (C : CX p s m args meth c A D cI cS g cL_acts 21 (some .boolean) RL) (hDa : ∀ N, va_D A (wXL cI cS xx xd xo hh ha z zn q la N)) : ∀ (N : XLm) (x8 : Int32) (x9 : Int32) (x10 : Int32) (x11 : Int32) (H : Heap) (locs : List Loc) (ls : Array Slot), fL_acts_j1617 N x8 x9 x10 x11 = some (r, M') → va_P D vwCl (wXL cI cS xx xd xo hh ha z zn q la N) H → va_S A s.heap H locs → lv_has ls 21 [(0, .ref xx), (1, .ref (la 0)), (2, .ref (la 1)), (3, .ref (la 2)), (4, .ref (la 3)), (5, .ref (la 4)), (6, .ref (la 5)), (8, .int x8), (9, .int x9), (10, .int x10), (11, .int x11)] → W p l e rmL_acts s m args below meth c H locs 0 0 (MQ below (qI D r (wXL cI cS xx xd xo hh ha z zn q la (M')) A) args s 0 0 A) (F0 m 1617 ls []) := by
  obtain ⟨hx, hb, hr, hml, hlocks, hown, htb, hA, hK, hG⟩ := id C
  intro N x8 x9 x10 x11 H locs ls hF hP hS hl
  refine lv_iload hx hb dL_acts_1617 (lv_at hl 7 rfl) ?_
  refine lv_bipush (v := 21) hx hb dL_acts_1619 (by decide) ?_
  obtain ⟨hd, hF⟩ := dv_use hF
  refine lv_idiv hx hb dL_acts_1621 hd ?_
  refine lv_topi (fun v67 ev67 => ?_)
  have hF := hF v67 ev67
  refine lv_iload hx hb dL_acts_1622 (lv_at hl 7 rfl) ?_
  refine lv_iconst (v := 3) hx hb dL_acts_1624 (by decide) ?_
  obtain ⟨hd, hF⟩ := mo_use hF
  refine lv_irem hx hb dL_acts_1625 hd ?_
  refine lv_topi (fun v68 ev68 => ?_)
  have hF := hF v68 ev68
  refine lv_if_ne (tgt := 1641) hx hb dL_acts_1626 (by decide) (fun c69 => ?_) (fun c69 => ?_)
  · have hF := it_f hF c69
    refine lv_bipush (v := 20) hx hb dL_acts_1641 (by decide) ?_
    exact tL_acts_j1643 l D cS g cI xx xd xo hh ha z zn q la r M' C hDa N x8 x9 x10 x11 v67 20 _ _ _ hF hP hS (lv_sub hl [0, 1, 2, 3, 4, 5, 6, 7, 8, 9, 10] rfl)
  · have hF := it_t hF c69
    refine lv_aload_n hx hb dL_acts_1629 rfl (lv_at hl 3 rfl) ?_
    refine lv_bipush (v := 11) hx hb dL_acts_1630 (by decide) ?_
    refine lv_iload hx hb dL_acts_1632 (lv_at hl 9 rfl) ?_
    refine lv_imul hx hb dL_acts_1634 ?_
    obtain ⟨hi, hF⟩ := rd_use hF
    refine va_iald hx hb hK hP 2 0 (pXL_2 cI cS xx xd xo hh ha z zn q la N) rfl hi dL_acts_1635 ?_
    refine lv_topi (fun v147 ev147 => ?_)
    have hF := hF v147 ev147
    refine lv_iconst (v := 1) hx hb dL_acts_1636 (by decide) ?_
    refine lv_iadd hx hb dL_acts_1637 ?_
    refine lv_goto (tgt := 1643) hx hb dL_acts_1638 (by decide) ?_
    exact tL_acts_j1643 l D cS g cI xx xd xo hh ha z zn q la r M' C hDa N x8 x9 x10 x11 v67 (v147 + 1) _ _ _ hF hP hS (lv_sub hl [0, 1, 2, 3, 4, 5, 6, 7, 8, 9, 10] rfl)
set_option maxHeartbeats 4000000 in
set_option maxRecDepth 100000 in
theorem tL_acts_j1310 (l : Launch) (D : va_G) (cS : ClassId) (g : Nat → Nat) (cI : ClassId) (xx xd xo hh ha : Nat) (z : Nat → Nat → Nat) (zn q : Nat → Nat) (la : Nat → Nat) (r : Int32) (M' : XLm) {p : Program} {e : Env} {s : State} {m : MethodId} {args : Array Value} {below : List Frame} {meth : Method} {c : Code} {A : Nat → Prop} (C : CX p s m args meth c A D cI cS g cL_acts 21 (some .boolean) RL) (hDa : ∀ N, va_D A (wXL cI cS xx xd xo hh ha z zn q la N)) : ∀ (N : XLm) (x11 : Int32) (x13 : Int32) (H : Heap) (locs : List Loc) (ls : Array Slot), fL_acts_j1310 N x11 x13 = some (r, M') → va_P D vwCl (wXL cI cS xx xd xo hh ha z zn q la N) H → va_S A s.heap H locs → lv_has ls 21 [(0, .ref xx), (11, .int x11), (13, .int x13)] → W p l e rmL_acts s m args below meth c H locs 0 0 (MQ below (qI D r (wXL cI cS xx xd xo hh ha z zn q la (M')) A) args s 0 0 A) (F0 m 1310 ls []) := by
  obtain ⟨hx, hb, hr, hml, hlocks, hown, htb, hA, hK, hG⟩ := id C
  intro N x11 x13 H locs ls hF hP hS hl
  refine lv_aload_n hx hb dL_acts_1310 rfl (lv_at hl 0 rfl) ?_
  refine lv_iload hx hb dL_acts_1311 (lv_at hl 1 rfl) ?_
  refine lv_iload hx hb dL_acts_1313 (lv_at hl 2 rfl) ?_
  obtain ⟨r154, M153, hM153, hF⟩ := b2_use hF
  refine cl_VI ⟨hx, hb, hml, hown, htb⟩ (kX8_merge l D cS g cI xx xd xo hh ha z zn q (N.1) x11 x13 _ _ hM153) (cwV 2 htb (gX8_merge bw2_209) rfl rfl rfl hdX8_merge ⟨Nat.le_of_ble_eq_true rfl, Nat.le_of_ble_eq_true rfl⟩) hK (hDa _) hG hA hP hS (sg_XL_XX cI cS xx xd xo hh ha z zn q la N M153) hl.1 rfl 0 (pXX_0 _ _ _ _ _ _ _ _ _ _ _) rfl rfl (Nat.le_of_ble_eq_true rfl) dL_acts_1315 (fun H locs hP hS => ?_)
  obtain ⟨M155, eM155⟩ : ∃ z : XLm, z = (M153, N.2) := ⟨_, rfl⟩
  have hF := nm_use hF eM155
  have hP : va_P D vwCl (wXL cI cS xx xd xo hh ha z zn q la M155) H := by rw [eM155]; exact hP
  refine lv_bipush (v := (-2)) hx hb dL_acts_1318 (by decide) ?_
  refine lv_icmp_ne (tgt := 1327) hx hb dL_acts_1320 (by decide) (fun c156 => ?_) (fun c156 => ?_)
  · have hF := it_f hF c156
    refine lv_iconst (v := 0) hx hb dL_acts_1327 (by decide) ?_
    obtain ⟨hz, hF⟩ := zb_use hF
    obtain ⟨er, eM⟩ := pr_use hF
    exact rt_Z hx hb hr hlocks hS (by rw [← eM]; exact hP) hz er dL_acts_1328
  · have hF := it_t hF c156
    refine lv_iconst (v := 1) hx hb dL_acts_1323 (by decide) ?_
    refine lv_goto (tgt := 1328) hx hb dL_acts_1324 (by decide) ?_
    obtain ⟨hz, hF⟩ := zb_use hF
    obtain ⟨er, eM⟩ := pr_use hF
    exact rt_Z hx hb hr hlocks hS (by rw [← eM]; exact hP) hz er dL_acts_1328
set_option maxHeartbeats 4000000 in
set_option maxRecDepth 100000 in
theorem tL_acts_l1512 (l : Launch) (D : va_G) (cS : ClassId) (g : Nat → Nat) (cI : ClassId) (xx xd xo hh ha : Nat) (z : Nat → Nat → Nat) (zn q : Nat → Nat) (la : Nat → Nat) (r : Int32) (M' : XLm) {p : Program} {e : Env} {s : State} {m : MethodId} {args : Array Value} {below : List Frame} {meth : Method} {c : Code} {A : Nat → Prop} (C : CX p s m args meth c A D cI cS g cL_acts 21 (some .boolean) RL) (hDa : ∀ N, va_D A (wXL cI cS xx xd xo hh ha z zn q la N)) : ∀ (x11 : Int32) (x13 : Int32) (x14 : Int32) (x15 : Int32) (kk : XLm → Option (Int32 × XLm)) (fu : Nat) (N : XLm) (x16 : Int32) (H : Heap) (locs : List Loc) (ls : Array Slot), fL_acts_l1512 x11 x13 x14 x15 kk fu N x16 = some (r, M') → va_P D vwCl (wXL cI cS xx xd xo hh ha z zn q la N) H → va_S A s.heap H locs → lv_has ls 21 [(0, .ref xx), (1, .ref (la 0)), (4, .ref (la 3)), (5, .ref (la 4)), (11, .int x11), (13, .int x13), (14, .int x14), (15, .int x15), (16, .int x16)] → (∀ (N : XLm) (H : Heap) (locs : List Loc) (ls : Array Slot), kk N = some (r, M') → va_P D vwCl (wXL cI cS xx xd xo hh ha z zn q la N) H → va_S A s.heap H locs → lv_has ls 21 [(0, .ref xx), (1, .ref (la 0)), (4, .ref (la 3)), (5, .ref (la 4)), (11, .int x11), (13, .int x13), (14, .int x14), (15, .int x15)] → W p l e rmL_acts s m args below meth c H locs 0 0 (MQ below (qI D r (wXL cI cS xx xd xo hh ha z zn q la (M')) A) args s 0 0 A) (F0 m 1584 ls [])) → W p l e rmL_acts s m args below meth c H locs 0 0 (MQ below (qI D r (wXL cI cS xx xd xo hh ha z zn q la (M')) A) args s 0 0 A) (F0 m 1512 ls []) := by
  obtain ⟨hx, hb, hr, hml, hlocks, hown, htb, hA, hK, hG⟩ := id C
  intro x11 x13 x14 x15 kk fu
  induction fu with
  | zero => intro N x16 H locs ls hF; exact nn_use hF
  | succ fu ihn =>
    intro N x16 H locs ls hF hP hS hl after
    rw [fL_acts_l1512_s] at hF
    have j1578 : ∀ (N : XLm) (x16 : Int32) (H : Heap) (locs : List Loc) (ls : Array Slot), fL_acts_j1578 x11 x13 x14 x15 kk (fL_acts_l1512 x11 x13 x14 x15 kk fu) N x16 = some (r, M') → va_P D vwCl (wXL cI cS xx xd xo hh ha z zn q la N) H → va_S A s.heap H locs → lv_has ls 21 [(0, .ref xx), (1, .ref (la 0)), (4, .ref (la 3)), (5, .ref (la 4)), (11, .int x11), (13, .int x13), (14, .int x14), (15, .int x15), (16, .int x16)] → W p l e rmL_acts s m args below meth c H locs 0 0 (MQ below (qI D r (wXL cI cS xx xd xo hh ha z zn q la (M')) A) args s 0 0 A) (F0 m 1578 ls []) := by
      intro N x16 H locs ls hF hP hS hl
      obtain ⟨v194, ev194⟩ : ∃ z : Int32, z = x16 + 1 := ⟨_, rfl⟩
      refine lv_iinc (v := v194) (lv' := [(16, .int v194), (0, .ref xx), (1, .ref (la 0)), (4, .ref (la 3)), (5, .ref (la 4)), (11, .int x11), (13, .int x13), (14, .int x14), (15, .int x15)]) hx hb dL_acts_1578 hl (k := 8) rfl (by rw [ev194]; rfl) (by decide) rfl (fun ls hl => ?_)
      have hF := nm_use hF ev194
      refine lv_goto (tgt := 1512) hx hb dL_acts_1581 (by decide) ?_
      exact ihn N v194 _ _ _ hF hP hS (lv_sub hl [1, 2, 3, 4, 5, 6, 7, 8, 0] rfl) after
    refine lv_iload hx hb dL_acts_1512 (lv_at hl 8 rfl) ?_
    refine lv_aload_n hx hb dL_acts_1514 rfl (lv_at hl 1 rfl) ?_
    refine lv_iconst (v := 1) hx hb dL_acts_1515 (by decide) ?_
    obtain ⟨hi, hF⟩ := rd_use hF
    refine va_iald hx hb hK hP 0 0 (pXL_0 cI cS xx xd xo hh ha z zn q la N) rfl hi dL_acts_1516 ?_
    refine lv_topi (fun v190 ev190 => ?_)
    have hF := hF v190 ev190
    refine lv_icmp_ge (tgt := 1584) hx hb dL_acts_1517 (by decide) (fun c191 => ?_) (fun c191 => ?_)
    · have hF := it_t hF c191
      exact after N _ _ _ hF hP hS (lv_sub hl [0, 1, 2, 3, 4, 5, 6, 7] rfl)
    · have hF := it_f hF c191
      refine lv_aload hx hb dL_acts_1520 (lv_at hl 3 rfl) ?_
      refine lv_iconst (v := 4) hx hb dL_acts_1522 (by decide) ?_
      refine lv_iload hx hb dL_acts_1523 (lv_at hl 8 rfl) ?_
      refine lv_imul hx hb dL_acts_1525 ?_
      refine lv_iconst (v := 2) hx hb dL_acts_1526 (by decide) ?_
      refine lv_iadd hx hb dL_acts_1527 ?_
      obtain ⟨hi, hF⟩ := rd_use hF
      refine va_iald hx hb hK hP 4 0 (pXL_4 cI cS xx xd xo hh ha z zn q la N) rfl hi dL_acts_1528 ?_
      refine lv_topi (fun v192 ev192 => ?_)
      have hF := hF v192 ev192
      refine lv_iload hx hb dL_acts_1529 (lv_at hl 4 rfl) ?_
      refine lv_icmp_ne (tgt := 1578) hx hb dL_acts_1531 (by decide) (fun c193 => ?_) (fun c193 => ?_)
      · have hF := it_f hF c193
        exact j1578 N x16 _ _ _ hF hP hS (lv_sub hl [0, 1, 2, 3, 4, 5, 6, 7, 8] rfl)
      · have hF := it_t hF c193
        refine lv_aload hx hb dL_acts_1534 (lv_at hl 3 rfl) ?_
        refine lv_iconst (v := 4) hx hb dL_acts_1536 (by decide) ?_
        refine lv_iload hx hb dL_acts_1537 (lv_at hl 8 rfl) ?_
        refine lv_imul hx hb dL_acts_1539 ?_
        refine lv_iconst (v := 3) hx hb dL_acts_1540 (by decide) ?_
        refine lv_iadd hx hb dL_acts_1541 ?_
        obtain ⟨hi, hF⟩ := rd_use hF
        refine va_iald hx hb hK hP 4 0 (pXL_4 cI cS xx xd xo hh ha z zn q la N) rfl hi dL_acts_1542 ?_
        refine lv_topi (fun v195 ev195 => ?_)
        have hF := hF v195 ev195
        refine lv_iload hx hb dL_acts_1543 (lv_at hl 7 rfl) ?_
        refine lv_icmp_ne (tgt := 1578) hx hb dL_acts_1545 (by decide) (fun c196 => ?_) (fun c196 => ?_)
        · have hF := it_f hF c196
          exact j1578 N x16 _ _ _ hF hP hS (lv_sub hl [0, 1, 2, 3, 4, 5, 6, 7, 8] rfl)
        · have hF := it_t hF c196
          refine lv_aload hx hb dL_acts_1548 (lv_at hl 3 rfl) ?_
          refine lv_iconst (v := 4) hx hb dL_acts_1550 (by decide) ?_
          refine lv_iload hx hb dL_acts_1551 (lv_at hl 8 rfl) ?_
          refine lv_imul hx hb dL_acts_1553 ?_
          refine lv_iconst (v := 2) hx hb dL_acts_1554 (by decide) ?_
          refine lv_iadd hx hb dL_acts_1555 ?_
          refine lv_iload hx hb dL_acts_1556 (lv_at hl 5 rfl) ?_
          obtain ⟨hi, hF⟩ := wr_use hF
          refine va_iast hx hb hK hP (hDa _) hS 4 0 (pXL_4 cI cS xx xd xo hh ha z zn q la N) rfl hi dL_acts_1558 (fun H locs hP _ hS => ?_)
          obtain ⟨M198, eM198⟩ : ∃ z : XLm, z = (N.1, (N.2.1, N.2.2.1, N.2.2.2.1, N.2.2.2.2.1, (upd (N.2.2.2.2.2.1) ((4 * x16) + 2 : Int32).toNatClampNeg x13), N.2.2.2.2.2.2)) := ⟨_, rfl⟩
          have hF := nm_use hF eM198
          have hP : va_P D vwCl (wXL cI cS xx xd xo hh ha z zn q la M198) H := by rw [eM198]; exact hP
          refine lv_aload hx hb dL_acts_1559 (lv_at hl 3 rfl) ?_
          refine lv_iconst (v := 4) hx hb dL_acts_1561 (by decide) ?_
          refine lv_iload hx hb dL_acts_1562 (lv_at hl 8 rfl) ?_
          refine lv_imul hx hb dL_acts_1564 ?_
          refine lv_iconst (v := 3) hx hb dL_acts_1565 (by decide) ?_
          refine lv_iadd hx hb dL_acts_1566 ?_
          refine lv_aload_n hx hb dL_acts_1567 rfl (lv_at hl 1 rfl) ?_
          refine lv_iconst (v := 4) hx hb dL_acts_1568 (by decide) ?_
          obtain ⟨hi, hF⟩ := rd_use hF
          refine va_iald hx hb hK hP 0 0 (pXL_0 cI cS xx xd xo hh ha z zn q la M198) rfl hi dL_acts_1569 ?_
          refine lv_topi (fun v199 ev199 => ?_)
          have hF := hF v199 ev199
          obtain ⟨hi, hF⟩ := wr_use hF
          refine va_iast hx hb hK hP (hDa _) hS 4 0 (pXL_4 cI cS xx xd xo hh ha z zn q la M198) rfl hi dL_acts_1570 (fun H locs hP _ hS => ?_)
          obtain ⟨M201, eM201⟩ : ∃ z : XLm, z = (M198.1, (M198.2.1, M198.2.2.1, M198.2.2.2.1, M198.2.2.2.2.1, (upd (M198.2.2.2.2.2.1) ((4 * x16) + 3 : Int32).toNatClampNeg v199), M198.2.2.2.2.2.2)) := ⟨_, rfl⟩
          have hF := nm_use hF eM201
          have hP : va_P D vwCl (wXL cI cS xx xd xo hh ha z zn q la M201) H := by rw [eM201]; exact hP
          refine lv_aload_n hx hb dL_acts_1571 rfl (lv_at hl 1 rfl) ?_
          refine lv_iconst (v := 4) hx hb dL_acts_1572 (by decide) ?_
          refine lv_dup2_11 hx hb dL_acts_1573 rfl rfl ?_
          obtain ⟨hi, hF⟩ := rd_use hF
          refine va_iald hx hb hK hP 0 0 (pXL_0 cI cS xx xd xo hh ha z zn q la M201) rfl hi dL_acts_1574 ?_
          refine lv_topi (fun v202 ev202 => ?_)
          have hF := hF v202 ev202
          refine lv_iconst (v := 1) hx hb dL_acts_1575 (by decide) ?_
          refine lv_iadd hx hb dL_acts_1576 ?_
          obtain ⟨hi, hF⟩ := wr_use hF
          refine va_iast hx hb hK hP (hDa _) hS 0 0 (pXL_0 cI cS xx xd xo hh ha z zn q la M201) rfl hi dL_acts_1577 (fun H locs hP _ hS => ?_)
          obtain ⟨M204, eM204⟩ : ∃ z : XLm, z = (M201.1, ((upd (M201.2.1) (4 : Int32).toNatClampNeg (v202 + 1)), M201.2.2)) := ⟨_, rfl⟩
          have hF := nm_use hF eM204
          have hP : va_P D vwCl (wXL cI cS xx xd xo hh ha z zn q la M204) H := by rw [eM204]; exact hP
          exact j1578 M204 x16 _ _ _ hF hP hS (lv_sub hl [0, 1, 2, 3, 4, 5, 6, 7, 8] rfl)
set_option maxHeartbeats 4000000 in
set_option maxRecDepth 100000 in
theorem tL_acts_l1502 (l : Launch) (D : va_G) (cS : ClassId) (g : Nat → Nat) (cI : ClassId) (xx xd xo hh ha : Nat) (z : Nat → Nat → Nat) (zn q : Nat → Nat) (la : Nat → Nat) (r : Int32) (M' : XLm) {p : Program} {e : Env} {s : State} {m : MethodId} {args : Array Value} {below : List Frame} {meth : Method} {c : Code} {A : Nat → Prop} (C : CX p s m args meth c A D cI cS g cL_acts 21 (some .boolean) RL) (hDa : ∀ N, va_D A (wXL cI cS xx xd xo hh ha z zn q la N)) : ∀ (x11 : Int32) (x13 : Int32) (x14 : Int32) (kk : XLm → Option (Int32 × XLm)) (fu : Nat) (N : XLm) (x15 : Int32) (H : Heap) (locs : List Loc) (ls : Array Slot), fL_acts_l1502 x11 x13 x14 kk fu N x15 = some (r, M') → va_P D vwCl (wXL cI cS xx xd xo hh ha z zn q la N) H → va_S A s.heap H locs → lv_has ls 21 [(0, .ref xx), (1, .ref (la 0)), (4, .ref (la 3)), (5, .ref (la 4)), (11, .int x11), (13, .int x13), (14, .int x14), (15, .int x15)] → (∀ (N : XLm) (H : Heap) (locs : List Loc) (ls : Array Slot), kk N = some (r, M') → va_P D vwCl (wXL cI cS xx xd xo hh ha z zn q la N) H → va_S A s.heap H locs → lv_has ls 21 [(0, .ref xx), (4, .ref (la 3)), (11, .int x11), (13, .int x13)] → W p l e rmL_acts s m args below meth c H locs 0 0 (MQ below (qI D r (wXL cI cS xx xd xo hh ha z zn q la (M')) A) args s 0 0 A) (F0 m 1590 ls [])) → W p l e rmL_acts s m args below meth c H locs 0 0 (MQ below (qI D r (wXL cI cS xx xd xo hh ha z zn q la (M')) A) args s 0 0 A) (F0 m 1502 ls []) := by
  obtain ⟨hx, hb, hr, hml, hlocks, hown, htb, hA, hK, hG⟩ := id C
  intro x11 x13 x14 kk fu
  induction fu with
  | zero => intro N x15 H locs ls hF; exact nn_use hF
  | succ fu ihn =>
    intro N x15 H locs ls hF hP hS hl after
    rw [fL_acts_l1502_s] at hF
    refine lv_iload hx hb dL_acts_1502 (lv_at hl 7 rfl) ?_
    refine lv_iload hx hb dL_acts_1504 (lv_at hl 6 rfl) ?_
    refine lv_icmp_ge (tgt := 1590) hx hb dL_acts_1506 (by decide) (fun c189 => ?_) (fun c189 => ?_)
    · have hF := it_t hF c189
      exact after N _ _ _ hF hP hS (lv_sub hl [0, 2, 4, 5] rfl)
    · have hF := it_f hF c189
      refine lv_iconst (v := 0) hx hb dL_acts_1509 (by decide) ?_
      refine lv_istore (lv' := [(16, .int 0), (0, .ref xx), (1, .ref (la 0)), (4, .ref (la 3)), (5, .ref (la 4)), (11, .int x11), (13, .int x13), (14, .int x14), (15, .int x15)]) hx hb dL_acts_1510 hl (by decide) rfl (fun ls hl => ?_)
      refine tL_acts_l1512 l D cS g cI xx xd xo hh ha z zn q la r M' C hDa x11 x13 x14 x15 _ _ N 0 _ _ _ hF hP hS (lv_sub hl [1, 2, 3, 4, 5, 6, 7, 8, 0] rfl) ?_
      · intro M205 H locs ls hF hP hS hl
        obtain ⟨v206, ev206⟩ : ∃ z : Int32, z = x15 + 1 := ⟨_, rfl⟩
        refine lv_iinc (v := v206) (lv' := [(15, .int v206), (0, .ref xx), (1, .ref (la 0)), (4, .ref (la 3)), (5, .ref (la 4)), (11, .int x11), (13, .int x13), (14, .int x14)]) hx hb dL_acts_1584 hl (k := 7) rfl (by rw [ev206]; rfl) (by decide) rfl (fun ls hl => ?_)
        have hF := nm_use hF ev206
        refine lv_goto (tgt := 1502) hx hb dL_acts_1587 (by decide) ?_
        exact ihn M205 v206 _ _ _ hF hP hS (lv_sub hl [1, 2, 3, 4, 5, 6, 7, 0] rfl) after
set_option maxHeartbeats 4000000 in
set_option maxRecDepth 100000 in
theorem tL_acts_j1381 (l : Launch) (D : va_G) (cS : ClassId) (g : Nat → Nat) (cI : ClassId) (xx xd xo hh ha : Nat) (z : Nat → Nat → Nat) (zn q : Nat → Nat) (la : Nat → Nat) (r : Int32) (M' : XLm) {p : Program} {e : Env} {s : State} {m : MethodId} {args : Array Value} {below : List Frame} {meth : Method} {c : Code} {A : Nat → Prop} (C : CX p s m args meth c A D cI cS g cL_acts 21 (some .boolean) RL) (hDa : ∀ N, va_D A (wXL cI cS xx xd xo hh ha z zn q la N)) : ∀ (N : XLm) (x11 : Int32) (x13 : Int32) (H : Heap) (locs : List Loc) (ls : Array Slot), fL_acts_j1381 N x11 x13 = some (r, M') → va_P D vwCl (wXL cI cS xx xd xo hh ha z zn q la N) H → va_S A s.heap H locs → lv_has ls 21 [(0, .ref xx), (1, .ref (la 0)), (4, .ref (la 3)), (5, .ref (la 4)), (11, .int x11), (13, .int x13)] → W p l e rmL_acts s m args below meth c H locs 0 0 (MQ below (qI D r (wXL cI cS xx xd xo hh ha z zn q la (M')) A) args s 0 0 A) (F0 m 1381 ls []) := by
  obtain ⟨hx, hb, hr, hml, hlocks, hown, htb, hA, hK, hG⟩ := id C
  intro N x11 x13 H locs ls hF hP hS hl
  refine lv_aload hx hb dL_acts_1381 (lv_at hl 2 rfl) ?_
  refine lv_bipush (v := 9) hx hb dL_acts_1383 (by decide) ?_
  refine lv_iload hx hb dL_acts_1385 (lv_at hl 5 rfl) ?_
  refine lv_imul hx hb dL_acts_1387 ?_
  refine lv_iconst (v := 2) hx hb dL_acts_1388 (by decide) ?_
  refine lv_iadd hx hb dL_acts_1389 ?_
  refine lv_topi (fun v165 ev165 => ?_)
  have hF := nm_use hF ev165
  refine lv_dup2_11 hx hb dL_acts_1390 rfl rfl ?_
  obtain ⟨hi, hF⟩ := rd_use hF
  refine va_iald hx hb hK hP 3 0 (pXL_3 cI cS xx xd xo hh ha z zn q la N) rfl hi dL_acts_1391 ?_
  refine lv_topi (fun v166 ev166 => ?_)
  have hF := hF v166 ev166
  refine lv_aload hx hb dL_acts_1392 (lv_at hl 2 rfl) ?_
  refine lv_bipush (v := 9) hx hb dL_acts_1394 (by decide) ?_
  refine lv_iload hx hb dL_acts_1396 (lv_at hl 4 rfl) ?_
  refine lv_imul hx hb dL_acts_1398 ?_
  refine lv_iconst (v := 2) hx hb dL_acts_1399 (by decide) ?_
  refine lv_iadd hx hb dL_acts_1400 ?_
  obtain ⟨hi, hF⟩ := rd_use hF
  refine va_iald hx hb hK hP 3 0 (pXL_3 cI cS xx xd xo hh ha z zn q la N) rfl hi dL_acts_1401 ?_
  refine lv_topi (fun v167 ev167 => ?_)
  have hF := hF v167 ev167
  refine lv_iadd hx hb dL_acts_1402 ?_
  obtain ⟨hi, hF⟩ := wr_use hF
  refine va_iast hx hb hK hP (hDa _) hS 3 0 (pXL_3 cI cS xx xd xo hh ha z zn q la N) rfl hi dL_acts_1403 (fun H locs hP _ hS => ?_)
  obtain ⟨M169, eM169⟩ : ∃ z : XLm, z = (N.1, (N.2.1, N.2.2.1, N.2.2.2.1, (upd (N.2.2.2.2.1) (v165 : Int32).toNatClampNeg (v166 + v167)), N.2.2.2.2.2)) := ⟨_, rfl⟩
  have hF := nm_use hF eM169
  have hP : va_P D vwCl (wXL cI cS xx xd xo hh ha z zn q la M169) H := by rw [eM169]; exact hP
  refine lv_aload hx hb dL_acts_1404 (lv_at hl 2 rfl) ?_
  refine lv_bipush (v := 9) hx hb dL_acts_1406 (by decide) ?_
  refine lv_iload hx hb dL_acts_1408 (lv_at hl 5 rfl) ?_
  refine lv_imul hx hb dL_acts_1410 ?_
  refine lv_iconst (v := 4) hx hb dL_acts_1411 (by decide) ?_
  refine lv_iadd hx hb dL_acts_1412 ?_
  refine lv_topi (fun v170 ev170 => ?_)
  have hF := nm_use hF ev170
  refine lv_dup2_11 hx hb dL_acts_1413 rfl rfl ?_
  obtain ⟨hi, hF⟩ := rd_use hF
  refine va_iald hx hb hK hP 3 0 (pXL_3 cI cS xx xd xo hh ha z zn q la M169) rfl hi dL_acts_1414 ?_
  refine lv_topi (fun v171 ev171 => ?_)
  have hF := hF v171 ev171
  refine lv_aload hx hb dL_acts_1415 (lv_at hl 2 rfl) ?_
  refine lv_bipush (v := 9) hx hb dL_acts_1417 (by decide) ?_
  refine lv_iload hx hb dL_acts_1419 (lv_at hl 4 rfl) ?_
  refine lv_imul hx hb dL_acts_1421 ?_
  refine lv_iconst (v := 4) hx hb dL_acts_1422 (by decide) ?_
  refine lv_iadd hx hb dL_acts_1423 ?_
  obtain ⟨hi, hF⟩ := rd_use hF
  refine va_iald hx hb hK hP 3 0 (pXL_3 cI cS xx xd xo hh ha z zn q la M169) rfl hi dL_acts_1424 ?_
  refine lv_topi (fun v172 ev172 => ?_)
  have hF := hF v172 ev172
  refine lv_iadd hx hb dL_acts_1425 ?_
  obtain ⟨hi, hF⟩ := wr_use hF
  refine va_iast hx hb hK hP (hDa _) hS 3 0 (pXL_3 cI cS xx xd xo hh ha z zn q la M169) rfl hi dL_acts_1426 (fun H locs hP _ hS => ?_)
  obtain ⟨M174, eM174⟩ : ∃ z : XLm, z = (M169.1, (M169.2.1, M169.2.2.1, M169.2.2.2.1, (upd (M169.2.2.2.2.1) (v170 : Int32).toNatClampNeg (v171 + v172)), M169.2.2.2.2.2)) := ⟨_, rfl⟩
  have hF := nm_use hF eM174
  have hP : va_P D vwCl (wXL cI cS xx xd xo hh ha z zn q la M174) H := by rw [eM174]; exact hP
  refine lv_aload hx hb dL_acts_1427 (lv_at hl 2 rfl) ?_
  refine lv_bipush (v := 9) hx hb dL_acts_1429 (by decide) ?_
  refine lv_iload hx hb dL_acts_1431 (lv_at hl 5 rfl) ?_
  refine lv_imul hx hb dL_acts_1433 ?_
  refine lv_iconst (v := 5) hx hb dL_acts_1434 (by decide) ?_
  refine lv_iadd hx hb dL_acts_1435 ?_
  refine lv_topi (fun v175 ev175 => ?_)
  have hF := nm_use hF ev175
  refine lv_dup2_11 hx hb dL_acts_1436 rfl rfl ?_
  obtain ⟨hi, hF⟩ := rd_use hF
  refine va_iald hx hb hK hP 3 0 (pXL_3 cI cS xx xd xo hh ha z zn q la M174) rfl hi dL_acts_1437 ?_
  refine lv_topi (fun v176 ev176 => ?_)
  have hF := hF v176 ev176
  refine lv_aload hx hb dL_acts_1438 (lv_at hl 2 rfl) ?_
  refine lv_bipush (v := 9) hx hb dL_acts_1440 (by decide) ?_
  refine lv_iload hx hb dL_acts_1442 (lv_at hl 4 rfl) ?_
  refine lv_imul hx hb dL_acts_1444 ?_
  refine lv_iconst (v := 5) hx hb dL_acts_1445 (by decide) ?_
  refine lv_iadd hx hb dL_acts_1446 ?_
  obtain ⟨hi, hF⟩ := rd_use hF
  refine va_iald hx hb hK hP 3 0 (pXL_3 cI cS xx xd xo hh ha z zn q la M174) rfl hi dL_acts_1447 ?_
  refine lv_topi (fun v177 ev177 => ?_)
  have hF := hF v177 ev177
  refine lv_iadd hx hb dL_acts_1448 ?_
  obtain ⟨hi, hF⟩ := wr_use hF
  refine va_iast hx hb hK hP (hDa _) hS 3 0 (pXL_3 cI cS xx xd xo hh ha z zn q la M174) rfl hi dL_acts_1449 (fun H locs hP _ hS => ?_)
  obtain ⟨M179, eM179⟩ : ∃ z : XLm, z = (M174.1, (M174.2.1, M174.2.2.1, M174.2.2.2.1, (upd (M174.2.2.2.2.1) (v175 : Int32).toNatClampNeg (v176 + v177)), M174.2.2.2.2.2)) := ⟨_, rfl⟩
  have hF := nm_use hF eM179
  have hP : va_P D vwCl (wXL cI cS xx xd xo hh ha z zn q la M179) H := by rw [eM179]; exact hP
  refine lv_aload hx hb dL_acts_1450 (lv_at hl 2 rfl) ?_
  refine lv_bipush (v := 9) hx hb dL_acts_1452 (by decide) ?_
  refine lv_iload hx hb dL_acts_1454 (lv_at hl 4 rfl) ?_
  refine lv_imul hx hb dL_acts_1456 ?_
  refine lv_iconst (v := 2) hx hb dL_acts_1457 (by decide) ?_
  refine lv_iadd hx hb dL_acts_1458 ?_
  refine lv_iconst (v := 0) hx hb dL_acts_1459 (by decide) ?_
  obtain ⟨hi, hF⟩ := wr_use hF
  refine va_iast hx hb hK hP (hDa _) hS 3 0 (pXL_3 cI cS xx xd xo hh ha z zn q la M179) rfl hi dL_acts_1460 (fun H locs hP _ hS => ?_)
  obtain ⟨M181, eM181⟩ : ∃ z : XLm, z = (M179.1, (M179.2.1, M179.2.2.1, M179.2.2.2.1, (upd (M179.2.2.2.2.1) ((9 * x11) + 2 : Int32).toNatClampNeg 0), M179.2.2.2.2.2)) := ⟨_, rfl⟩
  have hF := nm_use hF eM181
  have hP : va_P D vwCl (wXL cI cS xx xd xo hh ha z zn q la M181) H := by rw [eM181]; exact hP
  refine lv_aload hx hb dL_acts_1461 (lv_at hl 2 rfl) ?_
  refine lv_bipush (v := 9) hx hb dL_acts_1463 (by decide) ?_
  refine lv_iload hx hb dL_acts_1465 (lv_at hl 4 rfl) ?_
  refine lv_imul hx hb dL_acts_1467 ?_
  refine lv_iconst (v := 4) hx hb dL_acts_1468 (by decide) ?_
  refine lv_iadd hx hb dL_acts_1469 ?_
  refine lv_iconst (v := 0) hx hb dL_acts_1470 (by decide) ?_
  obtain ⟨hi, hF⟩ := wr_use hF
  refine va_iast hx hb hK hP (hDa _) hS 3 0 (pXL_3 cI cS xx xd xo hh ha z zn q la M181) rfl hi dL_acts_1471 (fun H locs hP _ hS => ?_)
  obtain ⟨M183, eM183⟩ : ∃ z : XLm, z = (M181.1, (M181.2.1, M181.2.2.1, M181.2.2.2.1, (upd (M181.2.2.2.2.1) ((9 * x11) + 4 : Int32).toNatClampNeg 0), M181.2.2.2.2.2)) := ⟨_, rfl⟩
  have hF := nm_use hF eM183
  have hP : va_P D vwCl (wXL cI cS xx xd xo hh ha z zn q la M183) H := by rw [eM183]; exact hP
  refine lv_aload hx hb dL_acts_1472 (lv_at hl 2 rfl) ?_
  refine lv_bipush (v := 9) hx hb dL_acts_1474 (by decide) ?_
  refine lv_iload hx hb dL_acts_1476 (lv_at hl 4 rfl) ?_
  refine lv_imul hx hb dL_acts_1478 ?_
  refine lv_iconst (v := 5) hx hb dL_acts_1479 (by decide) ?_
  refine lv_iadd hx hb dL_acts_1480 ?_
  refine lv_iconst (v := 0) hx hb dL_acts_1481 (by decide) ?_
  obtain ⟨hi, hF⟩ := wr_use hF
  refine va_iast hx hb hK hP (hDa _) hS 3 0 (pXL_3 cI cS xx xd xo hh ha z zn q la M183) rfl hi dL_acts_1482 (fun H locs hP _ hS => ?_)
  obtain ⟨M185, eM185⟩ : ∃ z : XLm, z = (M183.1, (M183.2.1, M183.2.2.1, M183.2.2.2.1, (upd (M183.2.2.2.2.1) ((9 * x11) + 5 : Int32).toNatClampNeg 0), M183.2.2.2.2.2)) := ⟨_, rfl⟩
  have hF := nm_use hF eM185
  have hP : va_P D vwCl (wXL cI cS xx xd xo hh ha z zn q la M185) H := by rw [eM185]; exact hP
  refine lv_aload hx hb dL_acts_1483 (lv_at hl 2 rfl) ?_
  refine lv_bipush (v := 9) hx hb dL_acts_1485 (by decide) ?_
  refine lv_iload hx hb dL_acts_1487 (lv_at hl 4 rfl) ?_
  refine lv_imul hx hb dL_acts_1489 ?_
  refine lv_iconst (v := 3) hx hb dL_acts_1490 (by decide) ?_
  refine lv_iadd hx hb dL_acts_1491 ?_
  refine lv_iconst (v := 3) hx hb dL_acts_1492 (by decide) ?_
  obtain ⟨hi, hF⟩ := wr_use hF
  refine va_iast hx hb hK hP (hDa _) hS 3 0 (pXL_3 cI cS xx xd xo hh ha z zn q la M185) rfl hi dL_acts_1493 (fun H locs hP _ hS => ?_)
  obtain ⟨M187, eM187⟩ : ∃ z : XLm, z = (M185.1, (M185.2.1, M185.2.2.1, M185.2.2.2.1, (upd (M185.2.2.2.2.1) ((9 * x11) + 3 : Int32).toNatClampNeg 3), M185.2.2.2.2.2)) := ⟨_, rfl⟩
  have hF := nm_use hF eM187
  have hP : va_P D vwCl (wXL cI cS xx xd xo hh ha z zn q la M187) H := by rw [eM187]; exact hP
  refine lv_aload_n hx hb dL_acts_1494 rfl (lv_at hl 1 rfl) ?_
  refine lv_iconst (v := 4) hx hb dL_acts_1495 (by decide) ?_
  obtain ⟨hi, hF⟩ := rd_use hF
  refine va_iald hx hb hK hP 0 0 (pXL_0 cI cS xx xd xo hh ha z zn q la M187) rfl hi dL_acts_1496 ?_
  refine lv_topi (fun v188 ev188 => ?_)
  have hF := hF v188 ev188
  refine lv_istore (lv' := [(14, .int v188), (0, .ref xx), (1, .ref (la 0)), (4, .ref (la 3)), (5, .ref (la 4)), (11, .int x11), (13, .int x13)]) hx hb dL_acts_1497 hl (by decide) rfl (fun ls hl => ?_)
  refine lv_iconst (v := 0) hx hb dL_acts_1499 (by decide) ?_
  refine lv_istore (lv' := [(15, .int 0), (14, .int v188), (0, .ref xx), (1, .ref (la 0)), (4, .ref (la 3)), (5, .ref (la 4)), (11, .int x11), (13, .int x13)]) hx hb dL_acts_1500 hl (by decide) rfl (fun ls hl => ?_)
  refine tL_acts_l1502 l D cS g cI xx xd xo hh ha z zn q la r M' C hDa x11 x13 v188 _ _ M187 0 _ _ _ hF hP hS (lv_sub hl [2, 3, 4, 5, 6, 7, 1, 0] rfl) ?_
  · intro M207 H locs ls hF hP hS hl
    refine lv_aload_n hx hb dL_acts_1590 rfl (lv_at hl 0 rfl) ?_
    refine lv_iload hx hb dL_acts_1591 (lv_at hl 2 rfl) ?_
    refine lv_iload hx hb dL_acts_1593 (lv_at hl 3 rfl) ?_
    obtain ⟨r209, M208, hM208, hF⟩ := b2_use hF
    refine cl_VI ⟨hx, hb, hml, hown, htb⟩ (kX8_merge l D cS g cI xx xd xo hh ha z zn q (M207.1) x11 x13 _ _ hM208) (cwV 2 htb (gX8_merge bw2_209) rfl rfl rfl hdX8_merge ⟨Nat.le_of_ble_eq_true rfl, Nat.le_of_ble_eq_true rfl⟩) hK (hDa _) hG hA hP hS (sg_XL_XX cI cS xx xd xo hh ha z zn q la M207 M208) hl.1 rfl 0 (pXX_0 _ _ _ _ _ _ _ _ _ _ _) rfl rfl (Nat.le_of_ble_eq_true rfl) dL_acts_1595 (fun H locs hP hS => ?_)
    obtain ⟨M210, eM210⟩ : ∃ z : XLm, z = (M208, M207.2) := ⟨_, rfl⟩
    have hF := nm_use hF eM210
    have hP : va_P D vwCl (wXL cI cS xx xd xo hh ha z zn q la M210) H := by rw [eM210]; exact hP
    refine lv_aload hx hb dL_acts_1598 (lv_at hl 1 rfl) ?_
    refine lv_bipush (v := 9) hx hb dL_acts_1600 (by decide) ?_
    refine lv_iload hx hb dL_acts_1602 (lv_at hl 3 rfl) ?_
    refine lv_imul hx hb dL_acts_1604 ?_
    refine lv_iconst (v := 2) hx hb dL_acts_1605 (by decide) ?_
    refine lv_iadd hx hb dL_acts_1606 ?_
    obtain ⟨hi, hF⟩ := rd_use hF
    refine va_iald hx hb hK hP 3 0 (pXL_3 cI cS xx xd xo hh ha z zn q la M210) rfl hi dL_acts_1607 ?_
    refine lv_topi (fun v211 ev211 => ?_)
    have hF := hF v211 ev211
    refine lv_icmp_ne (tgt := 1615) hx hb dL_acts_1608 (by decide) (fun c212 => ?_) (fun c212 => ?_)
    · have hF := it_f hF c212
      refine lv_iconst (v := 0) hx hb dL_acts_1615 (by decide) ?_
      obtain ⟨hz, hF⟩ := zb_use hF
      obtain ⟨er, eM⟩ := pr_use hF
      exact rt_Z hx hb hr hlocks hS (by rw [← eM]; exact hP) hz er dL_acts_1616
    · have hF := it_t hF c212
      refine lv_iconst (v := 1) hx hb dL_acts_1611 (by decide) ?_
      refine lv_goto (tgt := 1616) hx hb dL_acts_1612 (by decide) ?_
      obtain ⟨hz, hF⟩ := zb_use hF
      obtain ⟨er, eM⟩ := pr_use hF
      exact rt_Z hx hb hr hlocks hS (by rw [← eM]; exact hP) hz er dL_acts_1616
set_option maxHeartbeats 4000000 in
set_option maxRecDepth 100000 in
theorem tL_acts_j1329 (l : Launch) (D : va_G) (cS : ClassId) (g : Nat → Nat) (cI : ClassId) (xx xd xo hh ha : Nat) (z : Nat → Nat → Nat) (zn q : Nat → Nat) (la : Nat → Nat) (r : Int32) (M' : XLm) {p : Program} {e : Env} {s : State} {m : MethodId} {args : Array Value} {below : List Frame} {meth : Method} {c : Code} {A : Nat → Prop} (C : CX p s m args meth c A D cI cS g cL_acts 21 (some .boolean) RL) (hDa : ∀ N, va_D A (wXL cI cS xx xd xo hh ha z zn q la N)) : ∀ (N : XLm) (x10 : Int32) (x11 : Int32) (x13 : Int32) (H : Heap) (locs : List Loc) (ls : Array Slot), fL_acts_j1329 N x10 x11 x13 = some (r, M') → va_P D vwCl (wXL cI cS xx xd xo hh ha z zn q la N) H → va_S A s.heap H locs → lv_has ls 21 [(0, .ref xx), (1, .ref (la 0)), (3, .ref (la 2)), (4, .ref (la 3)), (5, .ref (la 4)), (10, .int x10), (11, .int x11), (13, .int x13)] → W p l e rmL_acts s m args below meth c H locs 0 0 (MQ below (qI D r (wXL cI cS xx xd xo hh ha z zn q la (M')) A) args s 0 0 A) (F0 m 1329 ls []) := by
  obtain ⟨hx, hb, hr, hml, hlocks, hown, htb, hA, hK, hG⟩ := id C
  intro N x10 x11 x13 H locs ls hF hP hS hl
  refine lv_aload hx hb dL_acts_1329 (lv_at hl 3 rfl) ?_
  refine lv_bipush (v := 9) hx hb dL_acts_1331 (by decide) ?_
  refine lv_iload hx hb dL_acts_1333 (lv_at hl 6 rfl) ?_
  refine lv_imul hx hb dL_acts_1335 ?_
  refine lv_iconst (v := 2) hx hb dL_acts_1336 (by decide) ?_
  refine lv_iadd hx hb dL_acts_1337 ?_
  obtain ⟨hi, hF⟩ := rd_use hF
  refine va_iald hx hb hK hP 3 0 (pXL_3 cI cS xx xd xo hh ha z zn q la N) rfl hi dL_acts_1338 ?_
  refine lv_topi (fun v161 ev161 => ?_)
  have hF := hF v161 ev161
  refine lv_aload hx hb dL_acts_1339 (lv_at hl 3 rfl) ?_
  refine lv_bipush (v := 9) hx hb dL_acts_1341 (by decide) ?_
  refine lv_iload hx hb dL_acts_1343 (lv_at hl 7 rfl) ?_
  refine lv_imul hx hb dL_acts_1345 ?_
  refine lv_iconst (v := 2) hx hb dL_acts_1346 (by decide) ?_
  refine lv_iadd hx hb dL_acts_1347 ?_
  obtain ⟨hi, hF⟩ := rd_use hF
  refine va_iald hx hb hK hP 3 0 (pXL_3 cI cS xx xd xo hh ha z zn q la N) rfl hi dL_acts_1348 ?_
  refine lv_topi (fun v162 ev162 => ?_)
  have hF := hF v162 ev162
  refine lv_iadd hx hb dL_acts_1349 ?_
  refine lv_aload_n hx hb dL_acts_1350 rfl (lv_at hl 2 rfl) ?_
  refine lv_bipush (v := 11) hx hb dL_acts_1351 (by decide) ?_
  refine lv_iload hx hb dL_acts_1353 (lv_at hl 5 rfl) ?_
  refine lv_imul hx hb dL_acts_1355 ?_
  refine lv_iconst (v := 3) hx hb dL_acts_1356 (by decide) ?_
  refine lv_iadd hx hb dL_acts_1357 ?_
  obtain ⟨hi, hF⟩ := rd_use hF
  refine va_iald hx hb hK hP 2 0 (pXL_2 cI cS xx xd xo hh ha z zn q la N) rfl hi dL_acts_1358 ?_
  refine lv_topi (fun v163 ev163 => ?_)
  have hF := hF v163 ev163
  refine lv_icmp_le (tgt := 1381) hx hb dL_acts_1359 (by decide) (fun c164 => ?_) (fun c164 => ?_)
  · have hF := it_t hF c164
    exact tL_acts_j1381 l D cS g cI xx xd xo hh ha z zn q la r M' C hDa N x11 x13 _ _ _ hF hP hS (lv_sub hl [0, 1, 3, 4, 6, 7] rfl)
  · have hF := it_f hF c164
    refine lv_aload_n hx hb dL_acts_1362 rfl (lv_at hl 0 rfl) ?_
    refine lv_iload hx hb dL_acts_1363 (lv_at hl 6 rfl) ?_
    refine lv_iload hx hb dL_acts_1365 (lv_at hl 7 rfl) ?_
    obtain ⟨r214, M213, hM213, hF⟩ := b2_use hF
    refine cl_VI ⟨hx, hb, hml, hown, htb⟩ (kX8_merge l D cS g cI xx xd xo hh ha z zn q (N.1) x11 x13 _ _ hM213) (cwV 2 htb (gX8_merge bw2_209) rfl rfl rfl hdX8_merge ⟨Nat.le_of_ble_eq_true rfl, Nat.le_of_ble_eq_true rfl⟩) hK (hDa _) hG hA hP hS (sg_XL_XX cI cS xx xd xo hh ha z zn q la N M213) hl.1 rfl 0 (pXX_0 _ _ _ _ _ _ _ _ _ _ _) rfl rfl (Nat.le_of_ble_eq_true rfl) dL_acts_1367 (fun H locs hP hS => ?_)
    obtain ⟨M215, eM215⟩ : ∃ z : XLm, z = (M213, N.2) := ⟨_, rfl⟩
    have hF := nm_use hF eM215
    have hP : va_P D vwCl (wXL cI cS xx xd xo hh ha z zn q la M215) H := by rw [eM215]; exact hP
    refine lv_bipush (v := (-3)) hx hb dL_acts_1370 (by decide) ?_
    refine lv_icmp_ne (tgt := 1379) hx hb dL_acts_1372 (by decide) (fun c216 => ?_) (fun c216 => ?_)
    · have hF := it_f hF c216
      refine lv_iconst (v := 0) hx hb dL_acts_1379 (by decide) ?_
      obtain ⟨hz, hF⟩ := zb_use hF
      obtain ⟨er, eM⟩ := pr_use hF
      exact rt_Z hx hb hr hlocks hS (by rw [← eM]; exact hP) hz er dL_acts_1380
    · have hF := it_t hF c216
      refine lv_iconst (v := 1) hx hb dL_acts_1375 (by decide) ?_
      refine lv_goto (tgt := 1380) hx hb dL_acts_1376 (by decide) ?_
      obtain ⟨hz, hF⟩ := zb_use hF
      obtain ⟨er, eM⟩ := pr_use hF
      exact rt_Z hx hb hr hlocks hS (by rw [← eM]; exact hP) hz er dL_acts_1380
set_option maxHeartbeats 4000000 in
set_option maxRecDepth 100000 in
theorem tL_acts_j1279 (l : Launch) (D : va_G) (cS : ClassId) (g : Nat → Nat) (cI : ClassId) (xx xd xo hh ha : Nat) (z : Nat → Nat → Nat) (zn q : Nat → Nat) (la : Nat → Nat) (r : Int32) (M' : XLm) {p : Program} {e : Env} {s : State} {m : MethodId} {args : Array Value} {below : List Frame} {meth : Method} {c : Code} {A : Nat → Prop} (C : CX p s m args meth c A D cI cS g cL_acts 21 (some .boolean) RL) (hDa : ∀ N, va_D A (wXL cI cS xx xd xo hh ha z zn q la N)) : ∀ (N : XLm) (x10 : Int32) (x11 : Int32) (x12 : Int32) (x13 : Int32) (H : Heap) (locs : List Loc) (ls : Array Slot), fL_acts_j1279 N x10 x11 x12 x13 = some (r, M') → va_P D vwCl (wXL cI cS xx xd xo hh ha z zn q la N) H → va_S A s.heap H locs → lv_has ls 21 [(0, .ref xx), (1, .ref (la 0)), (3, .ref (la 2)), (4, .ref (la 3)), (5, .ref (la 4)), (10, .int x10), (11, .int x11), (12, .int x12), (13, .int x13)] → W p l e rmL_acts s m args below meth c H locs 0 0 (MQ below (qI D r (wXL cI cS xx xd xo hh ha z zn q la (M')) A) args s 0 0 A) (F0 m 1279 ls []) := by
  obtain ⟨hx, hb, hr, hml, hlocks, hown, htb, hA, hK, hG⟩ := id C
  intro N x10 x11 x12 x13 H locs ls hF hP hS hl
  refine lv_iload hx hb dL_acts_1279 (lv_at hl 7 rfl) ?_
  refine lv_if_eq (tgt := 1310) hx hb dL_acts_1281 (by decide) (fun c152 => ?_) (fun c152 => ?_)
  · have hF := it_t hF c152
    exact tL_acts_j1310 l D cS g cI xx xd xo hh ha z zn q la r M' C hDa N x11 x13 _ _ _ hF hP hS (lv_sub hl [0, 6, 8] rfl)
  · have hF := it_f hF c152
    refine lv_aload hx hb dL_acts_1284 (lv_at hl 3 rfl) ?_
    refine lv_bipush (v := 9) hx hb dL_acts_1286 (by decide) ?_
    refine lv_iload hx hb dL_acts_1288 (lv_at hl 8 rfl) ?_
    refine lv_imul hx hb dL_acts_1290 ?_
    refine lv_iconst (v := 3) hx hb dL_acts_1291 (by decide) ?_
    refine lv_iadd hx hb dL_acts_1292 ?_
    obtain ⟨hi, hF⟩ := rd_use hF
    refine va_iald hx hb hK hP 3 0 (pXL_3 cI cS xx xd xo hh ha z zn q la N) rfl hi dL_acts_1293 ?_
    refine lv_topi (fun v157 ev157 => ?_)
    have hF := hF v157 ev157
    refine lv_if_ne (tgt := 1310) hx hb dL_acts_1294 (by decide) (fun c158 => ?_) (fun c158 => ?_)
    · have hF := it_f hF c158
      exact tL_acts_j1310 l D cS g cI xx xd xo hh ha z zn q la r M' C hDa N x11 x13 _ _ _ hF hP hS (lv_sub hl [0, 6, 8] rfl)
    · have hF := it_t hF c158
      refine lv_aload hx hb dL_acts_1297 (lv_at hl 3 rfl) ?_
      refine lv_bipush (v := 9) hx hb dL_acts_1299 (by decide) ?_
      refine lv_iload hx hb dL_acts_1301 (lv_at hl 8 rfl) ?_
      refine lv_imul hx hb dL_acts_1303 ?_
      obtain ⟨hi, hF⟩ := rd_use hF
      refine va_iald hx hb hK hP 3 0 (pXL_3 cI cS xx xd xo hh ha z zn q la N) rfl hi dL_acts_1304 ?_
      refine lv_topi (fun v159 ev159 => ?_)
      have hF := hF v159 ev159
      refine lv_iload hx hb dL_acts_1305 (lv_at hl 5 rfl) ?_
      refine lv_icmp_eq (tgt := 1329) hx hb dL_acts_1307 (by decide) (fun c160 => ?_) (fun c160 => ?_)
      · have hF := it_t hF c160
        exact tL_acts_j1329 l D cS g cI xx xd xo hh ha z zn q la r M' C hDa N x10 x11 x13 _ _ _ hF hP hS (lv_sub hl [0, 1, 2, 3, 4, 5, 6, 8] rfl)
      · have hF := it_f hF c160
        exact tL_acts_j1310 l D cS g cI xx xd xo hh ha z zn q la r M' C hDa N x11 x13 _ _ _ hF hP hS (lv_sub hl [0, 6, 8] rfl)
set_option maxHeartbeats 4000000 in
set_option maxRecDepth 100000 in
theorem tL_acts_j1243 (l : Launch) (D : va_G) (cS : ClassId) (g : Nat → Nat) (cI : ClassId) (xx xd xo hh ha : Nat) (z : Nat → Nat → Nat) (zn q : Nat → Nat) (la : Nat → Nat) (r : Int32) (M' : XLm) {p : Program} {e : Env} {s : State} {m : MethodId} {args : Array Value} {below : List Frame} {meth : Method} {c : Code} {A : Nat → Prop} (C : CX p s m args meth c A D cI cS g cL_acts 21 (some .boolean) RL) (hDa : ∀ N, va_D A (wXL cI cS xx xd xo hh ha z zn q la N)) : ∀ (N : XLm) (x8 : Int32) (x10 : Int32) (x11 : Int32) (x12 : Int32) (H : Heap) (locs : List Loc) (ls : Array Slot), fL_acts_j1243 N x8 x10 x11 x12 = some (r, M') → va_P D vwCl (wXL cI cS xx xd xo hh ha z zn q la N) H → va_S A s.heap H locs → lv_has ls 21 [(0, .ref xx), (1, .ref (la 0)), (3, .ref (la 2)), (4, .ref (la 3)), (5, .ref (la 4)), (8, .int x8), (10, .int x10), (11, .int x11), (12, .int x12)] → W p l e rmL_acts s m args below meth c H locs 0 0 (MQ below (qI D r (wXL cI cS xx xd xo hh ha z zn q la (M')) A) args s 0 0 A) (F0 m 1243 ls []) := by
  obtain ⟨hx, hb, hr, hml, hlocks, hown, htb, hA, hK, hG⟩ := id C
  intro N x8 x10 x11 x12 H locs ls hF hP hS hl
  refine lv_iload hx hb dL_acts_1243 (lv_at hl 5 rfl) ?_
  refine lv_bipush (v := 21) hx hb dL_acts_1245 (by decide) ?_
  obtain ⟨hd, hF⟩ := dv_use hF
  refine lv_idiv hx hb dL_acts_1247 hd ?_
  refine lv_topi (fun v148 ev148 => ?_)
  have hF := hF v148 ev148
  refine lv_aload_n hx hb dL_acts_1248 rfl (lv_at hl 1 rfl) ?_
  refine lv_iconst (v := 1) hx hb dL_acts_1249 (by decide) ?_
  obtain ⟨hi, hF⟩ := rd_use hF
  refine va_iald hx hb hK hP 0 0 (pXL_0 cI cS xx xd xo hh ha z zn q la N) rfl hi dL_acts_1250 ?_
  refine lv_topi (fun v149 ev149 => ?_)
  have hF := hF v149 ev149
  obtain ⟨hd, hF⟩ := mo_use hF
  refine lv_irem hx hb dL_acts_1251 hd ?_
  refine lv_topi (fun v150 ev150 => ?_)
  have hF := hF v150 ev150
  refine lv_istore (lv' := [(13, .int v150), (0, .ref xx), (1, .ref (la 0)), (3, .ref (la 2)), (4, .ref (la 3)), (5, .ref (la 4)), (8, .int x8), (10, .int x10), (11, .int x11), (12, .int x12)]) hx hb dL_acts_1252 hl (by decide) rfl (fun ls hl => ?_)
  refine lv_iload hx hb dL_acts_1254 (lv_at hl 0 rfl) ?_
  refine lv_iload hx hb dL_acts_1256 (lv_at hl 8 rfl) ?_
  refine lv_icmp_ne (tgt := 1279) hx hb dL_acts_1258 (by decide) (fun c151 => ?_) (fun c151 => ?_)
  · have hF := it_f hF c151
    exact tL_acts_j1279 l D cS g cI xx xd xo hh ha z zn q la r M' C hDa N x10 x11 x12 v150 _ _ _ hF hP hS (lv_sub hl [1, 2, 3, 4, 5, 7, 8, 9, 0] rfl)
  · have hF := it_t hF c151
    refine lv_aload_n hx hb dL_acts_1261 rfl (lv_at hl 1 rfl) ?_
    refine lv_iload hx hb dL_acts_1262 (lv_at hl 8 rfl) ?_
    refine lv_iload hx hb dL_acts_1264 (lv_at hl 8 rfl) ?_
    obtain ⟨r218, M217, hM217, hF⟩ := b2_use hF
    refine cl_VI ⟨hx, hb, hml, hown, htb⟩ (kX8_merge l D cS g cI xx xd xo hh ha z zn q (N.1) x11 x11 _ _ hM217) (cwV 2 htb (gX8_merge bw2_209) rfl rfl rfl hdX8_merge ⟨Nat.le_of_ble_eq_true rfl, Nat.le_of_ble_eq_true rfl⟩) hK (hDa _) hG hA hP hS (sg_XL_XX cI cS xx xd xo hh ha z zn q la N M217) hl.1 rfl 0 (pXX_0 _ _ _ _ _ _ _ _ _ _ _) rfl rfl (Nat.le_of_ble_eq_true rfl) dL_acts_1266 (fun H locs hP hS => ?_)
    obtain ⟨M219, eM219⟩ : ∃ z : XLm, z = (M217, N.2) := ⟨_, rfl⟩
    have hF := nm_use hF eM219
    have hP : va_P D vwCl (wXL cI cS xx xd xo hh ha z zn q la M219) H := by rw [eM219]; exact hP
    refine lv_iconst (v := (-1)) hx hb dL_acts_1269 (by decide) ?_
    refine lv_icmp_ne (tgt := 1277) hx hb dL_acts_1270 (by decide) (fun c220 => ?_) (fun c220 => ?_)
    · have hF := it_f hF c220
      refine lv_iconst (v := 0) hx hb dL_acts_1277 (by decide) ?_
      obtain ⟨hz, hF⟩ := zb_use hF
      obtain ⟨er, eM⟩ := pr_use hF
      exact rt_Z hx hb hr hlocks hS (by rw [← eM]; exact hP) hz er dL_acts_1278
    · have hF := it_t hF c220
      refine lv_iconst (v := 1) hx hb dL_acts_1273 (by decide) ?_
      refine lv_goto (tgt := 1278) hx hb dL_acts_1274 (by decide) ?_
      obtain ⟨hz, hF⟩ := zb_use hF
      obtain ⟨er, eM⟩ := pr_use hF
      exact rt_Z hx hb hr hlocks hS (by rw [← eM]; exact hP) hz er dL_acts_1278
set_option maxHeartbeats 4000000 in
set_option maxRecDepth 100000 in
theorem tL_acts_j1236 (l : Launch) (D : va_G) (cS : ClassId) (g : Nat → Nat) (cI : ClassId) (xx xd xo hh ha : Nat) (z : Nat → Nat → Nat) (zn q : Nat → Nat) (la : Nat → Nat) (r : Int32) (M' : XLm) {p : Program} {e : Env} {s : State} {m : MethodId} {args : Array Value} {below : List Frame} {meth : Method} {c : Code} {A : Nat → Prop} (C : CX p s m args meth c A D cI cS g cL_acts 21 (some .boolean) RL) (hDa : ∀ N, va_D A (wXL cI cS xx xd xo hh ha z zn q la N)) : ∀ (N : XLm) (x8 : Int32) (x9 : Int32) (x10 : Int32) (x11 : Int32) (x12 : Int32) (H : Heap) (locs : List Loc) (ls : Array Slot), fL_acts_j1236 N x8 x9 x10 x11 x12 = some (r, M') → va_P D vwCl (wXL cI cS xx xd xo hh ha z zn q la N) H → va_S A s.heap H locs → lv_has ls 21 [(0, .ref xx), (1, .ref (la 0)), (2, .ref (la 1)), (3, .ref (la 2)), (4, .ref (la 3)), (5, .ref (la 4)), (6, .ref (la 5)), (8, .int x8), (9, .int x9), (10, .int x10), (11, .int x11), (12, .int x12)] → W p l e rmL_acts s m args below meth c H locs 0 0 (MQ below (qI D r (wXL cI cS xx xd xo hh ha z zn q la (M')) A) args s 0 0 A) (F0 m 1236 ls []) := by
  obtain ⟨hx, hb, hr, hml, hlocks, hown, htb, hA, hK, hG⟩ := id C
  intro N x8 x9 x10 x11 x12 H locs ls hF hP hS hl
  refine lv_iload hx hb dL_acts_1236 (lv_at hl 8 rfl) ?_
  refine lv_bipush (v := 20) hx hb dL_acts_1238 (by decide) ?_
  refine lv_icmp_ge (tgt := 1617) hx hb dL_acts_1240 (by decide) (fun c66 => ?_) (fun c66 => ?_)
  · have hF := it_t hF c66
    exact tL_acts_j1617 l D cS g cI xx xd xo hh ha z zn q la r M' C hDa N x8 x9 x10 x11 _ _ _ hF hP hS (lv_sub hl [0, 1, 2, 3, 4, 5, 6, 7, 8, 9, 10] rfl)
  · have hF := it_f hF c66
    exact tL_acts_j1243 l D cS g cI xx xd xo hh ha z zn q la r M' C hDa N x8 x10 x11 x12 _ _ _ hF hP hS (lv_sub hl [0, 1, 3, 4, 5, 7, 9, 10, 11] rfl)
set_option maxHeartbeats 4000000 in
set_option maxRecDepth 100000 in
theorem tL_acts_j1192 (l : Launch) (D : va_G) (cS : ClassId) (g : Nat → Nat) (cI : ClassId) (xx xd xo hh ha : Nat) (z : Nat → Nat → Nat) (zn q : Nat → Nat) (la : Nat → Nat) (r : Int32) (M' : XLm) {p : Program} {e : Env} {s : State} {m : MethodId} {args : Array Value} {below : List Frame} {meth : Method} {c : Code} {A : Nat → Prop} (C : CX p s m args meth c A D cI cS g cL_acts 21 (some .boolean) RL) (hDa : ∀ N, va_D A (wXL cI cS xx xd xo hh ha z zn q la N)) : ∀ (N : XLm) (x11 : Int32) (s0 : Int32) (H : Heap) (locs : List Loc) (ls : Array Slot), fL_acts_j1192 N x11 s0 = some (r, M') → va_P D vwCl (wXL cI cS xx xd xo hh ha z zn q la N) H → va_S A s.heap H locs → lv_has ls 21 [(0, .ref xx), (1, .ref (la 0)), (4, .ref (la 3)), (5, .ref (la 4)), (6, .ref (la 5)), (11, .int x11)] → W p l e rmL_acts s m args below meth c H locs 0 0 (MQ below (qI D r (wXL cI cS xx xd xo hh ha z zn q la (M')) A) args s 0 0 A) (F0 m 1192 ls [.int s0]) := by
  obtain ⟨hx, hb, hr, hml, hlocks, hown, htb, hA, hK, hG⟩ := id C
  intro N x11 s0 H locs ls hF hP hS hl
  refine lv_istore (lv' := [(14, .int s0), (0, .ref xx), (1, .ref (la 0)), (4, .ref (la 3)), (5, .ref (la 4)), (6, .ref (la 5)), (11, .int x11)]) hx hb dL_acts_1192 hl (by decide) rfl (fun ls hl => ?_)
  refine lv_aload_n hx hb dL_acts_1194 rfl (lv_at hl 2 rfl) ?_
  refine lv_aload hx hb dL_acts_1195 (lv_at hl 3 rfl) ?_
  refine lv_aload hx hb dL_acts_1197 (lv_at hl 4 rfl) ?_
  refine lv_aload hx hb dL_acts_1199 (lv_at hl 5 rfl) ?_
  refine lv_iload hx hb dL_acts_1201 (lv_at hl 6 rfl) ?_
  refine lv_iload hx hb dL_acts_1203 (lv_at hl 0 rfl) ?_
  obtain ⟨M227, hM227, hF⟩ := bd_use hF
  refine cl_SVw ⟨hx, hb, hml, hown, htb⟩ (kL_refunds l D cS g cI la (N.2) x11 s0 _ hM227) (va_cwS 6 htb (gL_refunds bw3_19) rfl rfl rfl hdL_refunds ⟨Nat.le_of_ble_eq_true rfl, Nat.le_of_ble_eq_true rfl⟩) hK (hDa _) hG hA hP hS (sg_XL_LA cI cS xx xd xo hh ha z zn q la N M227) hl.1 rfl rfl (Nat.le_of_ble_eq_true rfl) dL_acts_1205 (fun H locs hP hS => ?_)
  obtain ⟨M228, eM228⟩ : ∃ z : XLm, z = (N.1, M227) := ⟨_, rfl⟩
  have hF := nm_use hF eM228
  have hP : va_P D vwCl (wXL cI cS xx xd xo hh ha z zn q la M228) H := by rw [eM228]; exact hP
  refine lv_aload hx hb dL_acts_1208 (lv_at hl 3 rfl) ?_
  refine lv_bipush (v := 9) hx hb dL_acts_1210 (by decide) ?_
  refine lv_iload hx hb dL_acts_1212 (lv_at hl 6 rfl) ?_
  refine lv_imul hx hb dL_acts_1214 ?_
  refine lv_iconst (v := 3) hx hb dL_acts_1215 (by decide) ?_
  refine lv_iadd hx hb dL_acts_1216 ?_
  refine lv_iconst (v := 2) hx hb dL_acts_1217 (by decide) ?_
  obtain ⟨hi, hF⟩ := wr_use hF
  refine va_iast hx hb hK hP (hDa _) hS 3 0 (pXL_3 cI cS xx xd xo hh ha z zn q la M228) rfl hi dL_acts_1218 (fun H locs hP _ hS => ?_)
  obtain ⟨M230, eM230⟩ : ∃ z : XLm, z = (M228.1, (M228.2.1, M228.2.2.1, M228.2.2.2.1, (upd (M228.2.2.2.2.1) ((9 * x11) + 3 : Int32).toNatClampNeg 2), M228.2.2.2.2.2)) := ⟨_, rfl⟩
  have hF := nm_use hF eM230
  have hP : va_P D vwCl (wXL cI cS xx xd xo hh ha z zn q la M230) H := by rw [eM230]; exact hP
  refine lv_aload_n hx hb dL_acts_1219 rfl (lv_at hl 1 rfl) ?_
  refine lv_iload hx hb dL_acts_1220 (lv_at hl 6 rfl) ?_
  obtain ⟨r232, M231, hM231, hF⟩ := b2_use hF
  refine cl_VI ⟨hx, hb, hml, hown, htb⟩ (kX8_cancel l D cS g cI xx xd xo hh ha z zn q (M230.1) x11 _ _ hM231) (cwV 1 htb (gX8_cancel bw2_164) rfl rfl rfl hdX8_cancel ⟨Nat.le_of_ble_eq_true rfl, Nat.le_of_ble_eq_true rfl⟩) hK (hDa _) hG hA hP hS (sg_XL_XX cI cS xx xd xo hh ha z zn q la M230 M231) hl.1 rfl 0 (pXX_0 _ _ _ _ _ _ _ _ _ _ _) rfl rfl (Nat.le_of_ble_eq_true rfl) dL_acts_1222 (fun H locs hP hS => ?_)
  obtain ⟨M233, eM233⟩ : ∃ z : XLm, z = (M231, M230.2) := ⟨_, rfl⟩
  have hF := nm_use hF eM233
  have hP : va_P D vwCl (wXL cI cS xx xd xo hh ha z zn q la M233) H := by rw [eM233]; exact hP
  refine lv_iload hx hb dL_acts_1225 (lv_at hl 0 rfl) ?_
  refine lv_icmp_ne (tgt := 1234) hx hb dL_acts_1227 (by decide) (fun c234 => ?_) (fun c234 => ?_)
  · have hF := it_f hF c234
    refine lv_iconst (v := 0) hx hb dL_acts_1234 (by decide) ?_
    obtain ⟨hz, hF⟩ := zb_use hF
    obtain ⟨er, eM⟩ := pr_use hF
    exact rt_Z hx hb hr hlocks hS (by rw [← eM]; exact hP) hz er dL_acts_1235
  · have hF := it_t hF c234
    refine lv_iconst (v := 1) hx hb dL_acts_1230 (by decide) ?_
    refine lv_goto (tgt := 1235) hx hb dL_acts_1231 (by decide) ?_
    obtain ⟨hz, hF⟩ := zb_use hF
    obtain ⟨er, eM⟩ := pr_use hF
    exact rt_Z hx hb hr hlocks hS (by rw [← eM]; exact hP) hz er dL_acts_1235
set_option maxHeartbeats 4000000 in
set_option maxRecDepth 100000 in
theorem tL_acts_j1155 (l : Launch) (D : va_G) (cS : ClassId) (g : Nat → Nat) (cI : ClassId) (xx xd xo hh ha : Nat) (z : Nat → Nat → Nat) (zn q : Nat → Nat) (la : Nat → Nat) (r : Int32) (M' : XLm) {p : Program} {e : Env} {s : State} {m : MethodId} {args : Array Value} {below : List Frame} {meth : Method} {c : Code} {A : Nat → Prop} (C : CX p s m args meth c A D cI cS g cL_acts 21 (some .boolean) RL) (hDa : ∀ N, va_D A (wXL cI cS xx xd xo hh ha z zn q la N)) : ∀ (N : XLm) (x11 : Int32) (H : Heap) (locs : List Loc) (ls : Array Slot), fL_acts_j1155 N x11 = some (r, M') → va_P D vwCl (wXL cI cS xx xd xo hh ha z zn q la N) H → va_S A s.heap H locs → lv_has ls 21 [(0, .ref xx), (1, .ref (la 0)), (2, .ref (la 1)), (3, .ref (la 2)), (4, .ref (la 3)), (5, .ref (la 4)), (6, .ref (la 5)), (11, .int x11)] → W p l e rmL_acts s m args below meth c H locs 0 0 (MQ below (qI D r (wXL cI cS xx xd xo hh ha z zn q la (M')) A) args s 0 0 A) (F0 m 1155 ls []) := by
  obtain ⟨hx, hb, hr, hml, hlocks, hown, htb, hA, hK, hG⟩ := id C
  intro N x11 H locs ls hF hP hS hl
  refine lv_aload_n hx hb dL_acts_1155 rfl (lv_at hl 1 rfl) ?_
  refine lv_aload hx hb dL_acts_1156 (lv_at hl 4 rfl) ?_
  refine lv_aload hx hb dL_acts_1158 (lv_at hl 5 rfl) ?_
  refine lv_iload hx hb dL_acts_1160 (lv_at hl 7 rfl) ?_
  obtain ⟨r222, hr222, hF⟩ := bd_use hF
  refine cl_SI ⟨hx, hb, hml, hown, htb⟩ (kL_paid l D cS g cI la (N.2) x11 _ hr222) (va_cwS 4 htb (gL_paid bw3_10) rfl rfl rfl hdL_paid ⟨Nat.le_of_ble_eq_true rfl, Nat.le_of_ble_eq_true rfl⟩) hK (hDa _) hG hA hP hS (sr_XL_LA cI cS xx xd xo hh ha z zn q la N) hl.1 rfl rfl (Nat.le_of_ble_eq_true rfl) dL_acts_1162 (fun H locs hP hS => ?_)
  refine lv_istore (lv' := [(13, .int r222), (0, .ref xx), (1, .ref (la 0)), (2, .ref (la 1)), (3, .ref (la 2)), (4, .ref (la 3)), (5, .ref (la 4)), (6, .ref (la 5)), (11, .int x11)]) hx hb dL_acts_1165 hl (by decide) rfl (fun ls hl => ?_)
  refine lv_aload_n hx hb dL_acts_1167 rfl (lv_at hl 2 rfl) ?_
  refine lv_aload_n hx hb dL_acts_1168 rfl (lv_at hl 4 rfl) ?_
  refine lv_aload hx hb dL_acts_1169 (lv_at hl 5 rfl) ?_
  refine lv_iload hx hb dL_acts_1171 (lv_at hl 8 rfl) ?_
  refine lv_iconst (v := 0) hx hb dL_acts_1173 (by decide) ?_
  obtain ⟨r223, hr223, hF⟩ := bd_use hF
  refine cl_SI ⟨hx, hb, hml, hown, htb⟩ (kL_late l D cS g cI la (N.2) x11 0 _ hr223) (va_cwS 5 htb (gL_late bw3_13) rfl rfl rfl hdL_late ⟨Nat.le_of_ble_eq_true rfl, Nat.le_of_ble_eq_true rfl⟩) hK (hDa _) hG hA hP hS (sr_XL_LA cI cS xx xd xo hh ha z zn q la N) hl.1 rfl rfl (Nat.le_of_ble_eq_true rfl) dL_acts_1174 (fun H locs hP hS => ?_)
  refine lv_aload_n hx hb dL_acts_1177 rfl (lv_at hl 3 rfl) ?_
  refine lv_iconst (v := 3) hx hb dL_acts_1178 (by decide) ?_
  obtain ⟨hi, hF⟩ := rd_use hF
  refine va_iald hx hb hK hP 1 0 (pXL_1 cI cS xx xd xo hh ha z zn q la N) rfl hi dL_acts_1179 ?_
  refine lv_topi (fun v224 ev224 => ?_)
  have hF := hF v224 ev224
  refine lv_icmp_le (tgt := 1188) hx hb dL_acts_1180 (by decide) (fun c225 => ?_) (fun c225 => ?_)
  · have hF := it_t hF c225
    refine lv_iload hx hb dL_acts_1188 (lv_at hl 0 rfl) ?_
    refine lv_iconst (v := 2) hx hb dL_acts_1190 (by decide) ?_
    obtain ⟨hd, hF⟩ := dv_use hF
    refine lv_idiv hx hb dL_acts_1191 hd ?_
    refine lv_topi (fun v226 ev226 => ?_)
    have hF := hF v226 ev226
    exact tL_acts_j1192 l D cS g cI xx xd xo hh ha z zn q la r M' C hDa N x11 v226 _ _ _ hF hP hS (lv_sub hl [1, 2, 5, 6, 7, 8] rfl)
  · have hF := it_f hF c225
    refine lv_iload hx hb dL_acts_1183 (lv_at hl 0 rfl) ?_
    refine lv_goto (tgt := 1192) hx hb dL_acts_1185 (by decide) ?_
    exact tL_acts_j1192 l D cS g cI xx xd xo hh ha z zn q la r M' C hDa N x11 r222 _ _ _ hF hP hS (lv_sub hl [1, 2, 5, 6, 7, 8] rfl)
set_option maxHeartbeats 4000000 in
set_option maxRecDepth 100000 in
theorem tL_acts_j1133 (l : Launch) (D : va_G) (cS : ClassId) (g : Nat → Nat) (cI : ClassId) (xx xd xo hh ha : Nat) (z : Nat → Nat → Nat) (zn q : Nat → Nat) (la : Nat → Nat) (r : Int32) (M' : XLm) {p : Program} {e : Env} {s : State} {m : MethodId} {args : Array Value} {below : List Frame} {meth : Method} {c : Code} {A : Nat → Prop} (C : CX p s m args meth c A D cI cS g cL_acts 21 (some .boolean) RL) (hDa : ∀ N, va_D A (wXL cI cS xx xd xo hh ha z zn q la N)) : ∀ (N : XLm) (x11 : Int32) (x12 : Int32) (H : Heap) (locs : List Loc) (ls : Array Slot), fL_acts_j1133 N x11 x12 = some (r, M') → va_P D vwCl (wXL cI cS xx xd xo hh ha z zn q la N) H → va_S A s.heap H locs → lv_has ls 21 [(0, .ref xx), (1, .ref (la 0)), (2, .ref (la 1)), (3, .ref (la 2)), (4, .ref (la 3)), (5, .ref (la 4)), (6, .ref (la 5)), (11, .int x11), (12, .int x12)] → W p l e rmL_acts s m args below meth c H locs 0 0 (MQ below (qI D r (wXL cI cS xx xd xo hh ha z zn q la (M')) A) args s 0 0 A) (F0 m 1133 ls []) := by
  obtain ⟨hx, hb, hr, hml, hlocks, hown, htb, hA, hK, hG⟩ := id C
  intro N x11 x12 H locs ls hF hP hS hl
  refine lv_iload hx hb dL_acts_1133 (lv_at hl 8 rfl) ?_
  refine lv_if_ne (tgt := 1155) hx hb dL_acts_1135 (by decide) (fun c221 => ?_) (fun c221 => ?_)
  · have hF := it_f hF c221
    exact tL_acts_j1155 l D cS g cI xx xd xo hh ha z zn q la r M' C hDa N x11 _ _ _ hF hP hS (lv_sub hl [0, 1, 2, 3, 4, 5, 6, 7] rfl)
  · have hF := it_t hF c221
    refine lv_aload_n hx hb dL_acts_1138 rfl (lv_at hl 0 rfl) ?_
    refine lv_iload hx hb dL_acts_1139 (lv_at hl 7 rfl) ?_
    obtain ⟨r236, M235, hM235, hF⟩ := b2_use hF
    refine cl_VI ⟨hx, hb, hml, hown, htb⟩ (kX8_cancel l D cS g cI xx xd xo hh ha z zn q (N.1) x11 _ _ hM235) (cwV 1 htb (gX8_cancel bw2_164) rfl rfl rfl hdX8_cancel ⟨Nat.le_of_ble_eq_true rfl, Nat.le_of_ble_eq_true rfl⟩) hK (hDa _) hG hA hP hS (sg_XL_XX cI cS xx xd xo hh ha z zn q la N M235) hl.1 rfl 0 (pXX_0 _ _ _ _ _ _ _ _ _ _ _) rfl rfl (Nat.le_of_ble_eq_true rfl) dL_acts_1141 (fun H locs hP hS => ?_)
    obtain ⟨M237, eM237⟩ : ∃ z : XLm, z = (M235, N.2) := ⟨_, rfl⟩
    have hF := nm_use hF eM237
    have hP : va_P D vwCl (wXL cI cS xx xd xo hh ha z zn q la M237) H := by rw [eM237]; exact hP
    refine lv_bipush (v := (-2)) hx hb dL_acts_1144 (by decide) ?_
    refine lv_icmp_ne (tgt := 1153) hx hb dL_acts_1146 (by decide) (fun c238 => ?_) (fun c238 => ?_)
    · have hF := it_f hF c238
      refine lv_iconst (v := 0) hx hb dL_acts_1153 (by decide) ?_
      obtain ⟨hz, hF⟩ := zb_use hF
      obtain ⟨er, eM⟩ := pr_use hF
      exact rt_Z hx hb hr hlocks hS (by rw [← eM]; exact hP) hz er dL_acts_1154
    · have hF := it_t hF c238
      refine lv_iconst (v := 1) hx hb dL_acts_1149 (by decide) ?_
      refine lv_goto (tgt := 1154) hx hb dL_acts_1150 (by decide) ?_
      obtain ⟨hz, hF⟩ := zb_use hF
      obtain ⟨er, eM⟩ := pr_use hF
      exact rt_Z hx hb hr hlocks hS (by rw [← eM]; exact hP) hz er dL_acts_1154
set_option maxHeartbeats 4000000 in
set_option maxRecDepth 100000 in
theorem tL_acts_j1126 (l : Launch) (D : va_G) (cS : ClassId) (g : Nat → Nat) (cI : ClassId) (xx xd xo hh ha : Nat) (z : Nat → Nat → Nat) (zn q : Nat → Nat) (la : Nat → Nat) (r : Int32) (M' : XLm) {p : Program} {e : Env} {s : State} {m : MethodId} {args : Array Value} {below : List Frame} {meth : Method} {c : Code} {A : Nat → Prop} (C : CX p s m args meth c A D cI cS g cL_acts 21 (some .boolean) RL) (hDa : ∀ N, va_D A (wXL cI cS xx xd xo hh ha z zn q la N)) : ∀ (N : XLm) (x8 : Int32) (x9 : Int32) (x10 : Int32) (x11 : Int32) (x12 : Int32) (H : Heap) (locs : List Loc) (ls : Array Slot), fL_acts_j1126 N x8 x9 x10 x11 x12 = some (r, M') → va_P D vwCl (wXL cI cS xx xd xo hh ha z zn q la N) H → va_S A s.heap H locs → lv_has ls 21 [(0, .ref xx), (1, .ref (la 0)), (2, .ref (la 1)), (3, .ref (la 2)), (4, .ref (la 3)), (5, .ref (la 4)), (6, .ref (la 5)), (8, .int x8), (9, .int x9), (10, .int x10), (11, .int x11), (12, .int x12)] → W p l e rmL_acts s m args below meth c H locs 0 0 (MQ below (qI D r (wXL cI cS xx xd xo hh ha z zn q la (M')) A) args s 0 0 A) (F0 m 1126 ls []) := by
  obtain ⟨hx, hb, hr, hml, hlocks, hown, htb, hA, hK, hG⟩ := id C
  intro N x8 x9 x10 x11 x12 H locs ls hF hP hS hl
  refine lv_iload hx hb dL_acts_1126 (lv_at hl 8 rfl) ?_
  refine lv_bipush (v := 16) hx hb dL_acts_1128 (by decide) ?_
  refine lv_icmp_ne (tgt := 1236) hx hb dL_acts_1130 (by decide) (fun c65 => ?_) (fun c65 => ?_)
  · have hF := it_f hF c65
    exact tL_acts_j1236 l D cS g cI xx xd xo hh ha z zn q la r M' C hDa N x8 x9 x10 x11 x12 _ _ _ hF hP hS (lv_sub hl [0, 1, 2, 3, 4, 5, 6, 7, 8, 9, 10, 11] rfl)
  · have hF := it_t hF c65
    exact tL_acts_j1133 l D cS g cI xx xd xo hh ha z zn q la r M' C hDa N x11 x12 _ _ _ hF hP hS (lv_sub hl [0, 1, 2, 3, 4, 5, 6, 10, 11] rfl)
set_option maxHeartbeats 4000000 in
set_option maxRecDepth 100000 in
theorem tL_acts_j1064 (l : Launch) (D : va_G) (cS : ClassId) (g : Nat → Nat) (cI : ClassId) (xx xd xo hh ha : Nat) (z : Nat → Nat → Nat) (zn q : Nat → Nat) (la : Nat → Nat) (r : Int32) (M' : XLm) {p : Program} {e : Env} {s : State} {m : MethodId} {args : Array Value} {below : List Frame} {meth : Method} {c : Code} {A : Nat → Prop} (C : CX p s m args meth c A D cI cS g cL_acts 21 (some .boolean) RL) (hDa : ∀ N, va_D A (wXL cI cS xx xd xo hh ha z zn q la N)) : ∀ (N : XLm) (x11 : Int32) (x13 : Int32) (H : Heap) (locs : List Loc) (ls : Array Slot), fL_acts_j1064 N x11 x13 = some (r, M') → va_P D vwCl (wXL cI cS xx xd xo hh ha z zn q la N) H → va_S A s.heap H locs → lv_has ls 21 [(0, .ref xx), (11, .int x11), (13, .int x13)] → W p l e rmL_acts s m args below meth c H locs 0 0 (MQ below (qI D r (wXL cI cS xx xd xo hh ha z zn q la (M')) A) args s 0 0 A) (F0 m 1064 ls []) := by
  obtain ⟨hx, hb, hr, hml, hlocks, hown, htb, hA, hK, hG⟩ := id C
  intro N x11 x13 H locs ls hF hP hS hl
  refine lv_aload_n hx hb dL_acts_1064 rfl (lv_at hl 0 rfl) ?_
  refine lv_iload hx hb dL_acts_1065 (lv_at hl 1 rfl) ?_
  refine lv_iload hx hb dL_acts_1067 (lv_at hl 2 rfl) ?_
  obtain ⟨r243, M242, hM242, hF⟩ := b2_use hF
  refine cl_VI ⟨hx, hb, hml, hown, htb⟩ (kX8_move l D cS g cI xx xd xo hh ha z zn q (N.1) x11 x13 _ _ hM242) (cwV 2 htb (gX8_move bw2_201) rfl rfl rfl hdX8_move ⟨Nat.le_of_ble_eq_true rfl, Nat.le_of_ble_eq_true rfl⟩) hK (hDa _) hG hA hP hS (sg_XL_XX cI cS xx xd xo hh ha z zn q la N M242) hl.1 rfl 0 (pXX_0 _ _ _ _ _ _ _ _ _ _ _) rfl rfl (Nat.le_of_ble_eq_true rfl) dL_acts_1069 (fun H locs hP hS => ?_)
  obtain ⟨M244, eM244⟩ : ∃ z : XLm, z = (M242, N.2) := ⟨_, rfl⟩
  have hF := nm_use hF eM244
  have hP : va_P D vwCl (wXL cI cS xx xd xo hh ha z zn q la M244) H := by rw [eM244]; exact hP
  refine lv_bipush (v := (-2)) hx hb dL_acts_1072 (by decide) ?_
  refine lv_icmp_ne (tgt := 1081) hx hb dL_acts_1074 (by decide) (fun c245 => ?_) (fun c245 => ?_)
  · have hF := it_f hF c245
    refine lv_iconst (v := 0) hx hb dL_acts_1081 (by decide) ?_
    obtain ⟨hz, hF⟩ := zb_use hF
    obtain ⟨er, eM⟩ := pr_use hF
    exact rt_Z hx hb hr hlocks hS (by rw [← eM]; exact hP) hz er dL_acts_1082
  · have hF := it_t hF c245
    refine lv_iconst (v := 1) hx hb dL_acts_1077 (by decide) ?_
    refine lv_goto (tgt := 1082) hx hb dL_acts_1078 (by decide) ?_
    obtain ⟨hz, hF⟩ := zb_use hF
    obtain ⟨er, eM⟩ := pr_use hF
    exact rt_Z hx hb hr hlocks hS (by rw [← eM]; exact hP) hz er dL_acts_1082
set_option maxHeartbeats 4000000 in
set_option maxRecDepth 100000 in
theorem tL_acts_j1083 (l : Launch) (D : va_G) (cS : ClassId) (g : Nat → Nat) (cI : ClassId) (xx xd xo hh ha : Nat) (z : Nat → Nat → Nat) (zn q : Nat → Nat) (la : Nat → Nat) (r : Int32) (M' : XLm) {p : Program} {e : Env} {s : State} {m : MethodId} {args : Array Value} {below : List Frame} {meth : Method} {c : Code} {A : Nat → Prop} (C : CX p s m args meth c A D cI cS g cL_acts 21 (some .boolean) RL) (hDa : ∀ N, va_D A (wXL cI cS xx xd xo hh ha z zn q la N)) : ∀ (N : XLm) (x11 : Int32) (x13 : Int32) (H : Heap) (locs : List Loc) (ls : Array Slot), fL_acts_j1083 N x11 x13 = some (r, M') → va_P D vwCl (wXL cI cS xx xd xo hh ha z zn q la N) H → va_S A s.heap H locs → lv_has ls 21 [(0, .ref xx), (4, .ref (la 3)), (11, .int x11), (13, .int x13)] → W p l e rmL_acts s m args below meth c H locs 0 0 (MQ below (qI D r (wXL cI cS xx xd xo hh ha z zn q la (M')) A) args s 0 0 A) (F0 m 1083 ls []) := by
  obtain ⟨hx, hb, hr, hml, hlocks, hown, htb, hA, hK, hG⟩ := id C
  intro N x11 x13 H locs ls hF hP hS hl
  refine lv_aload hx hb dL_acts_1083 (lv_at hl 1 rfl) ?_
  refine lv_bipush (v := 9) hx hb dL_acts_1085 (by decide) ?_
  refine lv_iload hx hb dL_acts_1087 (lv_at hl 2 rfl) ?_
  refine lv_imul hx hb dL_acts_1089 ?_
  refine lv_iconst (v := 1) hx hb dL_acts_1090 (by decide) ?_
  refine lv_iadd hx hb dL_acts_1091 ?_
  obtain ⟨hi, hF⟩ := rd_use hF
  refine va_iald hx hb hK hP 3 0 (pXL_3 cI cS xx xd xo hh ha z zn q la N) rfl hi dL_acts_1092 ?_
  refine lv_topi (fun v248 ev248 => ?_)
  have hF := hF v248 ev248
  refine lv_istore (lv' := [(14, .int v248), (0, .ref xx), (4, .ref (la 3)), (11, .int x11), (13, .int x13)]) hx hb dL_acts_1093 hl (by decide) rfl (fun ls hl => ?_)
  refine lv_aload hx hb dL_acts_1095 (lv_at hl 2 rfl) ?_
  refine lv_bipush (v := 9) hx hb dL_acts_1097 (by decide) ?_
  refine lv_iload hx hb dL_acts_1099 (lv_at hl 3 rfl) ?_
  refine lv_imul hx hb dL_acts_1101 ?_
  refine lv_iconst (v := 1) hx hb dL_acts_1102 (by decide) ?_
  refine lv_iadd hx hb dL_acts_1103 ?_
  refine lv_iload hx hb dL_acts_1104 (lv_at hl 4 rfl) ?_
  obtain ⟨hi, hF⟩ := wr_use hF
  refine va_iast hx hb hK hP (hDa _) hS 3 0 (pXL_3 cI cS xx xd xo hh ha z zn q la N) rfl hi dL_acts_1106 (fun H locs hP _ hS => ?_)
  obtain ⟨M250, eM250⟩ : ∃ z : XLm, z = (N.1, (N.2.1, N.2.2.1, N.2.2.2.1, (upd (N.2.2.2.2.1) ((9 * x11) + 1 : Int32).toNatClampNeg x13), N.2.2.2.2.2)) := ⟨_, rfl⟩
  have hF := nm_use hF eM250
  have hP : va_P D vwCl (wXL cI cS xx xd xo hh ha z zn q la M250) H := by rw [eM250]; exact hP
  refine lv_aload_n hx hb dL_acts_1107 rfl (lv_at hl 1 rfl) ?_
  refine lv_iload hx hb dL_acts_1108 (lv_at hl 3 rfl) ?_
  refine lv_iload hx hb dL_acts_1110 (lv_at hl 4 rfl) ?_
  obtain ⟨r252, M251, hM251, hF⟩ := b2_use hF
  refine cl_VI ⟨hx, hb, hml, hown, htb⟩ (kX8_move l D cS g cI xx xd xo hh ha z zn q (M250.1) x11 x13 _ _ hM251) (cwV 2 htb (gX8_move bw2_201) rfl rfl rfl hdX8_move ⟨Nat.le_of_ble_eq_true rfl, Nat.le_of_ble_eq_true rfl⟩) hK (hDa _) hG hA hP hS (sg_XL_XX cI cS xx xd xo hh ha z zn q la M250 M251) hl.1 rfl 0 (pXX_0 _ _ _ _ _ _ _ _ _ _ _) rfl rfl (Nat.le_of_ble_eq_true rfl) dL_acts_1112 (fun H locs hP hS => ?_)
  obtain ⟨M253, eM253⟩ : ∃ z : XLm, z = (M251, M250.2) := ⟨_, rfl⟩
  have hF := nm_use hF eM253
  have hP : va_P D vwCl (wXL cI cS xx xd xo hh ha z zn q la M253) H := by rw [eM253]; exact hP
  refine lv_iload hx hb dL_acts_1115 (lv_at hl 0 rfl) ?_
  refine lv_icmp_ne (tgt := 1124) hx hb dL_acts_1117 (by decide) (fun c254 => ?_) (fun c254 => ?_)
  · have hF := it_f hF c254
    refine lv_iconst (v := 0) hx hb dL_acts_1124 (by decide) ?_
    obtain ⟨hz, hF⟩ := zb_use hF
    obtain ⟨er, eM⟩ := pr_use hF
    exact rt_Z hx hb hr hlocks hS (by rw [← eM]; exact hP) hz er dL_acts_1125
  · have hF := it_t hF c254
    refine lv_iconst (v := 1) hx hb dL_acts_1120 (by decide) ?_
    refine lv_goto (tgt := 1125) hx hb dL_acts_1121 (by decide) ?_
    obtain ⟨hz, hF⟩ := zb_use hF
    obtain ⟨er, eM⟩ := pr_use hF
    exact rt_Z hx hb hr hlocks hS (by rw [← eM]; exact hP) hz er dL_acts_1125
set_option maxHeartbeats 4000000 in
set_option maxRecDepth 100000 in
theorem tL_acts_j1032 (l : Launch) (D : va_G) (cS : ClassId) (g : Nat → Nat) (cI : ClassId) (xx xd xo hh ha : Nat) (z : Nat → Nat → Nat) (zn q : Nat → Nat) (la : Nat → Nat) (r : Int32) (M' : XLm) {p : Program} {e : Env} {s : State} {m : MethodId} {args : Array Value} {below : List Frame} {meth : Method} {c : Code} {A : Nat → Prop} (C : CX p s m args meth c A D cI cS g cL_acts 21 (some .boolean) RL) (hDa : ∀ N, va_D A (wXL cI cS xx xd xo hh ha z zn q la N)) : ∀ (N : XLm) (x8 : Int32) (x10 : Int32) (x11 : Int32) (x12 : Int32) (H : Heap) (locs : List Loc) (ls : Array Slot), fL_acts_j1032 N x8 x10 x11 x12 = some (r, M') → va_P D vwCl (wXL cI cS xx xd xo hh ha z zn q la N) H → va_S A s.heap H locs → lv_has ls 21 [(0, .ref xx), (1, .ref (la 0)), (3, .ref (la 2)), (4, .ref (la 3)), (8, .int x8), (10, .int x10), (11, .int x11), (12, .int x12)] → W p l e rmL_acts s m args below meth c H locs 0 0 (MQ below (qI D r (wXL cI cS xx xd xo hh ha z zn q la (M')) A) args s 0 0 A) (F0 m 1032 ls []) := by
  obtain ⟨hx, hb, hr, hml, hlocks, hown, htb, hA, hK, hG⟩ := id C
  intro N x8 x10 x11 x12 H locs ls hF hP hS hl
  refine lv_iload hx hb dL_acts_1032 (lv_at hl 4 rfl) ?_
  refine lv_bipush (v := 21) hx hb dL_acts_1034 (by decide) ?_
  obtain ⟨hd, hF⟩ := dv_use hF
  refine lv_idiv hx hb dL_acts_1036 hd ?_
  refine lv_topi (fun v239 ev239 => ?_)
  have hF := hF v239 ev239
  refine lv_sipush (v := 721) hx hb dL_acts_1037 (by decide) ?_
  obtain ⟨hd, hF⟩ := mo_use hF
  refine lv_irem hx hb dL_acts_1040 hd ?_
  refine lv_topi (fun v240 ev240 => ?_)
  have hF := hF v240 ev240
  refine lv_istore (lv' := [(13, .int v240), (0, .ref xx), (1, .ref (la 0)), (3, .ref (la 2)), (4, .ref (la 3)), (8, .int x8), (10, .int x10), (11, .int x11), (12, .int x12)]) hx hb dL_acts_1041 hl (by decide) rfl (fun ls hl => ?_)
  refine lv_iload hx hb dL_acts_1043 (lv_at hl 8 rfl) ?_
  refine lv_if_eq (tgt := 1064) hx hb dL_acts_1045 (by decide) (fun c241 => ?_) (fun c241 => ?_)
  · have hF := it_t hF c241
    exact tL_acts_j1064 l D cS g cI xx xd xo hh ha z zn q la r M' C hDa N x11 v240 _ _ _ hF hP hS (lv_sub hl [1, 7, 0] rfl)
  · have hF := it_f hF c241
    refine lv_aload_n hx hb dL_acts_1048 rfl (lv_at hl 2 rfl) ?_
    refine lv_aload_n hx hb dL_acts_1049 rfl (lv_at hl 3 rfl) ?_
    refine lv_aload hx hb dL_acts_1050 (lv_at hl 4 rfl) ?_
    refine lv_iload hx hb dL_acts_1052 (lv_at hl 6 rfl) ?_
    refine lv_iload hx hb dL_acts_1054 (lv_at hl 0 rfl) ?_
    refine lv_iload hx hb dL_acts_1056 (lv_at hl 7 rfl) ?_
    obtain ⟨r246, hr246, hF⟩ := bd_use hF
    refine cl_SI ⟨hx, hb, hml, hown, htb⟩ (kL_may l D cS g cI la (N.2) x10 v240 x11 _ hr246) (va_cwS 6 htb (gL_may bw2_100) rfl rfl rfl hdL_may ⟨Nat.le_of_ble_eq_true rfl, Nat.le_of_ble_eq_true rfl⟩) hK (hDa _) hG hA hP hS (sr_XL_LA cI cS xx xd xo hh ha z zn q la N) hl.1 rfl rfl (Nat.le_of_ble_eq_true rfl) dL_acts_1058 (fun H locs hP hS => ?_)
    refine lv_if_ne (tgt := 1083) hx hb dL_acts_1061 (by decide) (fun c247 => ?_) (fun c247 => ?_)
    · have hF := it_f hF c247
      exact tL_acts_j1083 l D cS g cI xx xd xo hh ha z zn q la r M' C hDa N x11 v240 _ _ _ hF hP hS (lv_sub hl [1, 4, 7, 0] rfl)
    · have hF := it_t hF c247
      exact tL_acts_j1064 l D cS g cI xx xd xo hh ha z zn q la r M' C hDa N x11 v240 _ _ _ hF hP hS (lv_sub hl [1, 7, 0] rfl)
set_option maxHeartbeats 4000000 in
set_option maxRecDepth 100000 in
theorem tL_acts_j1013 (l : Launch) (D : va_G) (cS : ClassId) (g : Nat → Nat) (cI : ClassId) (xx xd xo hh ha : Nat) (z : Nat → Nat → Nat) (zn q : Nat → Nat) (la : Nat → Nat) (r : Int32) (M' : XLm) {p : Program} {e : Env} {s : State} {m : MethodId} {args : Array Value} {below : List Frame} {meth : Method} {c : Code} {A : Nat → Prop} (C : CX p s m args meth c A D cI cS g cL_acts 21 (some .boolean) RL) (hDa : ∀ N, va_D A (wXL cI cS xx xd xo hh ha z zn q la N)) : ∀ (N : XLm) (x8 : Int32) (x9 : Int32) (x11 : Int32) (s0 : Int32) (H : Heap) (locs : List Loc) (ls : Array Slot), fL_acts_j1013 N x8 x9 x11 s0 = some (r, M') → va_P D vwCl (wXL cI cS xx xd xo hh ha z zn q la N) H → va_S A s.heap H locs → lv_has ls 21 [(0, .ref xx), (1, .ref (la 0)), (2, .ref (la 1)), (3, .ref (la 2)), (4, .ref (la 3)), (5, .ref (la 4)), (6, .ref (la 5)), (8, .int x8), (9, .int x9), (11, .int x11)] → W p l e rmL_acts s m args below meth c H locs 0 0 (MQ below (qI D r (wXL cI cS xx xd xo hh ha z zn q la (M')) A) args s 0 0 A) (F0 m 1013 ls [.int s0]) := by
  obtain ⟨hx, hb, hr, hml, hlocks, hown, htb, hA, hK, hG⟩ := id C
  intro N x8 x9 x11 s0 H locs ls hF hP hS hl
  refine lv_istore (lv' := [(12, .int s0), (0, .ref xx), (1, .ref (la 0)), (2, .ref (la 1)), (3, .ref (la 2)), (4, .ref (la 3)), (5, .ref (la 4)), (6, .ref (la 5)), (8, .int x8), (9, .int x9), (11, .int x11)]) hx hb dL_acts_1013 hl (by decide) rfl (fun ls hl => ?_)
  refine lv_aload hx hb dL_acts_1015 (lv_at hl 5 rfl) ?_
  refine lv_bipush (v := 9) hx hb dL_acts_1017 (by decide) ?_
  refine lv_iload hx hb dL_acts_1019 (lv_at hl 10 rfl) ?_
  refine lv_imul hx hb dL_acts_1021 ?_
  obtain ⟨hi, hF⟩ := rd_use hF
  refine va_iald hx hb hK hP 3 0 (pXL_3 cI cS xx xd xo hh ha z zn q la N) rfl hi dL_acts_1022 ?_
  refine lv_topi (fun v63 ev63 => ?_)
  have hF := hF v63 ev63
  refine lv_istore (lv' := [(10, .int v63), (12, .int s0), (0, .ref xx), (1, .ref (la 0)), (2, .ref (la 1)), (3, .ref (la 2)), (4, .ref (la 3)), (5, .ref (la 4)), (6, .ref (la 5)), (8, .int x8), (9, .int x9), (11, .int x11)]) hx hb dL_acts_1023 hl (by decide) rfl (fun ls hl => ?_)
  refine lv_iload hx hb dL_acts_1025 (lv_at hl 10 rfl) ?_
  refine lv_bipush (v := 15) hx hb dL_acts_1027 (by decide) ?_
  refine lv_icmp_ne (tgt := 1126) hx hb dL_acts_1029 (by decide) (fun c64 => ?_) (fun c64 => ?_)
  · have hF := it_f hF c64
    exact tL_acts_j1126 l D cS g cI xx xd xo hh ha z zn q la r M' C hDa N x8 x9 v63 x11 s0 _ _ _ hF hP hS (lv_sub hl [2, 3, 4, 5, 6, 7, 8, 9, 10, 0, 11, 1] rfl)
  · have hF := it_t hF c64
    exact tL_acts_j1032 l D cS g cI xx xd xo hh ha z zn q la r M' C hDa N x8 v63 x11 s0 _ _ _ hF hP hS (lv_sub hl [2, 3, 5, 6, 9, 0, 11, 1] rfl)
set_option maxHeartbeats 4000000 in
set_option maxRecDepth 100000 in
theorem tL_acts_j985 (l : Launch) (D : va_G) (cS : ClassId) (g : Nat → Nat) (cI : ClassId) (xx xd xo hh ha : Nat) (z : Nat → Nat → Nat) (zn q : Nat → Nat) (la : Nat → Nat) (r : Int32) (M' : XLm) {p : Program} {e : Env} {s : State} {m : MethodId} {args : Array Value} {below : List Frame} {meth : Method} {c : Code} {A : Nat → Prop} (C : CX p s m args meth c A D cI cS g cL_acts 21 (some .boolean) RL) (hDa : ∀ N, va_D A (wXL cI cS xx xd xo hh ha z zn q la N)) : ∀ (N : XLm) (x8 : Int32) (x9 : Int32) (H : Heap) (locs : List Loc) (ls : Array Slot), fL_acts_j985 N x8 x9 = some (r, M') → va_P D vwCl (wXL cI cS xx xd xo hh ha z zn q la N) H → va_S A s.heap H locs → lv_has ls 21 [(0, .ref xx), (1, .ref (la 0)), (2, .ref (la 1)), (3, .ref (la 2)), (4, .ref (la 3)), (5, .ref (la 4)), (6, .ref (la 5)), (8, .int x8), (9, .int x9)] → W p l e rmL_acts s m args below meth c H locs 0 0 (MQ below (qI D r (wXL cI cS xx xd xo hh ha z zn q la (M')) A) args s 0 0 A) (F0 m 985 ls []) := by
  obtain ⟨hx, hb, hr, hml, hlocks, hown, htb, hA, hK, hG⟩ := id C
  intro N x8 x9 H locs ls hF hP hS hl
  refine lv_iload hx hb dL_acts_985 (lv_at hl 7 rfl) ?_
  refine lv_iconst (v := 3) hx hb dL_acts_987 (by decide) ?_
  obtain ⟨hd, hF⟩ := dv_use hF
  refine lv_idiv hx hb dL_acts_988 hd ?_
  refine lv_topi (fun v58 ev58 => ?_)
  have hF := hF v58 ev58
  refine lv_aload_n hx hb dL_acts_989 rfl (lv_at hl 1 rfl) ?_
  refine lv_iconst (v := 1) hx hb dL_acts_990 (by decide) ?_
  obtain ⟨hi, hF⟩ := rd_use hF
  refine va_iald hx hb hK hP 0 0 (pXL_0 cI cS xx xd xo hh ha z zn q la N) rfl hi dL_acts_991 ?_
  refine lv_topi (fun v59 ev59 => ?_)
  have hF := hF v59 ev59
  obtain ⟨hd, hF⟩ := mo_use hF
  refine lv_irem hx hb dL_acts_992 hd ?_
  refine lv_topi (fun v60 ev60 => ?_)
  have hF := hF v60 ev60
  refine lv_istore (lv' := [(11, .int v60), (0, .ref xx), (1, .ref (la 0)), (2, .ref (la 1)), (3, .ref (la 2)), (4, .ref (la 3)), (5, .ref (la 4)), (6, .ref (la 5)), (8, .int x8), (9, .int x9)]) hx hb dL_acts_993 hl (by decide) rfl (fun ls hl => ?_)
  refine lv_aload hx hb dL_acts_995 (lv_at hl 5 rfl) ?_
  refine lv_bipush (v := 9) hx hb dL_acts_997 (by decide) ?_
  refine lv_iload hx hb dL_acts_999 (lv_at hl 0 rfl) ?_
  refine lv_imul hx hb dL_acts_1001 ?_
  refine lv_iconst (v := 3) hx hb dL_acts_1002 (by decide) ?_
  refine lv_iadd hx hb dL_acts_1003 ?_
  obtain ⟨hi, hF⟩ := rd_use hF
  refine va_iald hx hb hK hP 3 0 (pXL_3 cI cS xx xd xo hh ha z zn q la N) rfl hi dL_acts_1004 ?_
  refine lv_topi (fun v61 ev61 => ?_)
  have hF := hF v61 ev61
  refine lv_if_ne (tgt := 1012) hx hb dL_acts_1005 (by decide) (fun c62 => ?_) (fun c62 => ?_)
  · have hF := it_f hF c62
    refine lv_iconst (v := 0) hx hb dL_acts_1012 (by decide) ?_
    exact tL_acts_j1013 l D cS g cI xx xd xo hh ha z zn q la r M' C hDa N x8 x9 v60 0 _ _ _ hF hP hS (lv_sub hl [1, 2, 3, 4, 5, 6, 7, 8, 9, 0] rfl)
  · have hF := it_t hF c62
    refine lv_iconst (v := 1) hx hb dL_acts_1008 (by decide) ?_
    refine lv_goto (tgt := 1013) hx hb dL_acts_1009 (by decide) ?_
    exact tL_acts_j1013 l D cS g cI xx xd xo hh ha z zn q la r M' C hDa N x8 x9 v60 1 _ _ _ hF hP hS (lv_sub hl [1, 2, 3, 4, 5, 6, 7, 8, 9, 0] rfl)
set_option maxHeartbeats 4000000 in
set_option maxRecDepth 100000 in
theorem tL_acts_j932 (l : Launch) (D : va_G) (cS : ClassId) (g : Nat → Nat) (cI : ClassId) (xx xd xo hh ha : Nat) (z : Nat → Nat → Nat) (zn q : Nat → Nat) (la : Nat → Nat) (r : Int32) (M' : XLm) {p : Program} {e : Env} {s : State} {m : MethodId} {args : Array Value} {below : List Frame} {meth : Method} {c : Code} {A : Nat → Prop} (C : CX p s m args meth c A D cI cS g cL_acts 21 (some .boolean) RL) (hDa : ∀ N, va_D A (wXL cI cS xx xd xo hh ha z zn q la N)) : ∀ (N : XLm) (x8 : Int32) (x9 : Int32) (H : Heap) (locs : List Loc) (ls : Array Slot), fL_acts_j932 N x8 x9 = some (r, M') → va_P D vwCl (wXL cI cS xx xd xo hh ha z zn q la N) H → va_S A s.heap H locs → lv_has ls 21 [(0, .ref xx), (1, .ref (la 0)), (2, .ref (la 1)), (3, .ref (la 2)), (4, .ref (la 3)), (5, .ref (la 4)), (6, .ref (la 5)), (8, .int x8), (9, .int x9)] → W p l e rmL_acts s m args below meth c H locs 0 0 (MQ below (qI D r (wXL cI cS xx xd xo hh ha z zn q la (M')) A) args s 0 0 A) (F0 m 932 ls []) := by
  obtain ⟨hx, hb, hr, hml, hlocks, hown, htb, hA, hK, hG⟩ := id C
  intro N x8 x9 H locs ls hF hP hS hl
  refine lv_aload_n hx hb dL_acts_932 rfl (lv_at hl 1 rfl) ?_
  refine lv_iconst (v := 1) hx hb dL_acts_933 (by decide) ?_
  obtain ⟨hi, hF⟩ := rd_use hF
  refine va_iald hx hb hK hP 0 0 (pXL_0 cI cS xx xd xo hh ha z zn q la N) rfl hi dL_acts_934 ?_
  refine lv_topi (fun v56 ev56 => ?_)
  have hF := hF v56 ev56
  refine lv_if_ne (tgt := 985) hx hb dL_acts_935 (by decide) (fun c57 => ?_) (fun c57 => ?_)
  · have hF := it_f hF c57
    exact tL_acts_j985 l D cS g cI xx xd xo hh ha z zn q la r M' C hDa N x8 x9 _ _ _ hF hP hS (lv_sub hl [0, 1, 2, 3, 4, 5, 6, 7, 8] rfl)
  · have hF := it_t hF c57
    refine lv_aload_n hx hb dL_acts_938 rfl (lv_at hl 0 rfl) ?_
    refine lv_iconst (v := 0) hx hb dL_acts_939 (by decide) ?_
    obtain ⟨r256, M255, hM255, hF⟩ := b2_use hF
    refine cl_VI ⟨hx, hb, hml, hown, htb⟩ (kX8_cancel l D cS g cI xx xd xo hh ha z zn q (N.1) 0 _ _ hM255) (cwV 1 htb (gX8_cancel bw2_164) rfl rfl rfl hdX8_cancel ⟨Nat.le_of_ble_eq_true rfl, Nat.le_of_ble_eq_true rfl⟩) hK (hDa _) hG hA hP hS (sg_XL_XX cI cS xx xd xo hh ha z zn q la N M255) hl.1 rfl 0 (pXX_0 _ _ _ _ _ _ _ _ _ _ _) rfl rfl (Nat.le_of_ble_eq_true rfl) dL_acts_940 (fun H locs hP hS => ?_)
    obtain ⟨M257, eM257⟩ : ∃ z : XLm, z = (M255, N.2) := ⟨_, rfl⟩
    have hF := nm_use hF eM257
    have hP : va_P D vwCl (wXL cI cS xx xd xo hh ha z zn q la M257) H := by rw [eM257]; exact hP
    refine lv_iconst (v := (-1)) hx hb dL_acts_943 (by decide) ?_
    refine lv_icmp_ne (tgt := 983) hx hb dL_acts_944 (by decide) (fun c258 => ?_) (fun c258 => ?_)
    · have hF := it_f hF c258
      refine lv_iconst (v := 0) hx hb dL_acts_983 (by decide) ?_
      obtain ⟨hz, hF⟩ := zb_use hF
      obtain ⟨er, eM⟩ := pr_use hF
      exact rt_Z hx hb hr hlocks hS (by rw [← eM]; exact hP) hz er dL_acts_984
    · have hF := it_t hF c258
      refine lv_aload_n hx hb dL_acts_947 rfl (lv_at hl 0 rfl) ?_
      refine lv_iconst (v := 0) hx hb dL_acts_948 (by decide) ?_
      refine lv_iconst (v := 0) hx hb dL_acts_949 (by decide) ?_
      obtain ⟨r260, M259, hM259, hF⟩ := b2_use hF
      refine cl_VI ⟨hx, hb, hml, hown, htb⟩ (kX8_move l D cS g cI xx xd xo hh ha z zn q (M257.1) 0 0 _ _ hM259) (cwV 2 htb (gX8_move bw2_201) rfl rfl rfl hdX8_move ⟨Nat.le_of_ble_eq_true rfl, Nat.le_of_ble_eq_true rfl⟩) hK (hDa _) hG hA hP hS (sg_XL_XX cI cS xx xd xo hh ha z zn q la M257 M259) hl.1 rfl 0 (pXX_0 _ _ _ _ _ _ _ _ _ _ _) rfl rfl (Nat.le_of_ble_eq_true rfl) dL_acts_950 (fun H locs hP hS => ?_)
      obtain ⟨M261, eM261⟩ : ∃ z : XLm, z = (M259, M257.2) := ⟨_, rfl⟩
      have hF := nm_use hF eM261
      have hP : va_P D vwCl (wXL cI cS xx xd xo hh ha z zn q la M261) H := by rw [eM261]; exact hP
      refine lv_iconst (v := (-1)) hx hb dL_acts_953 (by decide) ?_
      refine lv_icmp_ne (tgt := 983) hx hb dL_acts_954 (by decide) (fun c262 => ?_) (fun c262 => ?_)
      · have hF := it_f hF c262
        refine lv_iconst (v := 0) hx hb dL_acts_983 (by decide) ?_
        obtain ⟨hz, hF⟩ := zb_use hF
        obtain ⟨er, eM⟩ := pr_use hF
        exact rt_Z hx hb hr hlocks hS (by rw [← eM]; exact hP) hz er dL_acts_984
      · have hF := it_t hF c262
        refine lv_aload_n hx hb dL_acts_957 rfl (lv_at hl 0 rfl) ?_
        refine lv_iconst (v := 0) hx hb dL_acts_958 (by decide) ?_
        refine lv_iconst (v := 1) hx hb dL_acts_959 (by decide) ?_
        obtain ⟨r264, M263, hM263, hF⟩ := b2_use hF
        refine cl_VI ⟨hx, hb, hml, hown, htb⟩ (kX8_merge l D cS g cI xx xd xo hh ha z zn q (M261.1) 0 1 _ _ hM263) (cwV 2 htb (gX8_merge bw2_209) rfl rfl rfl hdX8_merge ⟨Nat.le_of_ble_eq_true rfl, Nat.le_of_ble_eq_true rfl⟩) hK (hDa _) hG hA hP hS (sg_XL_XX cI cS xx xd xo hh ha z zn q la M261 M263) hl.1 rfl 0 (pXX_0 _ _ _ _ _ _ _ _ _ _ _) rfl rfl (Nat.le_of_ble_eq_true rfl) dL_acts_960 (fun H locs hP hS => ?_)
        obtain ⟨M265, eM265⟩ : ∃ z : XLm, z = (M263, M261.2) := ⟨_, rfl⟩
        have hF := nm_use hF eM265
        have hP : va_P D vwCl (wXL cI cS xx xd xo hh ha z zn q la M265) H := by rw [eM265]; exact hP
        refine lv_iconst (v := (-1)) hx hb dL_acts_963 (by decide) ?_
        refine lv_icmp_ne (tgt := 983) hx hb dL_acts_964 (by decide) (fun c266 => ?_) (fun c266 => ?_)
        · have hF := it_f hF c266
          refine lv_iconst (v := 0) hx hb dL_acts_983 (by decide) ?_
          obtain ⟨hz, hF⟩ := zb_use hF
          obtain ⟨er, eM⟩ := pr_use hF
          exact rt_Z hx hb hr hlocks hS (by rw [← eM]; exact hP) hz er dL_acts_984
        · have hF := it_t hF c266
          refine lv_aload_n hx hb dL_acts_967 rfl (lv_at hl 0 rfl) ?_
          refine lv_iconst (v := 0) hx hb dL_acts_968 (by decide) ?_
          refine lv_iconst (v := 0) hx hb dL_acts_969 (by decide) ?_
          refine lv_iconst (v := 0) hx hb dL_acts_970 (by decide) ?_
          refine lv_iconst (v := 0) hx hb dL_acts_971 (by decide) ?_
          obtain ⟨r268, M267, hM267, hF⟩ := b2_use hF
          refine cl_VI ⟨hx, hb, hml, hown, htb⟩ (kX8_play l D cS g cI xx xd xo hh ha z zn q (M265.1) 0 0 0 0 _ _ hM267) (cwV 4 htb (gX8_play bw2_230) rfl rfl rfl hdX8_play ⟨Nat.le_of_ble_eq_true rfl, Nat.le_of_ble_eq_true rfl⟩) hK (hDa _) hG hA hP hS (sg_XL_XX cI cS xx xd xo hh ha z zn q la M265 M267) hl.1 rfl 0 (pXX_0 _ _ _ _ _ _ _ _ _ _ _) rfl rfl (Nat.le_of_ble_eq_true rfl) dL_acts_972 (fun H locs hP hS => ?_)
          obtain ⟨M269, eM269⟩ : ∃ z : XLm, z = (M267, M265.2) := ⟨_, rfl⟩
          have hF := nm_use hF eM269
          have hP : va_P D vwCl (wXL cI cS xx xd xo hh ha z zn q la M269) H := by rw [eM269]; exact hP
          refine lv_iconst (v := (-1)) hx hb dL_acts_975 (by decide) ?_
          refine lv_icmp_ne (tgt := 983) hx hb dL_acts_976 (by decide) (fun c270 => ?_) (fun c270 => ?_)
          · have hF := it_f hF c270
            refine lv_iconst (v := 0) hx hb dL_acts_983 (by decide) ?_
            obtain ⟨hz, hF⟩ := zb_use hF
            obtain ⟨er, eM⟩ := pr_use hF
            exact rt_Z hx hb hr hlocks hS (by rw [← eM]; exact hP) hz er dL_acts_984
          · have hF := it_t hF c270
            refine lv_iconst (v := 1) hx hb dL_acts_979 (by decide) ?_
            refine lv_goto (tgt := 984) hx hb dL_acts_980 (by decide) ?_
            obtain ⟨hz, hF⟩ := zb_use hF
            obtain ⟨er, eM⟩ := pr_use hF
            exact rt_Z hx hb hr hlocks hS (by rw [← eM]; exact hP) hz er dL_acts_984
set_option maxHeartbeats 4000000 in
set_option maxRecDepth 100000 in
theorem tL_acts_j909 (l : Launch) (D : va_G) (cS : ClassId) (g : Nat → Nat) (cI : ClassId) (xx xd xo hh ha : Nat) (z : Nat → Nat → Nat) (zn q : Nat → Nat) (la : Nat → Nat) (r : Int32) (M' : XLm) {p : Program} {e : Env} {s : State} {m : MethodId} {args : Array Value} {below : List Frame} {meth : Method} {c : Code} {A : Nat → Prop} (C : CX p s m args meth c A D cI cS g cL_acts 21 (some .boolean) RL) (hDa : ∀ N, va_D A (wXL cI cS xx xd xo hh ha z zn q la N)) : ∀ (N : XLm) (x11 : Int32) (x12 : Int32) (s1 : Int32) (s2 : Int32) (s3 : Int32) (H : Heap) (locs : List Loc) (ls : Array Slot), fL_acts_j909 N x11 x12 s1 s2 s3 = some (r, M') → va_P D vwCl (wXL cI cS xx xd xo hh ha z zn q la N) H → va_S A s.heap H locs → lv_has ls 21 [(0, .ref xx), (2, .ref (la 1)), (11, .int x11), (12, .int x12)] → W p l e rmL_acts s m args below meth c H locs 0 0 (MQ below (qI D r (wXL cI cS xx xd xo hh ha z zn q la (M')) A) args s 0 0 A) (F0 m 909 ls [.int s3, .int s2, .int s1, .ref (la 1)]) := by
  obtain ⟨hx, hb, hr, hml, hlocks, hown, htb, hA, hK, hG⟩ := id C
  intro N x11 x12 s1 s2 s3 H locs ls hF hP hS hl
  obtain ⟨hd, hF⟩ := mo_use hF
  refine lv_irem hx hb dL_acts_909 hd ?_
  refine lv_topi (fun v278 ev278 => ?_)
  have hF := hF v278 ev278
  obtain ⟨hi, hF⟩ := wr_use hF
  refine va_iast hx hb hK hP (hDa _) hS 1 0 (pXL_1 cI cS xx xd xo hh ha z zn q la N) rfl hi dL_acts_910 (fun H locs hP _ hS => ?_)
  obtain ⟨M280, eM280⟩ : ∃ z : XLm, z = (N.1, (N.2.1, (upd (N.2.2.1) (s1 : Int32).toNatClampNeg v278), N.2.2.2)) := ⟨_, rfl⟩
  have hF := nm_use hF eM280
  have hP : va_P D vwCl (wXL cI cS xx xd xo hh ha z zn q la M280) H := by rw [eM280]; exact hP
  refine lv_aload_n hx hb dL_acts_911 rfl (lv_at hl 0 rfl) ?_
  refine lv_iload hx hb dL_acts_912 (lv_at hl 2 rfl) ?_
  refine lv_aload_n hx hb dL_acts_914 rfl (lv_at hl 1 rfl) ?_
  refine lv_iload hx hb dL_acts_915 (lv_at hl 2 rfl) ?_
  obtain ⟨hi, hF⟩ := rd_use hF
  refine va_iald hx hb hK hP 1 0 (pXL_1 cI cS xx xd xo hh ha z zn q la M280) rfl hi dL_acts_917 ?_
  refine lv_topi (fun v281 ev281 => ?_)
  have hF := hF v281 ev281
  obtain ⟨r283, M282, hM282, hF⟩ := b2_use hF
  refine cl_VI ⟨hx, hb, hml, hown, htb⟩ (kX8_set l D cS g cI xx xd xo hh ha z zn q (M280.1) x11 v281 _ _ hM282) (cwV 2 htb (gX8_set bw2_153) rfl rfl rfl hdX8_set ⟨Nat.le_of_ble_eq_true rfl, Nat.le_of_ble_eq_true rfl⟩) hK (hDa _) hG hA hP hS (sg_XL_XX cI cS xx xd xo hh ha z zn q la M280 M282) hl.1 rfl 0 (pXX_0 _ _ _ _ _ _ _ _ _ _ _) rfl rfl (Nat.le_of_ble_eq_true rfl) dL_acts_918 (fun H locs hP hS => ?_)
  obtain ⟨M284, eM284⟩ : ∃ z : XLm, z = (M282, M280.2) := ⟨_, rfl⟩
  have hF := nm_use hF eM284
  have hP : va_P D vwCl (wXL cI cS xx xd xo hh ha z zn q la M284) H := by rw [eM284]; exact hP
  refine lv_iload hx hb dL_acts_921 (lv_at hl 3 rfl) ?_
  refine lv_icmp_ne (tgt := 930) hx hb dL_acts_923 (by decide) (fun c285 => ?_) (fun c285 => ?_)
  · have hF := it_f hF c285
    refine lv_iconst (v := 0) hx hb dL_acts_930 (by decide) ?_
    obtain ⟨hz, hF⟩ := zb_use hF
    obtain ⟨er, eM⟩ := pr_use hF
    exact rt_Z hx hb hr hlocks hS (by rw [← eM]; exact hP) hz er dL_acts_931
  · have hF := it_t hF c285
    refine lv_iconst (v := 1) hx hb dL_acts_926 (by decide) ?_
    refine lv_goto (tgt := 931) hx hb dL_acts_927 (by decide) ?_
    obtain ⟨hz, hF⟩ := zb_use hF
    obtain ⟨er, eM⟩ := pr_use hF
    exact rt_Z hx hb hr hlocks hS (by rw [← eM]; exact hP) hz er dL_acts_931
set_option maxHeartbeats 4000000 in
set_option maxRecDepth 100000 in
theorem tL_acts_j845 (l : Launch) (D : va_G) (cS : ClassId) (g : Nat → Nat) (cI : ClassId) (xx xd xo hh ha : Nat) (z : Nat → Nat → Nat) (zn q : Nat → Nat) (la : Nat → Nat) (r : Int32) (M' : XLm) {p : Program} {e : Env} {s : State} {m : MethodId} {args : Array Value} {below : List Frame} {meth : Method} {c : Code} {A : Nat → Prop} (C : CX p s m args meth c A D cI cS g cL_acts 21 (some .boolean) RL) (hDa : ∀ N, va_D A (wXL cI cS xx xd xo hh ha z zn q la N)) : ∀ (N : XLm) (x8 : Int32) (H : Heap) (locs : List Loc) (ls : Array Slot), fL_acts_j845 N x8 = some (r, M') → va_P D vwCl (wXL cI cS xx xd xo hh ha z zn q la N) H → va_S A s.heap H locs → lv_has ls 21 [(0, .ref xx), (2, .ref (la 1)), (8, .int x8)] → W p l e rmL_acts s m args below meth c H locs 0 0 (MQ below (qI D r (wXL cI cS xx xd xo hh ha z zn q la (M')) A) args s 0 0 A) (F0 m 845 ls []) := by
  obtain ⟨hx, hb, hr, hml, hlocks, hown, htb, hA, hK, hG⟩ := id C
  intro N x8 H locs ls hF hP hS hl
  refine lv_iload hx hb dL_acts_845 (lv_at hl 2 rfl) ?_
  refine lv_iconst (v := 5) hx hb dL_acts_847 (by decide) ?_
  obtain ⟨hd, hF⟩ := mo_use hF
  refine lv_irem hx hb dL_acts_848 hd ?_
  refine lv_topi (fun v271 ev271 => ?_)
  have hF := hF v271 ev271
  refine lv_istore (lv' := [(11, .int v271), (0, .ref xx), (2, .ref (la 1)), (8, .int x8)]) hx hb dL_acts_849 hl (by decide) rfl (fun ls hl => ?_)
  refine lv_aload_n hx hb dL_acts_851 rfl (lv_at hl 2 rfl) ?_
  refine lv_iload hx hb dL_acts_852 (lv_at hl 0 rfl) ?_
  obtain ⟨hi, hF⟩ := rd_use hF
  refine va_iald hx hb hK hP 1 0 (pXL_1 cI cS xx xd xo hh ha z zn q la N) rfl hi dL_acts_854 ?_
  refine lv_topi (fun v272 ev272 => ?_)
  have hF := hF v272 ev272
  refine lv_istore (lv' := [(12, .int v272), (11, .int v271), (0, .ref xx), (2, .ref (la 1)), (8, .int x8)]) hx hb dL_acts_855 hl (by decide) rfl (fun ls hl => ?_)
  refine lv_aload_n hx hb dL_acts_857 rfl (lv_at hl 3 rfl) ?_
  refine lv_iload hx hb dL_acts_858 (lv_at hl 1 rfl) ?_
  refine lv_iload hx hb dL_acts_860 (lv_at hl 4 rfl) ?_
  refine lv_iconst (v := 5) hx hb dL_acts_862 (by decide) ?_
  obtain ⟨hd, hF⟩ := dv_use hF
  refine lv_idiv hx hb dL_acts_863 hd ?_
  refine lv_topi (fun v273 ev273 => ?_)
  have hF := hF v273 ev273
  refine lv_iload hx hb dL_acts_864 (lv_at hl 1 rfl) ?_
  refine lv_if_ne (tgt := 874) hx hb dL_acts_866 (by decide) (fun c274 => ?_) (fun c274 => ?_)
  · have hF := it_f hF c274
    refine lv_iload hx hb dL_acts_874 (lv_at hl 1 rfl) ?_
    refine lv_iconst (v := 1) hx hb dL_acts_876 (by decide) ?_
    refine lv_icmp_ne (tgt := 885) hx hb dL_acts_877 (by decide) (fun c275 => ?_) (fun c275 => ?_)
    · have hF := it_f hF c275
      refine lv_iload hx hb dL_acts_885 (lv_at hl 1 rfl) ?_
      refine lv_iconst (v := 2) hx hb dL_acts_887 (by decide) ?_
      refine lv_icmp_ne (tgt := 896) hx hb dL_acts_888 (by decide) (fun c276 => ?_) (fun c276 => ?_)
      · have hF := it_f hF c276
        refine lv_iload hx hb dL_acts_896 (lv_at hl 1 rfl) ?_
        refine lv_iconst (v := 3) hx hb dL_acts_898 (by decide) ?_
        refine lv_icmp_ne (tgt := 907) hx hb dL_acts_899 (by decide) (fun c277 => ?_) (fun c277 => ?_)
        · have hF := it_f hF c277
          refine lv_bipush (v := 51) hx hb dL_acts_907 (by decide) ?_
          exact tL_acts_j909 l D cS g cI xx xd xo hh ha z zn q la r M' C hDa N v271 v272 v271 v273 51 _ _ _ hF hP hS (lv_sub hl [2, 3, 1, 0] rfl)
        · have hF := it_t hF c277
          refine lv_bipush (v := 61) hx hb dL_acts_902 (by decide) ?_
          refine lv_goto (tgt := 909) hx hb dL_acts_904 (by decide) ?_
          exact tL_acts_j909 l D cS g cI xx xd xo hh ha z zn q la r M' C hDa N v271 v272 v271 v273 61 _ _ _ hF hP hS (lv_sub hl [2, 3, 1, 0] rfl)
      · have hF := it_t hF c276
        refine lv_bipush (v := 21) hx hb dL_acts_891 (by decide) ?_
        refine lv_goto (tgt := 909) hx hb dL_acts_893 (by decide) ?_
        exact tL_acts_j909 l D cS g cI xx xd xo hh ha z zn q la r M' C hDa N v271 v272 v271 v273 21 _ _ _ hF hP hS (lv_sub hl [2, 3, 1, 0] rfl)
    · have hF := it_t hF c275
      refine lv_bipush (v := 31) hx hb dL_acts_880 (by decide) ?_
      refine lv_goto (tgt := 909) hx hb dL_acts_882 (by decide) ?_
      exact tL_acts_j909 l D cS g cI xx xd xo hh ha z zn q la r M' C hDa N v271 v272 v271 v273 31 _ _ _ hF hP hS (lv_sub hl [2, 3, 1, 0] rfl)
  · have hF := it_t hF c274
    refine lv_bipush (v := 11) hx hb dL_acts_869 (by decide) ?_
    refine lv_goto (tgt := 909) hx hb dL_acts_871 (by decide) ?_
    exact tL_acts_j909 l D cS g cI xx xd xo hh ha z zn q la r M' C hDa N v271 v272 v271 v273 11 _ _ _ hF hP hS (lv_sub hl [2, 3, 1, 0] rfl)
set_option maxHeartbeats 4000000 in
set_option maxRecDepth 100000 in
theorem tL_acts_j838 (l : Launch) (D : va_G) (cS : ClassId) (g : Nat → Nat) (cI : ClassId) (xx xd xo hh ha : Nat) (z : Nat → Nat → Nat) (zn q : Nat → Nat) (la : Nat → Nat) (r : Int32) (M' : XLm) {p : Program} {e : Env} {s : State} {m : MethodId} {args : Array Value} {below : List Frame} {meth : Method} {c : Code} {A : Nat → Prop} (C : CX p s m args meth c A D cI cS g cL_acts 21 (some .boolean) RL) (hDa : ∀ N, va_D A (wXL cI cS xx xd xo hh ha z zn q la N)) : ∀ (N : XLm) (x8 : Int32) (x9 : Int32) (H : Heap) (locs : List Loc) (ls : Array Slot), fL_acts_j838 N x8 x9 = some (r, M') → va_P D vwCl (wXL cI cS xx xd xo hh ha z zn q la N) H → va_S A s.heap H locs → lv_has ls 21 [(0, .ref xx), (1, .ref (la 0)), (2, .ref (la 1)), (3, .ref (la 2)), (4, .ref (la 3)), (5, .ref (la 4)), (6, .ref (la 5)), (8, .int x8), (9, .int x9)] → W p l e rmL_acts s m args below meth c H locs 0 0 (MQ below (qI D r (wXL cI cS xx xd xo hh ha z zn q la (M')) A) args s 0 0 A) (F0 m 838 ls []) := by
  obtain ⟨hx, hb, hr, hml, hlocks, hown, htb, hA, hK, hG⟩ := id C
  intro N x8 x9 H locs ls hF hP hS hl
  refine lv_iload hx hb dL_acts_838 (lv_at hl 8 rfl) ?_
  refine lv_bipush (v := 15) hx hb dL_acts_840 (by decide) ?_
  refine lv_icmp_ge (tgt := 932) hx hb dL_acts_842 (by decide) (fun c55 => ?_) (fun c55 => ?_)
  · have hF := it_t hF c55
    exact tL_acts_j932 l D cS g cI xx xd xo hh ha z zn q la r M' C hDa N x8 x9 _ _ _ hF hP hS (lv_sub hl [0, 1, 2, 3, 4, 5, 6, 7, 8] rfl)
  · have hF := it_f hF c55
    exact tL_acts_j845 l D cS g cI xx xd xo hh ha z zn q la r M' C hDa N x8 _ _ _ hF hP hS (lv_sub hl [0, 2, 7] rfl)
set_option maxHeartbeats 4000000 in
set_option maxRecDepth 100000 in
theorem tL_acts_j782 (l : Launch) (D : va_G) (cS : ClassId) (g : Nat → Nat) (cI : ClassId) (xx xd xo hh ha : Nat) (z : Nat → Nat → Nat) (zn q : Nat → Nat) (la : Nat → Nat) (r : Int32) (M' : XLm) {p : Program} {e : Env} {s : State} {m : MethodId} {args : Array Value} {below : List Frame} {meth : Method} {c : Code} {A : Nat → Prop} (C : CX p s m args meth c A D cI cS g cL_acts 21 (some .boolean) RL) (hDa : ∀ N, va_D A (wXL cI cS xx xd xo hh ha z zn q la N)) : ∀ (N : XLm) (x8 : Int32) (x10 : Int32) (H : Heap) (locs : List Loc) (ls : Array Slot), fL_acts_j782 N x8 x10 = some (r, M') → va_P D vwCl (wXL cI cS xx xd xo hh ha z zn q la N) H → va_S A s.heap H locs → lv_has ls 21 [(0, .ref xx), (3, .ref (la 2)), (8, .int x8), (10, .int x10)] → W p l e rmL_acts s m args below meth c H locs 0 0 (MQ below (qI D r (wXL cI cS xx xd xo hh ha z zn q la (M')) A) args s 0 0 A) (F0 m 782 ls []) := by
  obtain ⟨hx, hb, hr, hml, hlocks, hown, htb, hA, hK, hG⟩ := id C
  intro N x8 x10 H locs ls hF hP hS hl
  refine lv_aload_n hx hb dL_acts_782 rfl (lv_at hl 1 rfl) ?_
  refine lv_bipush (v := 11) hx hb dL_acts_783 (by decide) ?_
  refine lv_iload hx hb dL_acts_785 (lv_at hl 3 rfl) ?_
  refine lv_imul hx hb dL_acts_787 ?_
  refine lv_iconst (v := 2) hx hb dL_acts_788 (by decide) ?_
  refine lv_iadd hx hb dL_acts_789 ?_
  obtain ⟨hi, hF⟩ := rd_use hF
  refine va_iald hx hb hK hP 2 0 (pXL_2 cI cS xx xd xo hh ha z zn q la N) rfl hi dL_acts_790 ?_
  refine lv_topi (fun v286 ev286 => ?_)
  have hF := hF v286 ev286
  refine lv_istore (lv' := [(11, .int v286), (0, .ref xx), (3, .ref (la 2)), (8, .int x8), (10, .int x10)]) hx hb dL_acts_791 hl (by decide) rfl (fun ls hl => ?_)
  refine lv_aload_n hx hb dL_acts_793 rfl (lv_at hl 2 rfl) ?_
  refine lv_bipush (v := 11) hx hb dL_acts_794 (by decide) ?_
  refine lv_iload hx hb dL_acts_796 (lv_at hl 4 rfl) ?_
  refine lv_imul hx hb dL_acts_798 ?_
  refine lv_iconst (v := 2) hx hb dL_acts_799 (by decide) ?_
  refine lv_iadd hx hb dL_acts_800 ?_
  refine lv_iconst (v := 1) hx hb dL_acts_801 (by decide) ?_
  refine lv_iload hx hb dL_acts_802 (lv_at hl 3 rfl) ?_
  refine lv_iconst (v := 3) hx hb dL_acts_804 (by decide) ?_
  obtain ⟨hd, hF⟩ := dv_use hF
  refine lv_idiv hx hb dL_acts_805 hd ?_
  refine lv_topi (fun v287 ev287 => ?_)
  have hF := hF v287 ev287
  refine lv_sipush (v := 200) hx hb dL_acts_806 (by decide) ?_
  obtain ⟨hd, hF⟩ := mo_use hF
  refine lv_irem hx hb dL_acts_809 hd ?_
  refine lv_topi (fun v288 ev288 => ?_)
  have hF := hF v288 ev288
  refine lv_iadd hx hb dL_acts_810 ?_
  obtain ⟨hi, hF⟩ := wr_use hF
  refine va_iast hx hb hK hP (hDa _) hS 2 0 (pXL_2 cI cS xx xd xo hh ha z zn q la N) rfl hi dL_acts_811 (fun H locs hP _ hS => ?_)
  obtain ⟨M290, eM290⟩ : ∃ z : XLm, z = (N.1, (N.2.1, N.2.2.1, (upd (N.2.2.2.1) ((11 * x10) + 2 : Int32).toNatClampNeg (1 + v288)), N.2.2.2.2)) := ⟨_, rfl⟩
  have hF := nm_use hF eM290
  have hP : va_P D vwCl (wXL cI cS xx xd xo hh ha z zn q la M290) H := by rw [eM290]; exact hP
  refine lv_aload_n hx hb dL_acts_812 rfl (lv_at hl 1 rfl) ?_
  refine lv_iload hx hb dL_acts_813 (lv_at hl 4 rfl) ?_
  refine lv_aload_n hx hb dL_acts_815 rfl (lv_at hl 2 rfl) ?_
  refine lv_bipush (v := 11) hx hb dL_acts_816 (by decide) ?_
  refine lv_iload hx hb dL_acts_818 (lv_at hl 4 rfl) ?_
  refine lv_imul hx hb dL_acts_820 ?_
  refine lv_iconst (v := 2) hx hb dL_acts_821 (by decide) ?_
  refine lv_iadd hx hb dL_acts_822 ?_
  obtain ⟨hi, hF⟩ := rd_use hF
  refine va_iald hx hb hK hP 2 0 (pXL_2 cI cS xx xd xo hh ha z zn q la M290) rfl hi dL_acts_823 ?_
  refine lv_topi (fun v291 ev291 => ?_)
  have hF := hF v291 ev291
  obtain ⟨r293, M292, hM292, hF⟩ := b2_use hF
  refine cl_VI ⟨hx, hb, hml, hown, htb⟩ (kX8_setPrice l D cS g cI xx xd xo hh ha z zn q (M290.1) x10 v291 _ _ hM292) (cwV 2 htb (gX8_setPrice bw2_145) rfl rfl rfl hdX8_setPrice ⟨Nat.le_of_ble_eq_true rfl, Nat.le_of_ble_eq_true rfl⟩) hK (hDa _) hG hA hP hS (sg_XL_XX cI cS xx xd xo hh ha z zn q la M290 M292) hl.1 rfl 0 (pXX_0 _ _ _ _ _ _ _ _ _ _ _) rfl rfl (Nat.le_of_ble_eq_true rfl) dL_acts_824 (fun H locs hP hS => ?_)
  obtain ⟨M294, eM294⟩ : ∃ z : XLm, z = (M292, M290.2) := ⟨_, rfl⟩
  have hF := nm_use hF eM294
  have hP : va_P D vwCl (wXL cI cS xx xd xo hh ha z zn q la M294) H := by rw [eM294]; exact hP
  refine lv_iload hx hb dL_acts_827 (lv_at hl 0 rfl) ?_
  refine lv_icmp_ne (tgt := 836) hx hb dL_acts_829 (by decide) (fun c295 => ?_) (fun c295 => ?_)
  · have hF := it_f hF c295
    refine lv_iconst (v := 0) hx hb dL_acts_836 (by decide) ?_
    obtain ⟨hz, hF⟩ := zb_use hF
    obtain ⟨er, eM⟩ := pr_use hF
    exact rt_Z hx hb hr hlocks hS (by rw [← eM]; exact hP) hz er dL_acts_837
  · have hF := it_t hF c295
    refine lv_iconst (v := 1) hx hb dL_acts_832 (by decide) ?_
    refine lv_goto (tgt := 837) hx hb dL_acts_833 (by decide) ?_
    obtain ⟨hz, hF⟩ := zb_use hF
    obtain ⟨er, eM⟩ := pr_use hF
    exact rt_Z hx hb hr hlocks hS (by rw [← eM]; exact hP) hz er dL_acts_837
set_option maxHeartbeats 4000000 in
set_option maxRecDepth 100000 in
theorem tL_acts_j775 (l : Launch) (D : va_G) (cS : ClassId) (g : Nat → Nat) (cI : ClassId) (xx xd xo hh ha : Nat) (z : Nat → Nat → Nat) (zn q : Nat → Nat) (la : Nat → Nat) (r : Int32) (M' : XLm) {p : Program} {e : Env} {s : State} {m : MethodId} {args : Array Value} {below : List Frame} {meth : Method} {c : Code} {A : Nat → Prop} (C : CX p s m args meth c A D cI cS g cL_acts 21 (some .boolean) RL) (hDa : ∀ N, va_D A (wXL cI cS xx xd xo hh ha z zn q la N)) : ∀ (N : XLm) (x8 : Int32) (x9 : Int32) (x10 : Int32) (H : Heap) (locs : List Loc) (ls : Array Slot), fL_acts_j775 N x8 x9 x10 = some (r, M') → va_P D vwCl (wXL cI cS xx xd xo hh ha z zn q la N) H → va_S A s.heap H locs → lv_has ls 21 [(0, .ref xx), (1, .ref (la 0)), (2, .ref (la 1)), (3, .ref (la 2)), (4, .ref (la 3)), (5, .ref (la 4)), (6, .ref (la 5)), (8, .int x8), (9, .int x9), (10, .int x10)] → W p l e rmL_acts s m args below meth c H locs 0 0 (MQ below (qI D r (wXL cI cS xx xd xo hh ha z zn q la (M')) A) args s 0 0 A) (F0 m 775 ls []) := by
  obtain ⟨hx, hb, hr, hml, hlocks, hown, htb, hA, hK, hG⟩ := id C
  intro N x8 x9 x10 H locs ls hF hP hS hl
  refine lv_iload hx hb dL_acts_775 (lv_at hl 8 rfl) ?_
  refine lv_bipush (v := 12) hx hb dL_acts_777 (by decide) ?_
  refine lv_icmp_ne (tgt := 838) hx hb dL_acts_779 (by decide) (fun c54 => ?_) (fun c54 => ?_)
  · have hF := it_f hF c54
    exact tL_acts_j838 l D cS g cI xx xd xo hh ha z zn q la r M' C hDa N x8 x9 _ _ _ hF hP hS (lv_sub hl [0, 1, 2, 3, 4, 5, 6, 7, 8] rfl)
  · have hF := it_t hF c54
    exact tL_acts_j782 l D cS g cI xx xd xo hh ha z zn q la r M' C hDa N x8 x10 _ _ _ hF hP hS (lv_sub hl [0, 3, 7, 9] rfl)
set_option maxHeartbeats 4000000 in
set_option maxRecDepth 100000 in
theorem tL_acts_j745 (l : Launch) (D : va_G) (cS : ClassId) (g : Nat → Nat) (cI : ClassId) (xx xd xo hh ha : Nat) (z : Nat → Nat → Nat) (zn q : Nat → Nat) (la : Nat → Nat) (r : Int32) (M' : XLm) {p : Program} {e : Env} {s : State} {m : MethodId} {args : Array Value} {below : List Frame} {meth : Method} {c : Code} {A : Nat → Prop} (C : CX p s m args meth c A D cI cS g cL_acts 21 (some .boolean) RL) (hDa : ∀ N, va_D A (wXL cI cS xx xd xo hh ha z zn q la N)) : ∀ (N : XLm) (x10 : Int32) (x11 : Int32) (x12 : Int32) (x13 : Int32) (x14 : Int32) (H : Heap) (locs : List Loc) (ls : Array Slot), fL_acts_j745 N x10 x11 x12 x13 x14 = some (r, M') → va_P D vwCl (wXL cI cS xx xd xo hh ha z zn q la N) H → va_S A s.heap H locs → lv_has ls 21 [(0, .ref xx), (1, .ref (la 0)), (10, .int x10), (11, .int x11), (12, .int x12), (13, .int x13), (14, .int x14)] → W p l e rmL_acts s m args below meth c H locs 0 0 (MQ below (qI D r (wXL cI cS xx xd xo hh ha z zn q la (M')) A) args s 0 0 A) (F0 m 745 ls []) := by
  obtain ⟨hx, hb, hr, hml, hlocks, hown, htb, hA, hK, hG⟩ := id C
  intro N x10 x11 x12 x13 x14 H locs ls hF hP hS hl
  refine lv_aload_n hx hb dL_acts_745 rfl (lv_at hl 1 rfl) ?_
  refine lv_iconst (v := 1) hx hb dL_acts_746 (by decide) ?_
  refine lv_dup2_11 hx hb dL_acts_747 rfl rfl ?_
  obtain ⟨hi, hF⟩ := rd_use hF
  refine va_iald hx hb hK hP 0 0 (pXL_0 cI cS xx xd xo hh ha z zn q la N) rfl hi dL_acts_748 ?_
  refine lv_topi (fun v353 ev353 => ?_)
  have hF := hF v353 ev353
  refine lv_iconst (v := 1) hx hb dL_acts_749 (by decide) ?_
  refine lv_iadd hx hb dL_acts_750 ?_
  obtain ⟨hi, hF⟩ := wr_use hF
  refine va_iast hx hb hK hP (hDa _) hS 0 0 (pXL_0 cI cS xx xd xo hh ha z zn q la N) rfl hi dL_acts_751 (fun H locs hP _ hS => ?_)
  obtain ⟨M355, eM355⟩ : ∃ z : XLm, z = (N.1, ((upd (N.2.1) (1 : Int32).toNatClampNeg (v353 + 1)), N.2.2)) := ⟨_, rfl⟩
  have hF := nm_use hF eM355
  have hP : va_P D vwCl (wXL cI cS xx xd xo hh ha z zn q la M355) H := by rw [eM355]; exact hP
  refine lv_aload_n hx hb dL_acts_752 rfl (lv_at hl 0 rfl) ?_
  refine lv_iload hx hb dL_acts_753 (lv_at hl 2 rfl) ?_
  refine lv_iload hx hb dL_acts_755 (lv_at hl 3 rfl) ?_
  refine lv_iload hx hb dL_acts_757 (lv_at hl 4 rfl) ?_
  refine lv_iload hx hb dL_acts_759 (lv_at hl 5 rfl) ?_
  obtain ⟨r357, M356, hM356, hF⟩ := b2_use hF
  refine cl_VI ⟨hx, hb, hml, hown, htb⟩ (kX8_book l D cS g cI xx xd xo hh ha z zn q (M355.1) x10 x11 x12 x13 _ _ hM356) (cwV 4 htb (gX8_book bw2_103) rfl rfl rfl hdX8_book ⟨Nat.le_of_ble_eq_true rfl, Nat.le_of_ble_eq_true rfl⟩) hK (hDa _) hG hA hP hS (sg_XL_XX cI cS xx xd xo hh ha z zn q la M355 M356) hl.1 rfl 0 (pXX_0 _ _ _ _ _ _ _ _ _ _ _) rfl rfl (Nat.le_of_ble_eq_true rfl) dL_acts_761 (fun H locs hP hS => ?_)
  obtain ⟨M358, eM358⟩ : ∃ z : XLm, z = (M356, M355.2) := ⟨_, rfl⟩
  have hF := nm_use hF eM358
  have hP : va_P D vwCl (wXL cI cS xx xd xo hh ha z zn q la M358) H := by rw [eM358]; exact hP
  refine lv_iload hx hb dL_acts_764 (lv_at hl 6 rfl) ?_
  refine lv_icmp_ne (tgt := 773) hx hb dL_acts_766 (by decide) (fun c359 => ?_) (fun c359 => ?_)
  · have hF := it_f hF c359
    refine lv_iconst (v := 0) hx hb dL_acts_773 (by decide) ?_
    obtain ⟨hz, hF⟩ := zb_use hF
    obtain ⟨er, eM⟩ := pr_use hF
    exact rt_Z hx hb hr hlocks hS (by rw [← eM]; exact hP) hz er dL_acts_774
  · have hF := it_t hF c359
    refine lv_iconst (v := 1) hx hb dL_acts_769 (by decide) ?_
    refine lv_goto (tgt := 774) hx hb dL_acts_770 (by decide) ?_
    obtain ⟨hz, hF⟩ := zb_use hF
    obtain ⟨er, eM⟩ := pr_use hF
    exact rt_Z hx hb hr hlocks hS (by rw [← eM]; exact hP) hz er dL_acts_774
set_option maxHeartbeats 4000000 in
set_option maxRecDepth 100000 in
theorem tL_acts_j695 (l : Launch) (D : va_G) (cS : ClassId) (g : Nat → Nat) (cI : ClassId) (xx xd xo hh ha : Nat) (z : Nat → Nat → Nat) (zn q : Nat → Nat) (la : Nat → Nat) (r : Int32) (M' : XLm) {p : Program} {e : Env} {s : State} {m : MethodId} {args : Array Value} {below : List Frame} {meth : Method} {c : Code} {A : Nat → Prop} (C : CX p s m args meth c A D cI cS g cL_acts 21 (some .boolean) RL) (hDa : ∀ N, va_D A (wXL cI cS xx xd xo hh ha z zn q la N)) : ∀ (N : XLm) (x10 : Int32) (x11 : Int32) (x12 : Int32) (x13 : Int32) (x14 : Int32) (x15 : Int32) (x16 : Int32) (s1 : Int32) (s2 : Int32) (H : Heap) (locs : List Loc) (ls : Array Slot), fL_acts_j695 N x10 x11 x12 x13 x14 x15 x16 s1 s2 = some (r, M') → va_P D vwCl (wXL cI cS xx xd xo hh ha z zn q la N) H → va_S A s.heap H locs → lv_has ls 21 [(0, .ref xx), (1, .ref (la 0)), (5, .ref (la 4)), (6, .ref (la 5)), (10, .int x10), (11, .int x11), (12, .int x12), (13, .int x13), (14, .int x14), (15, .int x15), (16, .int x16)] → W p l e rmL_acts s m args below meth c H locs 0 0 (MQ below (qI D r (wXL cI cS xx xd xo hh ha z zn q la (M')) A) args s 0 0 A) (F0 m 695 ls [.int s2, .int s1, .ref (la 4)]) := by
  obtain ⟨hx, hb, hr, hml, hlocks, hown, htb, hA, hK, hG⟩ := id C
  intro N x10 x11 x12 x13 x14 x15 x16 s1 s2 H locs ls hF hP hS hl
  obtain ⟨hi, hF⟩ := wr_use hF
  refine va_iast hx hb hK hP (hDa _) hS 4 0 (pXL_4 cI cS xx xd xo hh ha z zn q la N) rfl hi dL_acts_695 (fun H locs hP _ hS => ?_)
  obtain ⟨M342, eM342⟩ : ∃ z : XLm, z = (N.1, (N.2.1, N.2.2.1, N.2.2.2.1, N.2.2.2.2.1, (upd (N.2.2.2.2.2.1) (s1 : Int32).toNatClampNeg s2), N.2.2.2.2.2.2)) := ⟨_, rfl⟩
  have hF := nm_use hF eM342
  have hP : va_P D vwCl (wXL cI cS xx xd xo hh ha z zn q la M342) H := by rw [eM342]; exact hP
  refine lv_aload hx hb dL_acts_696 (lv_at hl 2 rfl) ?_
  refine lv_iconst (v := 4) hx hb dL_acts_698 (by decide) ?_
  refine lv_iload hx hb dL_acts_699 (lv_at hl 8 rfl) ?_
  refine lv_imul hx hb dL_acts_701 ?_
  refine lv_iconst (v := 3) hx hb dL_acts_702 (by decide) ?_
  refine lv_iadd hx hb dL_acts_703 ?_
  refine lv_aload_n hx hb dL_acts_704 rfl (lv_at hl 1 rfl) ?_
  refine lv_iconst (v := 4) hx hb dL_acts_705 (by decide) ?_
  obtain ⟨hi, hF⟩ := rd_use hF
  refine va_iald hx hb hK hP 0 0 (pXL_0 cI cS xx xd xo hh ha z zn q la M342) rfl hi dL_acts_706 ?_
  refine lv_topi (fun v343 ev343 => ?_)
  have hF := hF v343 ev343
  obtain ⟨hi, hF⟩ := wr_use hF
  refine va_iast hx hb hK hP (hDa _) hS 4 0 (pXL_4 cI cS xx xd xo hh ha z zn q la M342) rfl hi dL_acts_707 (fun H locs hP _ hS => ?_)
  obtain ⟨M345, eM345⟩ : ∃ z : XLm, z = (M342.1, (M342.2.1, M342.2.2.1, M342.2.2.2.1, M342.2.2.2.2.1, (upd (M342.2.2.2.2.2.1) ((4 * x14) + 3 : Int32).toNatClampNeg v343), M342.2.2.2.2.2.2)) := ⟨_, rfl⟩
  have hF := nm_use hF eM345
  have hP : va_P D vwCl (wXL cI cS xx xd xo hh ha z zn q la M345) H := by rw [eM345]; exact hP
  refine lv_aload_n hx hb dL_acts_708 rfl (lv_at hl 1 rfl) ?_
  refine lv_iconst (v := 4) hx hb dL_acts_709 (by decide) ?_
  refine lv_dup2_11 hx hb dL_acts_710 rfl rfl ?_
  obtain ⟨hi, hF⟩ := rd_use hF
  refine va_iald hx hb hK hP 0 0 (pXL_0 cI cS xx xd xo hh ha z zn q la M345) rfl hi dL_acts_711 ?_
  refine lv_topi (fun v346 ev346 => ?_)
  have hF := hF v346 ev346
  refine lv_iconst (v := 1) hx hb dL_acts_712 (by decide) ?_
  refine lv_iadd hx hb dL_acts_713 ?_
  obtain ⟨hi, hF⟩ := wr_use hF
  refine va_iast hx hb hK hP (hDa _) hS 0 0 (pXL_0 cI cS xx xd xo hh ha z zn q la M345) rfl hi dL_acts_714 (fun H locs hP _ hS => ?_)
  obtain ⟨M348, eM348⟩ : ∃ z : XLm, z = (M345.1, ((upd (M345.2.1) (4 : Int32).toNatClampNeg (v346 + 1)), M345.2.2)) := ⟨_, rfl⟩
  have hF := nm_use hF eM348
  have hP : va_P D vwCl (wXL cI cS xx xd xo hh ha z zn q la M348) H := by rw [eM348]; exact hP
  refine lv_aload_n hx hb dL_acts_715 rfl (lv_at hl 1 rfl) ?_
  refine lv_iconst (v := 3) hx hb dL_acts_716 (by decide) ?_
  refine lv_dup2_11 hx hb dL_acts_717 rfl rfl ?_
  obtain ⟨hi, hF⟩ := rd_use hF
  refine va_iald hx hb hK hP 0 0 (pXL_0 cI cS xx xd xo hh ha z zn q la M348) rfl hi dL_acts_718 ?_
  refine lv_topi (fun v349 ev349 => ?_)
  have hF := hF v349 ev349
  refine lv_iload hx hb dL_acts_719 (lv_at hl 9 rfl) ?_
  refine lv_iload hx hb dL_acts_721 (lv_at hl 10 rfl) ?_
  refine lv_isub hx hb dL_acts_723 ?_
  refine lv_iadd hx hb dL_acts_724 ?_
  obtain ⟨hi, hF⟩ := wr_use hF
  refine va_iast hx hb hK hP (hDa _) hS 0 0 (pXL_0 cI cS xx xd xo hh ha z zn q la M348) rfl hi dL_acts_725 (fun H locs hP _ hS => ?_)
  obtain ⟨M351, eM351⟩ : ∃ z : XLm, z = (M348.1, ((upd (M348.2.1) (3 : Int32).toNatClampNeg (v349 + (x15 - x16))), M348.2.2)) := ⟨_, rfl⟩
  have hF := nm_use hF eM351
  have hP : va_P D vwCl (wXL cI cS xx xd xo hh ha z zn q la M351) H := by rw [eM351]; exact hP
  refine lv_iload hx hb dL_acts_726 (lv_at hl 10 rfl) ?_
  refine lv_if_le (tgt := 745) hx hb dL_acts_728 (by decide) (fun c352 => ?_) (fun c352 => ?_)
  · have hF := it_t hF c352
    exact tL_acts_j745 l D cS g cI xx xd xo hh ha z zn q la r M' C hDa M351 x10 x11 x12 x13 x14 _ _ _ hF hP hS (lv_sub hl [0, 1, 4, 5, 6, 7, 8] rfl)
  · have hF := it_f hF c352
    refine lv_aload hx hb dL_acts_731 (lv_at hl 3 rfl) ?_
    refine lv_iconst (v := 2) hx hb dL_acts_733 (by decide) ?_
    refine lv_iload hx hb dL_acts_734 (lv_at hl 7 rfl) ?_
    refine lv_imul hx hb dL_acts_736 ?_
    refine lv_iconst (v := 1) hx hb dL_acts_737 (by decide) ?_
    refine lv_iadd hx hb dL_acts_738 ?_
    refine lv_topi (fun v360 ev360 => ?_)
    have hF := nm_use hF ev360
    refine lv_dup2_11 hx hb dL_acts_739 rfl rfl ?_
    obtain ⟨hi, hF⟩ := rd_use hF
    refine va_iald hx hb hK hP 5 0 (pXL_5 cI cS xx xd xo hh ha z zn q la M351) rfl hi dL_acts_740 ?_
    refine lv_topi (fun v361 ev361 => ?_)
    have hF := hF v361 ev361
    refine lv_iload hx hb dL_acts_741 (lv_at hl 10 rfl) ?_
    refine lv_isub hx hb dL_acts_743 ?_
    obtain ⟨hi, hF⟩ := wr_use hF
    refine va_iast hx hb hK hP (hDa _) hS 5 0 (pXL_5 cI cS xx xd xo hh ha z zn q la M351) rfl hi dL_acts_744 (fun H locs hP _ hS => ?_)
    obtain ⟨M363, eM363⟩ : ∃ z : XLm, z = (M351.1, (M351.2.1, M351.2.2.1, M351.2.2.2.1, M351.2.2.2.2.1, M351.2.2.2.2.2.1, (upd (M351.2.2.2.2.2.2) (v360 : Int32).toNatClampNeg (v361 - x16)))) := ⟨_, rfl⟩
    have hF := nm_use hF eM363
    have hP : va_P D vwCl (wXL cI cS xx xd xo hh ha z zn q la M363) H := by rw [eM363]; exact hP
    exact tL_acts_j745 l D cS g cI xx xd xo hh ha z zn q la r M' C hDa M363 x10 x11 x12 x13 x14 _ _ _ hF hP hS (lv_sub hl [0, 1, 4, 5, 6, 7, 8] rfl)
set_option maxHeartbeats 4000000 in
set_option maxRecDepth 100000 in
theorem tL_acts_j544 (l : Launch) (D : va_G) (cS : ClassId) (g : Nat → Nat) (cI : ClassId) (xx xd xo hh ha : Nat) (z : Nat → Nat → Nat) (zn q : Nat → Nat) (la : Nat → Nat) (r : Int32) (M' : XLm) {p : Program} {e : Env} {s : State} {m : MethodId} {args : Array Value} {below : List Frame} {meth : Method} {c : Code} {A : Nat → Prop} (C : CX p s m args meth c A D cI cS g cL_acts 21 (some .boolean) RL) (hDa : ∀ N, va_D A (wXL cI cS xx xd xo hh ha z zn q la N)) : ∀ (N : XLm) (x10 : Int32) (x11 : Int32) (x12 : Int32) (x13 : Int32) (x14 : Int32) (x15 : Int32) (s0 : Int32) (H : Heap) (locs : List Loc) (ls : Array Slot), fL_acts_j544 N x10 x11 x12 x13 x14 x15 s0 = some (r, M') → va_P D vwCl (wXL cI cS xx xd xo hh ha z zn q la N) H → va_S A s.heap H locs → lv_has ls 21 [(0, .ref xx), (1, .ref (la 0)), (4, .ref (la 3)), (5, .ref (la 4)), (6, .ref (la 5)), (10, .int x10), (11, .int x11), (12, .int x12), (13, .int x13), (14, .int x14), (15, .int x15)] → W p l e rmL_acts s m args below meth c H locs 0 0 (MQ below (qI D r (wXL cI cS xx xd xo hh ha z zn q la (M')) A) args s 0 0 A) (F0 m 544 ls [.int s0]) := by
  obtain ⟨hx, hb, hr, hml, hlocks, hown, htb, hA, hK, hG⟩ := id C
  intro N x10 x11 x12 x13 x14 x15 s0 H locs ls hF hP hS hl
  refine lv_istore (lv' := [(16, .int s0), (0, .ref xx), (1, .ref (la 0)), (4, .ref (la 3)), (5, .ref (la 4)), (6, .ref (la 5)), (10, .int x10), (11, .int x11), (12, .int x12), (13, .int x13), (14, .int x14), (15, .int x15)]) hx hb dL_acts_544 hl (by decide) rfl (fun ls hl => ?_)
  refine lv_aload hx hb dL_acts_546 (lv_at hl 3 rfl) ?_
  refine lv_bipush (v := 9) hx hb dL_acts_548 (by decide) ?_
  refine lv_iload hx hb dL_acts_550 (lv_at hl 10 rfl) ?_
  refine lv_imul hx hb dL_acts_552 ?_
  refine lv_iload hx hb dL_acts_553 (lv_at hl 6 rfl) ?_
  obtain ⟨hi, hF⟩ := wr_use hF
  refine va_iast hx hb hK hP (hDa _) hS 3 0 (pXL_3 cI cS xx xd xo hh ha z zn q la N) rfl hi dL_acts_555 (fun H locs hP _ hS => ?_)
  obtain ⟨M319, eM319⟩ : ∃ z : XLm, z = (N.1, (N.2.1, N.2.2.1, N.2.2.2.1, (upd (N.2.2.2.2.1) (9 * x14 : Int32).toNatClampNeg x10), N.2.2.2.2.2)) := ⟨_, rfl⟩
  have hF := nm_use hF eM319
  have hP : va_P D vwCl (wXL cI cS xx xd xo hh ha z zn q la M319) H := by rw [eM319]; exact hP
  refine lv_aload hx hb dL_acts_556 (lv_at hl 3 rfl) ?_
  refine lv_bipush (v := 9) hx hb dL_acts_558 (by decide) ?_
  refine lv_iload hx hb dL_acts_560 (lv_at hl 10 rfl) ?_
  refine lv_imul hx hb dL_acts_562 ?_
  refine lv_iconst (v := 1) hx hb dL_acts_563 (by decide) ?_
  refine lv_iadd hx hb dL_acts_564 ?_
  refine lv_iload hx hb dL_acts_565 (lv_at hl 7 rfl) ?_
  obtain ⟨hi, hF⟩ := wr_use hF
  refine va_iast hx hb hK hP (hDa _) hS 3 0 (pXL_3 cI cS xx xd xo hh ha z zn q la M319) rfl hi dL_acts_567 (fun H locs hP _ hS => ?_)
  obtain ⟨M321, eM321⟩ : ∃ z : XLm, z = (M319.1, (M319.2.1, M319.2.2.1, M319.2.2.2.1, (upd (M319.2.2.2.2.1) ((9 * x14) + 1 : Int32).toNatClampNeg x11), M319.2.2.2.2.2)) := ⟨_, rfl⟩
  have hF := nm_use hF eM321
  have hP : va_P D vwCl (wXL cI cS xx xd xo hh ha z zn q la M321) H := by rw [eM321]; exact hP
  refine lv_aload hx hb dL_acts_568 (lv_at hl 3 rfl) ?_
  refine lv_bipush (v := 9) hx hb dL_acts_570 (by decide) ?_
  refine lv_iload hx hb dL_acts_572 (lv_at hl 10 rfl) ?_
  refine lv_imul hx hb dL_acts_574 ?_
  refine lv_iconst (v := 2) hx hb dL_acts_575 (by decide) ?_
  refine lv_iadd hx hb dL_acts_576 ?_
  refine lv_iload hx hb dL_acts_577 (lv_at hl 8 rfl) ?_
  obtain ⟨hi, hF⟩ := wr_use hF
  refine va_iast hx hb hK hP (hDa _) hS 3 0 (pXL_3 cI cS xx xd xo hh ha z zn q la M321) rfl hi dL_acts_579 (fun H locs hP _ hS => ?_)
  obtain ⟨M323, eM323⟩ : ∃ z : XLm, z = (M321.1, (M321.2.1, M321.2.2.1, M321.2.2.2.1, (upd (M321.2.2.2.2.1) ((9 * x14) + 2 : Int32).toNatClampNeg x12), M321.2.2.2.2.2)) := ⟨_, rfl⟩
  have hF := nm_use hF eM323
  have hP : va_P D vwCl (wXL cI cS xx xd xo hh ha z zn q la M323) H := by rw [eM323]; exact hP
  refine lv_aload hx hb dL_acts_580 (lv_at hl 3 rfl) ?_
  refine lv_bipush (v := 9) hx hb dL_acts_582 (by decide) ?_
  refine lv_iload hx hb dL_acts_584 (lv_at hl 10 rfl) ?_
  refine lv_imul hx hb dL_acts_586 ?_
  refine lv_iconst (v := 3) hx hb dL_acts_587 (by decide) ?_
  refine lv_iadd hx hb dL_acts_588 ?_
  refine lv_iconst (v := 0) hx hb dL_acts_589 (by decide) ?_
  obtain ⟨hi, hF⟩ := wr_use hF
  refine va_iast hx hb hK hP (hDa _) hS 3 0 (pXL_3 cI cS xx xd xo hh ha z zn q la M323) rfl hi dL_acts_590 (fun H locs hP _ hS => ?_)
  obtain ⟨M325, eM325⟩ : ∃ z : XLm, z = (M323.1, (M323.2.1, M323.2.2.1, M323.2.2.2.1, (upd (M323.2.2.2.2.1) ((9 * x14) + 3 : Int32).toNatClampNeg 0), M323.2.2.2.2.2)) := ⟨_, rfl⟩
  have hF := nm_use hF eM325
  have hP : va_P D vwCl (wXL cI cS xx xd xo hh ha z zn q la M325) H := by rw [eM325]; exact hP
  refine lv_aload hx hb dL_acts_591 (lv_at hl 3 rfl) ?_
  refine lv_bipush (v := 9) hx hb dL_acts_593 (by decide) ?_
  refine lv_iload hx hb dL_acts_595 (lv_at hl 10 rfl) ?_
  refine lv_imul hx hb dL_acts_597 ?_
  refine lv_iconst (v := 4) hx hb dL_acts_598 (by decide) ?_
  refine lv_iadd hx hb dL_acts_599 ?_
  refine lv_iload hx hb dL_acts_600 (lv_at hl 11 rfl) ?_
  obtain ⟨hi, hF⟩ := wr_use hF
  refine va_iast hx hb hK hP (hDa _) hS 3 0 (pXL_3 cI cS xx xd xo hh ha z zn q la M325) rfl hi dL_acts_602 (fun H locs hP _ hS => ?_)
  obtain ⟨M327, eM327⟩ : ∃ z : XLm, z = (M325.1, (M325.2.1, M325.2.2.1, M325.2.2.2.1, (upd (M325.2.2.2.2.1) ((9 * x14) + 4 : Int32).toNatClampNeg x15), M325.2.2.2.2.2)) := ⟨_, rfl⟩
  have hF := nm_use hF eM327
  have hP : va_P D vwCl (wXL cI cS xx xd xo hh ha z zn q la M327) H := by rw [eM327]; exact hP
  refine lv_aload hx hb dL_acts_603 (lv_at hl 3 rfl) ?_
  refine lv_bipush (v := 9) hx hb dL_acts_605 (by decide) ?_
  refine lv_iload hx hb dL_acts_607 (lv_at hl 10 rfl) ?_
  refine lv_imul hx hb dL_acts_609 ?_
  refine lv_iconst (v := 5) hx hb dL_acts_610 (by decide) ?_
  refine lv_iadd hx hb dL_acts_611 ?_
  refine lv_iload hx hb dL_acts_612 (lv_at hl 11 rfl) ?_
  refine lv_iload hx hb dL_acts_614 (lv_at hl 0 rfl) ?_
  refine lv_isub hx hb dL_acts_616 ?_
  obtain ⟨hi, hF⟩ := wr_use hF
  refine va_iast hx hb hK hP (hDa _) hS 3 0 (pXL_3 cI cS xx xd xo hh ha z zn q la M327) rfl hi dL_acts_617 (fun H locs hP _ hS => ?_)
  obtain ⟨M329, eM329⟩ : ∃ z : XLm, z = (M327.1, (M327.2.1, M327.2.2.1, M327.2.2.2.1, (upd (M327.2.2.2.2.1) ((9 * x14) + 5 : Int32).toNatClampNeg (x15 - s0)), M327.2.2.2.2.2)) := ⟨_, rfl⟩
  have hF := nm_use hF eM329
  have hP : va_P D vwCl (wXL cI cS xx xd xo hh ha z zn q la M329) H := by rw [eM329]; exact hP
  refine lv_aload hx hb dL_acts_618 (lv_at hl 3 rfl) ?_
  refine lv_bipush (v := 9) hx hb dL_acts_620 (by decide) ?_
  refine lv_iload hx hb dL_acts_622 (lv_at hl 10 rfl) ?_
  refine lv_imul hx hb dL_acts_624 ?_
  refine lv_bipush (v := 6) hx hb dL_acts_625 (by decide) ?_
  refine lv_iadd hx hb dL_acts_627 ?_
  refine lv_iconst (v := 0) hx hb dL_acts_628 (by decide) ?_
  obtain ⟨hi, hF⟩ := wr_use hF
  refine va_iast hx hb hK hP (hDa _) hS 3 0 (pXL_3 cI cS xx xd xo hh ha z zn q la M329) rfl hi dL_acts_629 (fun H locs hP _ hS => ?_)
  obtain ⟨M331, eM331⟩ : ∃ z : XLm, z = (M329.1, (M329.2.1, M329.2.2.1, M329.2.2.2.1, (upd (M329.2.2.2.2.1) ((9 * x14) + 6 : Int32).toNatClampNeg 0), M329.2.2.2.2.2)) := ⟨_, rfl⟩
  have hF := nm_use hF eM331
  have hP : va_P D vwCl (wXL cI cS xx xd xo hh ha z zn q la M331) H := by rw [eM331]; exact hP
  refine lv_aload hx hb dL_acts_630 (lv_at hl 3 rfl) ?_
  refine lv_bipush (v := 9) hx hb dL_acts_632 (by decide) ?_
  refine lv_iload hx hb dL_acts_634 (lv_at hl 10 rfl) ?_
  refine lv_imul hx hb dL_acts_636 ?_
  refine lv_bipush (v := 7) hx hb dL_acts_637 (by decide) ?_
  refine lv_iadd hx hb dL_acts_639 ?_
  refine lv_bipush (v := (-9)) hx hb dL_acts_640 (by decide) ?_
  obtain ⟨hi, hF⟩ := wr_use hF
  refine va_iast hx hb hK hP (hDa _) hS 3 0 (pXL_3 cI cS xx xd xo hh ha z zn q la M331) rfl hi dL_acts_642 (fun H locs hP _ hS => ?_)
  obtain ⟨M333, eM333⟩ : ∃ z : XLm, z = (M331.1, (M331.2.1, M331.2.2.1, M331.2.2.2.1, (upd (M331.2.2.2.2.1) ((9 * x14) + 7 : Int32).toNatClampNeg (-9)), M331.2.2.2.2.2)) := ⟨_, rfl⟩
  have hF := nm_use hF eM333
  have hP : va_P D vwCl (wXL cI cS xx xd xo hh ha z zn q la M333) H := by rw [eM333]; exact hP
  refine lv_aload hx hb dL_acts_643 (lv_at hl 3 rfl) ?_
  refine lv_bipush (v := 9) hx hb dL_acts_645 (by decide) ?_
  refine lv_iload hx hb dL_acts_647 (lv_at hl 10 rfl) ?_
  refine lv_imul hx hb dL_acts_649 ?_
  refine lv_bipush (v := 8) hx hb dL_acts_650 (by decide) ?_
  refine lv_iadd hx hb dL_acts_652 ?_
  refine lv_bipush (v := (-9)) hx hb dL_acts_653 (by decide) ?_
  obtain ⟨hi, hF⟩ := wr_use hF
  refine va_iast hx hb hK hP (hDa _) hS 3 0 (pXL_3 cI cS xx xd xo hh ha z zn q la M333) rfl hi dL_acts_655 (fun H locs hP _ hS => ?_)
  obtain ⟨M335, eM335⟩ : ∃ z : XLm, z = (M333.1, (M333.2.1, M333.2.2.1, M333.2.2.2.1, (upd (M333.2.2.2.2.1) ((9 * x14) + 8 : Int32).toNatClampNeg (-9)), M333.2.2.2.2.2)) := ⟨_, rfl⟩
  have hF := nm_use hF eM335
  have hP : va_P D vwCl (wXL cI cS xx xd xo hh ha z zn q la M335) H := by rw [eM335]; exact hP
  refine lv_aload hx hb dL_acts_656 (lv_at hl 4 rfl) ?_
  refine lv_iconst (v := 4) hx hb dL_acts_658 (by decide) ?_
  refine lv_iload hx hb dL_acts_659 (lv_at hl 10 rfl) ?_
  refine lv_imul hx hb dL_acts_661 ?_
  refine lv_iload hx hb dL_acts_662 (lv_at hl 9 rfl) ?_
  obtain ⟨hi, hF⟩ := wr_use hF
  refine va_iast hx hb hK hP (hDa _) hS 4 0 (pXL_4 cI cS xx xd xo hh ha z zn q la M335) rfl hi dL_acts_664 (fun H locs hP _ hS => ?_)
  obtain ⟨M337, eM337⟩ : ∃ z : XLm, z = (M335.1, (M335.2.1, M335.2.2.1, M335.2.2.2.1, M335.2.2.2.2.1, (upd (M335.2.2.2.2.2.1) (4 * x14 : Int32).toNatClampNeg x13), M335.2.2.2.2.2.2)) := ⟨_, rfl⟩
  have hF := nm_use hF eM337
  have hP : va_P D vwCl (wXL cI cS xx xd xo hh ha z zn q la M337) H := by rw [eM337]; exact hP
  refine lv_aload hx hb dL_acts_665 (lv_at hl 4 rfl) ?_
  refine lv_iconst (v := 4) hx hb dL_acts_667 (by decide) ?_
  refine lv_iload hx hb dL_acts_668 (lv_at hl 10 rfl) ?_
  refine lv_imul hx hb dL_acts_670 ?_
  refine lv_iconst (v := 1) hx hb dL_acts_671 (by decide) ?_
  refine lv_iadd hx hb dL_acts_672 ?_
  refine lv_iload hx hb dL_acts_673 (lv_at hl 0 rfl) ?_
  obtain ⟨hi, hF⟩ := wr_use hF
  refine va_iast hx hb hK hP (hDa _) hS 4 0 (pXL_4 cI cS xx xd xo hh ha z zn q la M337) rfl hi dL_acts_675 (fun H locs hP _ hS => ?_)
  obtain ⟨M339, eM339⟩ : ∃ z : XLm, z = (M337.1, (M337.2.1, M337.2.2.1, M337.2.2.2.1, M337.2.2.2.2.1, (upd (M337.2.2.2.2.2.1) ((4 * x14) + 1 : Int32).toNatClampNeg s0), M337.2.2.2.2.2.2)) := ⟨_, rfl⟩
  have hF := nm_use hF eM339
  have hP : va_P D vwCl (wXL cI cS xx xd xo hh ha z zn q la M339) H := by rw [eM339]; exact hP
  refine lv_aload hx hb dL_acts_676 (lv_at hl 4 rfl) ?_
  refine lv_iconst (v := 4) hx hb dL_acts_678 (by decide) ?_
  refine lv_iload hx hb dL_acts_679 (lv_at hl 10 rfl) ?_
  refine lv_imul hx hb dL_acts_681 ?_
  refine lv_iconst (v := 2) hx hb dL_acts_682 (by decide) ?_
  refine lv_iadd hx hb dL_acts_683 ?_
  refine lv_iload hx hb dL_acts_684 (lv_at hl 0 rfl) ?_
  refine lv_if_le (tgt := 694) hx hb dL_acts_686 (by decide) (fun c340 => ?_) (fun c340 => ?_)
  · have hF := it_t hF c340
    refine lv_iconst (v := (-1)) hx hb dL_acts_694 (by decide) ?_
    exact tL_acts_j695 l D cS g cI xx xd xo hh ha z zn q la r M' C hDa M339 x10 x11 x12 x13 x14 x15 s0 ((4 * x14) + 2) (-1) _ _ _ hF hP hS (lv_sub hl [1, 2, 4, 5, 6, 7, 8, 9, 10, 11, 0] rfl)
  · have hF := it_f hF c340
    refine lv_iload hx hb dL_acts_689 (lv_at hl 10 rfl) ?_
    refine lv_goto (tgt := 695) hx hb dL_acts_691 (by decide) ?_
    exact tL_acts_j695 l D cS g cI xx xd xo hh ha z zn q la r M' C hDa M339 x10 x11 x12 x13 x14 x15 s0 ((4 * x14) + 2) x14 _ _ _ hF hP hS (lv_sub hl [1, 2, 4, 5, 6, 7, 8, 9, 10, 11, 0] rfl)
set_option maxHeartbeats 4000000 in
set_option maxRecDepth 100000 in
theorem tL_acts_j488 (l : Launch) (D : va_G) (cS : ClassId) (g : Nat → Nat) (cI : ClassId) (xx xd xo hh ha : Nat) (z : Nat → Nat → Nat) (zn q : Nat → Nat) (la : Nat → Nat) (r : Int32) (M' : XLm) {p : Program} {e : Env} {s : State} {m : MethodId} {args : Array Value} {below : List Frame} {meth : Method} {c : Code} {A : Nat → Prop} (C : CX p s m args meth c A D cI cS g cL_acts 21 (some .boolean) RL) (hDa : ∀ N, va_D A (wXL cI cS xx xd xo hh ha z zn q la N)) : ∀ (N : XLm) (x10 : Int32) (x11 : Int32) (x12 : Int32) (x13 : Int32) (H : Heap) (locs : List Loc) (ls : Array Slot), fL_acts_j488 N x10 x11 x12 x13 = some (r, M') → va_P D vwCl (wXL cI cS xx xd xo hh ha z zn q la N) H → va_S A s.heap H locs → lv_has ls 21 [(0, .ref xx), (1, .ref (la 0)), (3, .ref (la 2)), (4, .ref (la 3)), (5, .ref (la 4)), (6, .ref (la 5)), (10, .int x10), (11, .int x11), (12, .int x12), (13, .int x13)] → W p l e rmL_acts s m args below meth c H locs 0 0 (MQ below (qI D r (wXL cI cS xx xd xo hh ha z zn q la (M')) A) args s 0 0 A) (F0 m 488 ls []) := by
  obtain ⟨hx, hb, hr, hml, hlocks, hown, htb, hA, hK, hG⟩ := id C
  intro N x10 x11 x12 x13 H locs ls hF hP hS hl
  refine lv_aload_n hx hb dL_acts_488 rfl (lv_at hl 1 rfl) ?_
  refine lv_iconst (v := 1) hx hb dL_acts_489 (by decide) ?_
  obtain ⟨hi, hF⟩ := rd_use hF
  refine va_iald hx hb hK hP 0 0 (pXL_0 cI cS xx xd xo hh ha z zn q la N) rfl hi dL_acts_490 ?_
  refine lv_topi (fun v312 ev312 => ?_)
  have hF := hF v312 ev312
  refine lv_istore (lv' := [(14, .int v312), (0, .ref xx), (1, .ref (la 0)), (3, .ref (la 2)), (4, .ref (la 3)), (5, .ref (la 4)), (6, .ref (la 5)), (10, .int x10), (11, .int x11), (12, .int x12), (13, .int x13)]) hx hb dL_acts_491 hl (by decide) rfl (fun ls hl => ?_)
  refine lv_aload_n hx hb dL_acts_493 rfl (lv_at hl 3 rfl) ?_
  refine lv_bipush (v := 11) hx hb dL_acts_494 (by decide) ?_
  refine lv_iload hx hb dL_acts_496 (lv_at hl 7 rfl) ?_
  refine lv_imul hx hb dL_acts_498 ?_
  refine lv_iconst (v := 2) hx hb dL_acts_499 (by decide) ?_
  refine lv_iadd hx hb dL_acts_500 ?_
  obtain ⟨hi, hF⟩ := rd_use hF
  refine va_iald hx hb hK hP 2 0 (pXL_2 cI cS xx xd xo hh ha z zn q la N) rfl hi dL_acts_501 ?_
  refine lv_topi (fun v313 ev313 => ?_)
  have hF := hF v313 ev313
  refine lv_iload hx hb dL_acts_502 (lv_at hl 9 rfl) ?_
  refine lv_imul hx hb dL_acts_504 ?_
  refine lv_topi (fun v314 ev314 => ?_)
  have hF := nm_use hF ev314
  refine lv_istore (lv' := [(15, .int v314), (14, .int v312), (0, .ref xx), (1, .ref (la 0)), (3, .ref (la 2)), (4, .ref (la 3)), (5, .ref (la 4)), (6, .ref (la 5)), (10, .int x10), (11, .int x11), (12, .int x12), (13, .int x13)]) hx hb dL_acts_505 hl (by decide) rfl (fun ls hl => ?_)
  refine lv_iload hx hb dL_acts_507 (lv_at hl 11 rfl) ?_
  refine lv_if_ge (tgt := 516) hx hb dL_acts_509 (by decide) (fun c315 => ?_) (fun c315 => ?_)
  · have hF := it_t hF c315
    refine lv_aload hx hb dL_acts_516 (lv_at hl 7 rfl) ?_
    refine lv_iconst (v := 2) hx hb dL_acts_518 (by decide) ?_
    refine lv_iload hx hb dL_acts_519 (lv_at hl 11 rfl) ?_
    refine lv_imul hx hb dL_acts_521 ?_
    refine lv_iconst (v := 1) hx hb dL_acts_522 (by decide) ?_
    refine lv_iadd hx hb dL_acts_523 ?_
    obtain ⟨hi, hF⟩ := rd_use hF
    refine va_iald hx hb hK hP 5 0 (pXL_5 cI cS xx xd xo hh ha z zn q la N) rfl hi dL_acts_524 ?_
    refine lv_topi (fun v316 ev316 => ?_)
    have hF := hF v316 ev316
    refine lv_iload hx hb dL_acts_525 (lv_at hl 0 rfl) ?_
    refine lv_icmp_ge (tgt := 542) hx hb dL_acts_527 (by decide) (fun c317 => ?_) (fun c317 => ?_)
    · have hF := it_t hF c317
      refine lv_iload hx hb dL_acts_542 (lv_at hl 0 rfl) ?_
      exact tL_acts_j544 l D cS g cI xx xd xo hh ha z zn q la r M' C hDa N x10 x11 x12 x13 v312 v314 v314 _ _ _ hF hP hS (lv_sub hl [2, 3, 5, 6, 7, 8, 9, 10, 11, 1, 0] rfl)
    · have hF := it_f hF c317
      refine lv_aload hx hb dL_acts_530 (lv_at hl 7 rfl) ?_
      refine lv_iconst (v := 2) hx hb dL_acts_532 (by decide) ?_
      refine lv_iload hx hb dL_acts_533 (lv_at hl 11 rfl) ?_
      refine lv_imul hx hb dL_acts_535 ?_
      refine lv_iconst (v := 1) hx hb dL_acts_536 (by decide) ?_
      refine lv_iadd hx hb dL_acts_537 ?_
      obtain ⟨hi, hF⟩ := rd_use hF
      refine va_iald hx hb hK hP 5 0 (pXL_5 cI cS xx xd xo hh ha z zn q la N) rfl hi dL_acts_538 ?_
      refine lv_topi (fun v364 ev364 => ?_)
      have hF := hF v364 ev364
      refine lv_goto (tgt := 544) hx hb dL_acts_539 (by decide) ?_
      exact tL_acts_j544 l D cS g cI xx xd xo hh ha z zn q la r M' C hDa N x10 x11 x12 x13 v312 v314 v364 _ _ _ hF hP hS (lv_sub hl [2, 3, 5, 6, 7, 8, 9, 10, 11, 1, 0] rfl)
  · have hF := it_f hF c315
    refine lv_iconst (v := 0) hx hb dL_acts_512 (by decide) ?_
    refine lv_goto (tgt := 544) hx hb dL_acts_513 (by decide) ?_
    exact tL_acts_j544 l D cS g cI xx xd xo hh ha z zn q la r M' C hDa N x10 x11 x12 x13 v312 v314 0 _ _ _ hF hP hS (lv_sub hl [2, 3, 5, 6, 7, 8, 9, 10, 11, 1, 0] rfl)
set_option maxHeartbeats 4000000 in
set_option maxRecDepth 100000 in
theorem tL_acts_j434 (l : Launch) (D : va_G) (cS : ClassId) (g : Nat → Nat) (cI : ClassId) (xx xd xo hh ha : Nat) (z : Nat → Nat → Nat) (zn q : Nat → Nat) (la : Nat → Nat) (r : Int32) (M' : XLm) {p : Program} {e : Env} {s : State} {m : MethodId} {args : Array Value} {below : List Frame} {meth : Method} {c : Code} {A : Nat → Prop} (C : CX p s m args meth c A D cI cS g cL_acts 21 (some .boolean) RL) (hDa : ∀ N, va_D A (wXL cI cS xx xd xo hh ha z zn q la N)) : ∀ (N : XLm) (x10 : Int32) (x11 : Int32) (x12 : Int32) (x13 : Int32) (H : Heap) (locs : List Loc) (ls : Array Slot), fL_acts_j434 N x10 x11 x12 x13 = some (r, M') → va_P D vwCl (wXL cI cS xx xd xo hh ha z zn q la N) H → va_S A s.heap H locs → lv_has ls 21 [(0, .ref xx), (1, .ref (la 0)), (3, .ref (la 2)), (4, .ref (la 3)), (5, .ref (la 4)), (6, .ref (la 5)), (10, .int x10), (11, .int x11), (12, .int x12), (13, .int x13)] → W p l e rmL_acts s m args below meth c H locs 0 0 (MQ below (qI D r (wXL cI cS xx xd xo hh ha z zn q la (M')) A) args s 0 0 A) (F0 m 434 ls []) := by
  obtain ⟨hx, hb, hr, hml, hlocks, hown, htb, hA, hK, hG⟩ := id C
  intro N x10 x11 x12 x13 H locs ls hF hP hS hl
  refine lv_aload_n hx hb dL_acts_434 rfl (lv_at hl 1 rfl) ?_
  refine lv_iconst (v := 1) hx hb dL_acts_435 (by decide) ?_
  obtain ⟨hi, hF⟩ := rd_use hF
  refine va_iald hx hb hK hP 0 0 (pXL_0 cI cS xx xd xo hh ha z zn q la N) rfl hi dL_acts_436 ?_
  refine lv_topi (fun v310 ev310 => ?_)
  have hF := hF v310 ev310
  refine lv_bipush (v := 7) hx hb dL_acts_437 (by decide) ?_
  refine lv_icmp_ne (tgt := 488) hx hb dL_acts_439 (by decide) (fun c311 => ?_) (fun c311 => ?_)
  · have hF := it_f hF c311
    exact tL_acts_j488 l D cS g cI xx xd xo hh ha z zn q la r M' C hDa N x10 x11 x12 x13 _ _ _ hF hP hS (lv_sub hl [0, 1, 2, 3, 4, 5, 6, 7, 8, 9] rfl)
  · have hF := it_t hF c311
    refine lv_aload_n hx hb dL_acts_442 rfl (lv_at hl 0 rfl) ?_
    refine lv_iload hx hb dL_acts_443 (lv_at hl 6 rfl) ?_
    refine lv_iload hx hb dL_acts_445 (lv_at hl 7 rfl) ?_
    refine lv_aload_n hx hb dL_acts_447 rfl (lv_at hl 2 rfl) ?_
    refine lv_bipush (v := 11) hx hb dL_acts_448 (by decide) ?_
    refine lv_iload hx hb dL_acts_450 (lv_at hl 6 rfl) ?_
    refine lv_imul hx hb dL_acts_452 ?_
    refine lv_iconst (v := 3) hx hb dL_acts_453 (by decide) ?_
    refine lv_iadd hx hb dL_acts_454 ?_
    obtain ⟨hi, hF⟩ := rd_use hF
    refine va_iald hx hb hK hP 2 0 (pXL_2 cI cS xx xd xo hh ha z zn q la N) rfl hi dL_acts_455 ?_
    refine lv_topi (fun v365 ev365 => ?_)
    have hF := hF v365 ev365
    refine lv_iconst (v := 1) hx hb dL_acts_456 (by decide) ?_
    refine lv_iadd hx hb dL_acts_457 ?_
    refine lv_iload hx hb dL_acts_458 (lv_at hl 9 rfl) ?_
    obtain ⟨r367, M366, hM366, hF⟩ := b2_use hF
    refine cl_VI ⟨hx, hb, hml, hown, htb⟩ (kX8_book l D cS g cI xx xd xo hh ha z zn q (N.1) x10 x11 (v365 + 1) x13 _ _ hM366) (cwV 4 htb (gX8_book bw2_103) rfl rfl rfl hdX8_book ⟨Nat.le_of_ble_eq_true rfl, Nat.le_of_ble_eq_true rfl⟩) hK (hDa _) hG hA hP hS (sg_XL_XX cI cS xx xd xo hh ha z zn q la N M366) hl.1 rfl 0 (pXX_0 _ _ _ _ _ _ _ _ _ _ _) rfl rfl (Nat.le_of_ble_eq_true rfl) dL_acts_460 (fun H locs hP hS => ?_)
    obtain ⟨M368, eM368⟩ : ∃ z : XLm, z = (M366, N.2) := ⟨_, rfl⟩
    have hF := nm_use hF eM368
    have hP : va_P D vwCl (wXL cI cS xx xd xo hh ha z zn q la M368) H := by rw [eM368]; exact hP
    refine lv_iconst (v := (-1)) hx hb dL_acts_463 (by decide) ?_
    refine lv_icmp_ne (tgt := 486) hx hb dL_acts_464 (by decide) (fun c369 => ?_) (fun c369 => ?_)
    · have hF := it_f hF c369
      refine lv_iconst (v := 0) hx hb dL_acts_486 (by decide) ?_
      obtain ⟨hz, hF⟩ := zb_use hF
      obtain ⟨er, eM⟩ := pr_use hF
      exact rt_Z hx hb hr hlocks hS (by rw [← eM]; exact hP) hz er dL_acts_487
    · have hF := it_t hF c369
      refine lv_aload_n hx hb dL_acts_467 rfl (lv_at hl 0 rfl) ?_
      refine lv_iload hx hb dL_acts_468 (lv_at hl 6 rfl) ?_
      refine lv_sipush (v := 721) hx hb dL_acts_470 (by decide) ?_
      refine lv_iconst (v := 2) hx hb dL_acts_473 (by decide) ?_
      refine lv_iconst (v := (-1)) hx hb dL_acts_474 (by decide) ?_
      obtain ⟨r371, M370, hM370, hF⟩ := b2_use hF
      refine cl_VI ⟨hx, hb, hml, hown, htb⟩ (kX8_book l D cS g cI xx xd xo hh ha z zn q (M368.1) x10 721 2 (-1) _ _ hM370) (cwV 4 htb (gX8_book bw2_103) rfl rfl rfl hdX8_book ⟨Nat.le_of_ble_eq_true rfl, Nat.le_of_ble_eq_true rfl⟩) hK (hDa _) hG hA hP hS (sg_XL_XX cI cS xx xd xo hh ha z zn q la M368 M370) hl.1 rfl 0 (pXX_0 _ _ _ _ _ _ _ _ _ _ _) rfl rfl (Nat.le_of_ble_eq_true rfl) dL_acts_475 (fun H locs hP hS => ?_)
      obtain ⟨M372, eM372⟩ : ∃ z : XLm, z = (M370, M368.2) := ⟨_, rfl⟩
      have hF := nm_use hF eM372
      have hP : va_P D vwCl (wXL cI cS xx xd xo hh ha z zn q la M372) H := by rw [eM372]; exact hP
      refine lv_iconst (v := (-1)) hx hb dL_acts_478 (by decide) ?_
      refine lv_icmp_ne (tgt := 486) hx hb dL_acts_479 (by decide) (fun c373 => ?_) (fun c373 => ?_)
      · have hF := it_f hF c373
        refine lv_iconst (v := 0) hx hb dL_acts_486 (by decide) ?_
        obtain ⟨hz, hF⟩ := zb_use hF
        obtain ⟨er, eM⟩ := pr_use hF
        exact rt_Z hx hb hr hlocks hS (by rw [← eM]; exact hP) hz er dL_acts_487
      · have hF := it_t hF c373
        refine lv_iconst (v := 1) hx hb dL_acts_482 (by decide) ?_
        refine lv_goto (tgt := 487) hx hb dL_acts_483 (by decide) ?_
        obtain ⟨hz, hF⟩ := zb_use hF
        obtain ⟨er, eM⟩ := pr_use hF
        exact rt_Z hx hb hr hlocks hS (by rw [← eM]; exact hP) hz er dL_acts_487
set_option maxHeartbeats 4000000 in
set_option maxRecDepth 100000 in
theorem tL_acts_j357 (l : Launch) (D : va_G) (cS : ClassId) (g : Nat → Nat) (cI : ClassId) (xx xd xo hh ha : Nat) (z : Nat → Nat → Nat) (zn q : Nat → Nat) (la : Nat → Nat) (r : Int32) (M' : XLm) {p : Program} {e : Env} {s : State} {m : MethodId} {args : Array Value} {below : List Frame} {meth : Method} {c : Code} {A : Nat → Prop} (C : CX p s m args meth c A D cI cS g cL_acts 21 (some .boolean) RL) (hDa : ∀ N, va_D A (wXL cI cS xx xd xo hh ha z zn q la N)) : ∀ (N : XLm) (x8 : Int32) (x10 : Int32) (s0 : Int32) (s1 : Int32) (H : Heap) (locs : List Loc) (ls : Array Slot), fL_acts_j357 N x8 x10 s0 s1 = some (r, M') → va_P D vwCl (wXL cI cS xx xd xo hh ha z zn q la N) H → va_S A s.heap H locs → lv_has ls 21 [(0, .ref xx), (1, .ref (la 0)), (3, .ref (la 2)), (4, .ref (la 3)), (5, .ref (la 4)), (6, .ref (la 5)), (8, .int x8), (10, .int x10)] → W p l e rmL_acts s m args below meth c H locs 0 0 (MQ below (qI D r (wXL cI cS xx xd xo hh ha z zn q la (M')) A) args s 0 0 A) (F0 m 357 ls [.int s1, .int s0]) := by
  obtain ⟨hx, hb, hr, hml, hlocks, hown, htb, hA, hK, hG⟩ := id C
  intro N x8 x10 s0 s1 H locs ls hF hP hS hl
  obtain ⟨hd, hF⟩ := mo_use hF
  refine lv_irem hx hb dL_acts_357 hd ?_
  refine lv_topi (fun v299 ev299 => ?_)
  have hF := hF v299 ev299
  refine lv_istore (lv' := [(11, .int v299), (0, .ref xx), (1, .ref (la 0)), (3, .ref (la 2)), (4, .ref (la 3)), (5, .ref (la 4)), (6, .ref (la 5)), (8, .int x8), (10, .int x10)]) hx hb dL_acts_358 hl (by decide) rfl (fun ls hl => ?_)
  refine lv_iconst (v := 2) hx hb dL_acts_360 (by decide) ?_
  refine lv_iload hx hb dL_acts_361 (lv_at hl 7 rfl) ?_
  refine lv_sipush (v := 1440) hx hb dL_acts_363 (by decide) ?_
  obtain ⟨hd, hF⟩ := dv_use hF
  refine lv_idiv hx hb dL_acts_366 hd ?_
  refine lv_topi (fun v300 ev300 => ?_)
  have hF := hF v300 ev300
  refine lv_aload_n hx hb dL_acts_367 rfl (lv_at hl 3 rfl) ?_
  refine lv_bipush (v := 11) hx hb dL_acts_368 (by decide) ?_
  refine lv_iload hx hb dL_acts_370 (lv_at hl 8 rfl) ?_
  refine lv_imul hx hb dL_acts_372 ?_
  refine lv_iconst (v := 3) hx hb dL_acts_373 (by decide) ?_
  refine lv_iadd hx hb dL_acts_374 ?_
  obtain ⟨hi, hF⟩ := rd_use hF
  refine va_iald hx hb hK hP 2 0 (pXL_2 cI cS xx xd xo hh ha z zn q la N) rfl hi dL_acts_375 ?_
  refine lv_topi (fun v301 ev301 => ?_)
  have hF := hF v301 ev301
  refine lv_iconst (v := 1) hx hb dL_acts_376 (by decide) ?_
  refine lv_isub hx hb dL_acts_377 ?_
  obtain ⟨hd, hF⟩ := mo_use hF
  refine lv_irem hx hb dL_acts_378 hd ?_
  refine lv_topi (fun v302 ev302 => ?_)
  have hF := hF v302 ev302
  refine lv_iadd hx hb dL_acts_379 ?_
  refine lv_topi (fun v303 ev303 => ?_)
  have hF := nm_use hF ev303
  refine lv_istore (lv' := [(12, .int v303), (11, .int v299), (0, .ref xx), (1, .ref (la 0)), (3, .ref (la 2)), (4, .ref (la 3)), (5, .ref (la 4)), (6, .ref (la 5)), (8, .int x8), (10, .int x10)]) hx hb dL_acts_380 hl (by decide) rfl (fun ls hl => ?_)
  refine lv_iload hx hb dL_acts_382 (lv_at hl 8 rfl) ?_
  refine lv_iconst (v := 5) hx hb dL_acts_384 (by decide) ?_
  obtain ⟨hd, hF⟩ := dv_use hF
  refine lv_idiv hx hb dL_acts_385 hd ?_
  refine lv_topi (fun v304 ev304 => ?_)
  have hF := hF v304 ev304
  refine lv_aload_n hx hb dL_acts_386 rfl (lv_at hl 3 rfl) ?_
  refine lv_iconst (v := 2) hx hb dL_acts_387 (by decide) ?_
  obtain ⟨hi, hF⟩ := rd_use hF
  refine va_iald hx hb hK hP 0 0 (pXL_0 cI cS xx xd xo hh ha z zn q la N) rfl hi dL_acts_388 ?_
  refine lv_topi (fun v305 ev305 => ?_)
  have hF := hF v305 ev305
  refine lv_iconst (v := 1) hx hb dL_acts_389 (by decide) ?_
  refine lv_iadd hx hb dL_acts_390 ?_
  obtain ⟨hd, hF⟩ := mo_use hF
  refine lv_irem hx hb dL_acts_391 hd ?_
  refine lv_topi (fun v306 ev306 => ?_)
  have hF := hF v306 ev306
  refine lv_iconst (v := 1) hx hb dL_acts_392 (by decide) ?_
  refine lv_isub hx hb dL_acts_393 ?_
  refine lv_topi (fun v307 ev307 => ?_)
  have hF := nm_use hF ev307
  refine lv_istore (lv' := [(13, .int v307), (12, .int v303), (11, .int v299), (0, .ref xx), (1, .ref (la 0)), (3, .ref (la 2)), (4, .ref (la 3)), (5, .ref (la 4)), (6, .ref (la 5)), (8, .int x8), (10, .int x10)]) hx hb dL_acts_394 hl (by decide) rfl (fun ls hl => ?_)
  refine lv_aload_n hx hb dL_acts_396 rfl (lv_at hl 4 rfl) ?_
  refine lv_aload_n hx hb dL_acts_397 rfl (lv_at hl 5 rfl) ?_
  refine lv_aload hx hb dL_acts_398 (lv_at hl 6 rfl) ?_
  refine lv_iload hx hb dL_acts_400 (lv_at hl 10 rfl) ?_
  refine lv_iload hx hb dL_acts_402 (lv_at hl 2 rfl) ?_
  refine lv_iconst (v := (-1)) hx hb dL_acts_404 (by decide) ?_
  obtain ⟨r308, hr308, hF⟩ := bd_use hF
  refine cl_SI ⟨hx, hb, hml, hown, htb⟩ (kL_may l D cS g cI la (N.2) x10 v299 (-1) _ hr308) (va_cwS 6 htb (gL_may bw2_100) rfl rfl rfl hdL_may ⟨Nat.le_of_ble_eq_true rfl, Nat.le_of_ble_eq_true rfl⟩) hK (hDa _) hG hA hP hS (sr_XL_LA cI cS xx xd xo hh ha z zn q la N) hl.1 rfl rfl (Nat.le_of_ble_eq_true rfl) dL_acts_405 (fun H locs hP hS => ?_)
  refine lv_if_ne (tgt := 434) hx hb dL_acts_408 (by decide) (fun c309 => ?_) (fun c309 => ?_)
  · have hF := it_f hF c309
    exact tL_acts_j434 l D cS g cI xx xd xo hh ha z zn q la r M' C hDa N x10 v299 v303 v307 _ _ _ hF hP hS (lv_sub hl [3, 4, 5, 6, 7, 8, 10, 2, 1, 0] rfl)
  · have hF := it_t hF c309
    refine lv_aload_n hx hb dL_acts_411 rfl (lv_at hl 3 rfl) ?_
    refine lv_iload hx hb dL_acts_412 (lv_at hl 10 rfl) ?_
    refine lv_iload hx hb dL_acts_414 (lv_at hl 2 rfl) ?_
    refine lv_iload hx hb dL_acts_416 (lv_at hl 1 rfl) ?_
    refine lv_iload hx hb dL_acts_418 (lv_at hl 0 rfl) ?_
    obtain ⟨r375, M374, hM374, hF⟩ := b2_use hF
    refine cl_VI ⟨hx, hb, hml, hown, htb⟩ (kX8_book l D cS g cI xx xd xo hh ha z zn q (N.1) x10 v299 v303 v307 _ _ hM374) (cwV 4 htb (gX8_book bw2_103) rfl rfl rfl hdX8_book ⟨Nat.le_of_ble_eq_true rfl, Nat.le_of_ble_eq_true rfl⟩) hK (hDa _) hG hA hP hS (sg_XL_XX cI cS xx xd xo hh ha z zn q la N M374) hl.1 rfl 0 (pXX_0 _ _ _ _ _ _ _ _ _ _ _) rfl rfl (Nat.le_of_ble_eq_true rfl) dL_acts_420 (fun H locs hP hS => ?_)
    obtain ⟨M376, eM376⟩ : ∃ z : XLm, z = (M374, N.2) := ⟨_, rfl⟩
    have hF := nm_use hF eM376
    have hP : va_P D vwCl (wXL cI cS xx xd xo hh ha z zn q la M376) H := by rw [eM376]; exact hP
    refine lv_bipush (v := (-2)) hx hb dL_acts_423 (by decide) ?_
    refine lv_icmp_ne (tgt := 432) hx hb dL_acts_425 (by decide) (fun c377 => ?_) (fun c377 => ?_)
    · have hF := it_f hF c377
      refine lv_iconst (v := 0) hx hb dL_acts_432 (by decide) ?_
      obtain ⟨hz, hF⟩ := zb_use hF
      obtain ⟨er, eM⟩ := pr_use hF
      exact rt_Z hx hb hr hlocks hS (by rw [← eM]; exact hP) hz er dL_acts_433
    · have hF := it_t hF c377
      refine lv_iconst (v := 1) hx hb dL_acts_428 (by decide) ?_
      refine lv_goto (tgt := 433) hx hb dL_acts_429 (by decide) ?_
      obtain ⟨hz, hF⟩ := zb_use hF
      obtain ⟨er, eM⟩ := pr_use hF
      exact rt_Z hx hb hr hlocks hS (by rw [← eM]; exact hP) hz er dL_acts_433
set_option maxHeartbeats 4000000 in
set_option maxRecDepth 100000 in
theorem tL_acts_j337 (l : Launch) (D : va_G) (cS : ClassId) (g : Nat → Nat) (cI : ClassId) (xx xd xo hh ha : Nat) (z : Nat → Nat → Nat) (zn q : Nat → Nat) (la : Nat → Nat) (r : Int32) (M' : XLm) {p : Program} {e : Env} {s : State} {m : MethodId} {args : Array Value} {below : List Frame} {meth : Method} {c : Code} {A : Nat → Prop} (C : CX p s m args meth c A D cI cS g cL_acts 21 (some .boolean) RL) (hDa : ∀ N, va_D A (wXL cI cS xx xd xo hh ha z zn q la N)) : ∀ (N : XLm) (x8 : Int32) (x10 : Int32) (H : Heap) (locs : List Loc) (ls : Array Slot), fL_acts_j337 N x8 x10 = some (r, M') → va_P D vwCl (wXL cI cS xx xd xo hh ha z zn q la N) H → va_S A s.heap H locs → lv_has ls 21 [(0, .ref xx), (1, .ref (la 0)), (3, .ref (la 2)), (4, .ref (la 3)), (5, .ref (la 4)), (6, .ref (la 5)), (8, .int x8), (10, .int x10)] → W p l e rmL_acts s m args below meth c H locs 0 0 (MQ below (qI D r (wXL cI cS xx xd xo hh ha z zn q la (M')) A) args s 0 0 A) (F0 m 337 ls []) := by
  obtain ⟨hx, hb, hr, hml, hlocks, hown, htb, hA, hK, hG⟩ := id C
  intro N x8 x10 H locs ls hF hP hS hl
  refine lv_iload hx hb dL_acts_337 (lv_at hl 6 rfl) ?_
  refine lv_iconst (v := 3) hx hb dL_acts_339 (by decide) ?_
  obtain ⟨hd, hF⟩ := dv_use hF
  refine lv_idiv hx hb dL_acts_340 hd ?_
  refine lv_topi (fun v296 ev296 => ?_)
  have hF := hF v296 ev296
  refine lv_iload hx hb dL_acts_341 (lv_at hl 6 rfl) ?_
  refine lv_iconst (v := 2) hx hb dL_acts_343 (by decide) ?_
  obtain ⟨hd, hF⟩ := mo_use hF
  refine lv_irem hx hb dL_acts_344 hd ?_
  refine lv_topi (fun v297 ev297 => ?_)
  have hF := hF v297 ev297
  refine lv_if_ne (tgt := 354) hx hb dL_acts_345 (by decide) (fun c298 => ?_) (fun c298 => ?_)
  · have hF := it_f hF c298
    refine lv_sipush (v := 240) hx hb dL_acts_354 (by decide) ?_
    exact tL_acts_j357 l D cS g cI xx xd xo hh ha z zn q la r M' C hDa N x8 x10 v296 240 _ _ _ hF hP hS (lv_sub hl [0, 1, 2, 3, 4, 5, 6, 7] rfl)
  · have hF := it_t hF c298
    refine lv_sipush (v := 721) hx hb dL_acts_348 (by decide) ?_
    refine lv_goto (tgt := 357) hx hb dL_acts_351 (by decide) ?_
    exact tL_acts_j357 l D cS g cI xx xd xo hh ha z zn q la r M' C hDa N x8 x10 v296 721 _ _ _ hF hP hS (lv_sub hl [0, 1, 2, 3, 4, 5, 6, 7] rfl)
set_option maxHeartbeats 4000000 in
set_option maxRecDepth 100000 in
theorem tL_acts_j322 (l : Launch) (D : va_G) (cS : ClassId) (g : Nat → Nat) (cI : ClassId) (xx xd xo hh ha : Nat) (z : Nat → Nat → Nat) (zn q : Nat → Nat) (la : Nat → Nat) (r : Int32) (M' : XLm) {p : Program} {e : Env} {s : State} {m : MethodId} {args : Array Value} {below : List Frame} {meth : Method} {c : Code} {A : Nat → Prop} (C : CX p s m args meth c A D cI cS g cL_acts 21 (some .boolean) RL) (hDa : ∀ N, va_D A (wXL cI cS xx xd xo hh ha z zn q la N)) : ∀ (N : XLm) (x8 : Int32) (x9 : Int32) (H : Heap) (locs : List Loc) (ls : Array Slot), fL_acts_j322 N x8 x9 = some (r, M') → va_P D vwCl (wXL cI cS xx xd xo hh ha z zn q la N) H → va_S A s.heap H locs → lv_has ls 21 [(0, .ref xx), (1, .ref (la 0)), (2, .ref (la 1)), (3, .ref (la 2)), (4, .ref (la 3)), (5, .ref (la 4)), (6, .ref (la 5)), (8, .int x8), (9, .int x9)] → W p l e rmL_acts s m args below meth c H locs 0 0 (MQ below (qI D r (wXL cI cS xx xd xo hh ha z zn q la (M')) A) args s 0 0 A) (F0 m 322 ls []) := by
  obtain ⟨hx, hb, hr, hml, hlocks, hown, htb, hA, hK, hG⟩ := id C
  intro N x8 x9 H locs ls hF hP hS hl
  refine lv_iload hx hb dL_acts_322 (lv_at hl 7 rfl) ?_
  refine lv_aload_n hx hb dL_acts_324 rfl (lv_at hl 1 rfl) ?_
  refine lv_iconst (v := 0) hx hb dL_acts_325 (by decide) ?_
  obtain ⟨hi, hF⟩ := rd_use hF
  refine va_iald hx hb hK hP 0 0 (pXL_0 cI cS xx xd xo hh ha z zn q la N) rfl hi dL_acts_326 ?_
  refine lv_topi (fun v51 ev51 => ?_)
  have hF := hF v51 ev51
  obtain ⟨hd, hF⟩ := mo_use hF
  refine lv_irem hx hb dL_acts_327 hd ?_
  refine lv_topi (fun v52 ev52 => ?_)
  have hF := hF v52 ev52
  refine lv_istore (lv' := [(10, .int v52), (0, .ref xx), (1, .ref (la 0)), (2, .ref (la 1)), (3, .ref (la 2)), (4, .ref (la 3)), (5, .ref (la 4)), (6, .ref (la 5)), (8, .int x8), (9, .int x9)]) hx hb dL_acts_328 hl (by decide) rfl (fun ls hl => ?_)
  refine lv_iload hx hb dL_acts_330 (lv_at hl 9 rfl) ?_
  refine lv_bipush (v := 12) hx hb dL_acts_332 (by decide) ?_
  refine lv_icmp_ge (tgt := 775) hx hb dL_acts_334 (by decide) (fun c53 => ?_) (fun c53 => ?_)
  · have hF := it_t hF c53
    exact tL_acts_j775 l D cS g cI xx xd xo hh ha z zn q la r M' C hDa N x8 x9 v52 _ _ _ hF hP hS (lv_sub hl [1, 2, 3, 4, 5, 6, 7, 8, 9, 0] rfl)
  · have hF := it_f hF c53
    exact tL_acts_j337 l D cS g cI xx xd xo hh ha z zn q la r M' C hDa N x8 v52 _ _ _ hF hP hS (lv_sub hl [1, 2, 4, 5, 6, 7, 8, 0] rfl)
set_option maxHeartbeats 4000000 in
set_option maxRecDepth 100000 in
theorem tL_acts_j249 (l : Launch) (D : va_G) (cS : ClassId) (g : Nat → Nat) (cI : ClassId) (xx xd xo hh ha : Nat) (z : Nat → Nat → Nat) (zn q : Nat → Nat) (la : Nat → Nat) (r : Int32) (M' : XLm) {p : Program} {e : Env} {s : State} {m : MethodId} {args : Array Value} {below : List Frame} {meth : Method} {c : Code} {A : Nat → Prop} (C : CX p s m args meth c A D cI cS g cL_acts 21 (some .boolean) RL) (hDa : ∀ N, va_D A (wXL cI cS xx xd xo hh ha z zn q la N)) : ∀ (N : XLm) (x8 : Int32) (H : Heap) (locs : List Loc) (ls : Array Slot), fL_acts_j249 N x8 = some (r, M') → va_P D vwCl (wXL cI cS xx xd xo hh ha z zn q la N) H → va_S A s.heap H locs → lv_has ls 21 [(0, .ref xx), (1, .ref (la 0)), (6, .ref (la 5)), (8, .int x8)] → W p l e rmL_acts s m args below meth c H locs 0 0 (MQ below (qI D r (wXL cI cS xx xd xo hh ha z zn q la (M')) A) args s 0 0 A) (F0 m 249 ls []) := by
  obtain ⟨hx, hb, hr, hml, hlocks, hown, htb, hA, hK, hG⟩ := id C
  intro N x8 H locs ls hF hP hS hl
  refine lv_iconst (v := 2) hx hb dL_acts_249 (by decide) ?_
  refine lv_aload_n hx hb dL_acts_250 rfl (lv_at hl 1 rfl) ?_
  refine lv_iconst (v := 2) hx hb dL_acts_251 (by decide) ?_
  obtain ⟨hi, hF⟩ := rd_use hF
  refine va_iald hx hb hK hP 0 0 (pXL_0 cI cS xx xd xo hh ha z zn q la N) rfl hi dL_acts_252 ?_
  refine lv_topi (fun v380 ev380 => ?_)
  have hF := hF v380 ev380
  refine lv_imul hx hb dL_acts_253 ?_
  refine lv_topi (fun v381 ev381 => ?_)
  have hF := nm_use hF ev381
  refine lv_istore (lv' := [(10, .int v381), (0, .ref xx), (1, .ref (la 0)), (6, .ref (la 5)), (8, .int x8)]) hx hb dL_acts_254 hl (by decide) rfl (fun ls hl => ?_)
  refine lv_aload hx hb dL_acts_256 (lv_at hl 3 rfl) ?_
  refine lv_iload hx hb dL_acts_258 (lv_at hl 0 rfl) ?_
  refine lv_iconst (v := 1) hx hb dL_acts_260 (by decide) ?_
  refine lv_iload hx hb dL_acts_261 (lv_at hl 4 rfl) ?_
  refine lv_sipush (v := 500) hx hb dL_acts_263 (by decide) ?_
  obtain ⟨hd, hF⟩ := mo_use hF
  refine lv_irem hx hb dL_acts_266 hd ?_
  refine lv_topi (fun v382 ev382 => ?_)
  have hF := hF v382 ev382
  refine lv_iadd hx hb dL_acts_267 ?_
  obtain ⟨hi, hF⟩ := wr_use hF
  refine va_iast hx hb hK hP (hDa _) hS 5 0 (pXL_5 cI cS xx xd xo hh ha z zn q la N) rfl hi dL_acts_268 (fun H locs hP _ hS => ?_)
  obtain ⟨M384, eM384⟩ : ∃ z : XLm, z = (N.1, (N.2.1, N.2.2.1, N.2.2.2.1, N.2.2.2.2.1, N.2.2.2.2.2.1, (upd (N.2.2.2.2.2.2) (v381 : Int32).toNatClampNeg (1 + v382)))) := ⟨_, rfl⟩
  have hF := nm_use hF eM384
  have hP : va_P D vwCl (wXL cI cS xx xd xo hh ha z zn q la M384) H := by rw [eM384]; exact hP
  refine lv_aload hx hb dL_acts_269 (lv_at hl 3 rfl) ?_
  refine lv_iload hx hb dL_acts_271 (lv_at hl 0 rfl) ?_
  refine lv_iconst (v := 1) hx hb dL_acts_273 (by decide) ?_
  refine lv_iadd hx hb dL_acts_274 ?_
  refine lv_aload hx hb dL_acts_275 (lv_at hl 3 rfl) ?_
  refine lv_iload hx hb dL_acts_277 (lv_at hl 0 rfl) ?_
  obtain ⟨hi, hF⟩ := rd_use hF
  refine va_iald hx hb hK hP 5 0 (pXL_5 cI cS xx xd xo hh ha z zn q la M384) rfl hi dL_acts_279 ?_
  refine lv_topi (fun v385 ev385 => ?_)
  have hF := hF v385 ev385
  obtain ⟨hi, hF⟩ := wr_use hF
  refine va_iast hx hb hK hP (hDa _) hS 5 0 (pXL_5 cI cS xx xd xo hh ha z zn q la M384) rfl hi dL_acts_280 (fun H locs hP _ hS => ?_)
  obtain ⟨M387, eM387⟩ : ∃ z : XLm, z = (M384.1, (M384.2.1, M384.2.2.1, M384.2.2.2.1, M384.2.2.2.2.1, M384.2.2.2.2.2.1, (upd (M384.2.2.2.2.2.2) (v381 + 1 : Int32).toNatClampNeg v385))) := ⟨_, rfl⟩
  have hF := nm_use hF eM387
  have hP : va_P D vwCl (wXL cI cS xx xd xo hh ha z zn q la M387) H := by rw [eM387]; exact hP
  refine lv_aload_n hx hb dL_acts_281 rfl (lv_at hl 2 rfl) ?_
  refine lv_iconst (v := 3) hx hb dL_acts_282 (by decide) ?_
  refine lv_dup2_11 hx hb dL_acts_283 rfl rfl ?_
  obtain ⟨hi, hF⟩ := rd_use hF
  refine va_iald hx hb hK hP 0 0 (pXL_0 cI cS xx xd xo hh ha z zn q la M387) rfl hi dL_acts_284 ?_
  refine lv_topi (fun v388 ev388 => ?_)
  have hF := hF v388 ev388
  refine lv_aload hx hb dL_acts_285 (lv_at hl 3 rfl) ?_
  refine lv_iload hx hb dL_acts_287 (lv_at hl 0 rfl) ?_
  obtain ⟨hi, hF⟩ := rd_use hF
  refine va_iald hx hb hK hP 5 0 (pXL_5 cI cS xx xd xo hh ha z zn q la M387) rfl hi dL_acts_289 ?_
  refine lv_topi (fun v389 ev389 => ?_)
  have hF := hF v389 ev389
  refine lv_iadd hx hb dL_acts_290 ?_
  obtain ⟨hi, hF⟩ := wr_use hF
  refine va_iast hx hb hK hP (hDa _) hS 0 0 (pXL_0 cI cS xx xd xo hh ha z zn q la M387) rfl hi dL_acts_291 (fun H locs hP _ hS => ?_)
  obtain ⟨M391, eM391⟩ : ∃ z : XLm, z = (M387.1, ((upd (M387.2.1) (3 : Int32).toNatClampNeg (v388 + v389)), M387.2.2)) := ⟨_, rfl⟩
  have hF := nm_use hF eM391
  have hP : va_P D vwCl (wXL cI cS xx xd xo hh ha z zn q la M391) H := by rw [eM391]; exact hP
  refine lv_aload_n hx hb dL_acts_292 rfl (lv_at hl 2 rfl) ?_
  refine lv_iconst (v := 2) hx hb dL_acts_293 (by decide) ?_
  refine lv_dup2_11 hx hb dL_acts_294 rfl rfl ?_
  obtain ⟨hi, hF⟩ := rd_use hF
  refine va_iald hx hb hK hP 0 0 (pXL_0 cI cS xx xd xo hh ha z zn q la M391) rfl hi dL_acts_295 ?_
  refine lv_topi (fun v392 ev392 => ?_)
  have hF := hF v392 ev392
  refine lv_iconst (v := 1) hx hb dL_acts_296 (by decide) ?_
  refine lv_iadd hx hb dL_acts_297 ?_
  obtain ⟨hi, hF⟩ := wr_use hF
  refine va_iast hx hb hK hP (hDa _) hS 0 0 (pXL_0 cI cS xx xd xo hh ha z zn q la M391) rfl hi dL_acts_298 (fun H locs hP _ hS => ?_)
  obtain ⟨M394, eM394⟩ : ∃ z : XLm, z = (M391.1, ((upd (M391.2.1) (2 : Int32).toNatClampNeg (v392 + 1)), M391.2.2)) := ⟨_, rfl⟩
  have hF := nm_use hF eM394
  have hP : va_P D vwCl (wXL cI cS xx xd xo hh ha z zn q la M394) H := by rw [eM394]; exact hP
  refine lv_aload_n hx hb dL_acts_299 rfl (lv_at hl 1 rfl) ?_
  refine lv_aload hx hb dL_acts_300 (lv_at hl 3 rfl) ?_
  refine lv_iload hx hb dL_acts_302 (lv_at hl 0 rfl) ?_
  obtain ⟨hi, hF⟩ := rd_use hF
  refine va_iald hx hb hK hP 5 0 (pXL_5 cI cS xx xd xo hh ha z zn q la M394) rfl hi dL_acts_304 ?_
  refine lv_topi (fun v395 ev395 => ?_)
  have hF := hF v395 ev395
  obtain ⟨r397, M396, hM396, hF⟩ := b2_use hF
  refine cl_VI ⟨hx, hb, hml, hown, htb⟩ (kX8_sellVoucher l D cS g cI xx xd xo hh ha z zn q (M394.1) v395 _ _ hM396) (cwV 1 htb (gX8_sellVoucher bw2_92) rfl rfl rfl hdX8_sellVoucher ⟨Nat.le_of_ble_eq_true rfl, Nat.le_of_ble_eq_true rfl⟩) hK (hDa _) hG hA hP hS (sg_XL_XX cI cS xx xd xo hh ha z zn q la M394 M396) hl.1 rfl 0 (pXX_0 _ _ _ _ _ _ _ _ _ _ _) rfl rfl (Nat.le_of_ble_eq_true rfl) dL_acts_305 (fun H locs hP hS => ?_)
  obtain ⟨M398, eM398⟩ : ∃ z : XLm, z = (M396, M394.2) := ⟨_, rfl⟩
  have hF := nm_use hF eM398
  have hP : va_P D vwCl (wXL cI cS xx xd xo hh ha z zn q la M398) H := by rw [eM398]; exact hP
  refine lv_aload_n hx hb dL_acts_308 rfl (lv_at hl 2 rfl) ?_
  refine lv_iconst (v := 2) hx hb dL_acts_309 (by decide) ?_
  obtain ⟨hi, hF⟩ := rd_use hF
  refine va_iald hx hb hK hP 0 0 (pXL_0 cI cS xx xd xo hh ha z zn q la M398) rfl hi dL_acts_310 ?_
  refine lv_topi (fun v399 ev399 => ?_)
  have hF := hF v399 ev399
  refine lv_iconst (v := 1) hx hb dL_acts_311 (by decide) ?_
  refine lv_isub hx hb dL_acts_312 ?_
  refine lv_icmp_ne (tgt := 320) hx hb dL_acts_313 (by decide) (fun c400 => ?_) (fun c400 => ?_)
  · have hF := it_f hF c400
    refine lv_iconst (v := 0) hx hb dL_acts_320 (by decide) ?_
    obtain ⟨hz, hF⟩ := zb_use hF
    obtain ⟨er, eM⟩ := pr_use hF
    exact rt_Z hx hb hr hlocks hS (by rw [← eM]; exact hP) hz er dL_acts_321
  · have hF := it_t hF c400
    refine lv_iconst (v := 1) hx hb dL_acts_316 (by decide) ?_
    refine lv_goto (tgt := 321) hx hb dL_acts_317 (by decide) ?_
    obtain ⟨hz, hF⟩ := zb_use hF
    obtain ⟨er, eM⟩ := pr_use hF
    exact rt_Z hx hb hr hlocks hS (by rw [← eM]; exact hP) hz er dL_acts_321
set_option maxHeartbeats 4000000 in
set_option maxRecDepth 100000 in
theorem tL_acts_j210 (l : Launch) (D : va_G) (cS : ClassId) (g : Nat → Nat) (cI : ClassId) (xx xd xo hh ha : Nat) (z : Nat → Nat → Nat) (zn q : Nat → Nat) (la : Nat → Nat) (r : Int32) (M' : XLm) {p : Program} {e : Env} {s : State} {m : MethodId} {args : Array Value} {below : List Frame} {meth : Method} {c : Code} {A : Nat → Prop} (C : CX p s m args meth c A D cI cS g cL_acts 21 (some .boolean) RL) (hDa : ∀ N, va_D A (wXL cI cS xx xd xo hh ha z zn q la N)) : ∀ (N : XLm) (x8 : Int32) (x9 : Int32) (H : Heap) (locs : List Loc) (ls : Array Slot), fL_acts_j210 N x8 x9 = some (r, M') → va_P D vwCl (wXL cI cS xx xd xo hh ha z zn q la N) H → va_S A s.heap H locs → lv_has ls 21 [(0, .ref xx), (1, .ref (la 0)), (2, .ref (la 1)), (3, .ref (la 2)), (4, .ref (la 3)), (5, .ref (la 4)), (6, .ref (la 5)), (8, .int x8), (9, .int x9)] → W p l e rmL_acts s m args below meth c H locs 0 0 (MQ below (qI D r (wXL cI cS xx xd xo hh ha z zn q la (M')) A) args s 0 0 A) (F0 m 210 ls []) := by
  obtain ⟨hx, hb, hr, hml, hlocks, hown, htb, hA, hK, hG⟩ := id C
  intro N x8 x9 H locs ls hF hP hS hl
  refine lv_iload hx hb dL_acts_210 (lv_at hl 8 rfl) ?_
  refine lv_iconst (v := 4) hx hb dL_acts_212 (by decide) ?_
  refine lv_icmp_ge (tgt := 322) hx hb dL_acts_213 (by decide) (fun c50 => ?_) (fun c50 => ?_)
  · have hF := it_t hF c50
    exact tL_acts_j322 l D cS g cI xx xd xo hh ha z zn q la r M' C hDa N x8 x9 _ _ _ hF hP hS (lv_sub hl [0, 1, 2, 3, 4, 5, 6, 7, 8] rfl)
  · have hF := it_f hF c50
    refine lv_aload_n hx hb dL_acts_216 rfl (lv_at hl 1 rfl) ?_
    refine lv_iconst (v := 2) hx hb dL_acts_217 (by decide) ?_
    obtain ⟨hi, hF⟩ := rd_use hF
    refine va_iald hx hb hK hP 0 0 (pXL_0 cI cS xx xd xo hh ha z zn q la N) rfl hi dL_acts_218 ?_
    refine lv_topi (fun v378 ev378 => ?_)
    have hF := hF v378 ev378
    refine lv_iconst (v := 4) hx hb dL_acts_219 (by decide) ?_
    refine lv_icmp_ne (tgt := 249) hx hb dL_acts_220 (by decide) (fun c379 => ?_) (fun c379 => ?_)
    · have hF := it_f hF c379
      exact tL_acts_j249 l D cS g cI xx xd xo hh ha z zn q la r M' C hDa N x8 _ _ _ hF hP hS (lv_sub hl [0, 1, 6, 7] rfl)
    · have hF := it_t hF c379
      refine lv_aload_n hx hb dL_acts_223 rfl (lv_at hl 0 rfl) ?_
      refine lv_sipush (v := 501) hx hb dL_acts_224 (by decide) ?_
      obtain ⟨r402, M401, hM401, hF⟩ := b2_use hF
      refine cl_VI ⟨hx, hb, hml, hown, htb⟩ (kX8_sellVoucher l D cS g cI xx xd xo hh ha z zn q (N.1) 501 _ _ hM401) (cwV 1 htb (gX8_sellVoucher bw2_92) rfl rfl rfl hdX8_sellVoucher ⟨Nat.le_of_ble_eq_true rfl, Nat.le_of_ble_eq_true rfl⟩) hK (hDa _) hG hA hP hS (sg_XL_XX cI cS xx xd xo hh ha z zn q la N M401) hl.1 rfl 0 (pXX_0 _ _ _ _ _ _ _ _ _ _ _) rfl rfl (Nat.le_of_ble_eq_true rfl) dL_acts_227 (fun H locs hP hS => ?_)
      obtain ⟨M403, eM403⟩ : ∃ z : XLm, z = (M401, N.2) := ⟨_, rfl⟩
      have hF := nm_use hF eM403
      have hP : va_P D vwCl (wXL cI cS xx xd xo hh ha z zn q la M403) H := by rw [eM403]; exact hP
      refine lv_iconst (v := (-1)) hx hb dL_acts_230 (by decide) ?_
      refine lv_icmp_ne (tgt := 247) hx hb dL_acts_231 (by decide) (fun c404 => ?_) (fun c404 => ?_)
      · have hF := it_f hF c404
        refine lv_iconst (v := 0) hx hb dL_acts_247 (by decide) ?_
        obtain ⟨hz, hF⟩ := zb_use hF
        obtain ⟨er, eM⟩ := pr_use hF
        exact rt_Z hx hb hr hlocks hS (by rw [← eM]; exact hP) hz er dL_acts_248
      · have hF := it_t hF c404
        refine lv_aload_n hx hb dL_acts_234 rfl (lv_at hl 0 rfl) ?_
        refine lv_iconst (v := 0) hx hb dL_acts_235 (by decide) ?_
        obtain ⟨r406, M405, hM405, hF⟩ := b2_use hF
        refine cl_VI ⟨hx, hb, hml, hown, htb⟩ (kX8_sellVoucher l D cS g cI xx xd xo hh ha z zn q (M403.1) 0 _ _ hM405) (cwV 1 htb (gX8_sellVoucher bw2_92) rfl rfl rfl hdX8_sellVoucher ⟨Nat.le_of_ble_eq_true rfl, Nat.le_of_ble_eq_true rfl⟩) hK (hDa _) hG hA hP hS (sg_XL_XX cI cS xx xd xo hh ha z zn q la M403 M405) hl.1 rfl 0 (pXX_0 _ _ _ _ _ _ _ _ _ _ _) rfl rfl (Nat.le_of_ble_eq_true rfl) dL_acts_236 (fun H locs hP hS => ?_)
        obtain ⟨M407, eM407⟩ : ∃ z : XLm, z = (M405, M403.2) := ⟨_, rfl⟩
        have hF := nm_use hF eM407
        have hP : va_P D vwCl (wXL cI cS xx xd xo hh ha z zn q la M407) H := by rw [eM407]; exact hP
        refine lv_iconst (v := (-1)) hx hb dL_acts_239 (by decide) ?_
        refine lv_icmp_ne (tgt := 247) hx hb dL_acts_240 (by decide) (fun c408 => ?_) (fun c408 => ?_)
        · have hF := it_f hF c408
          refine lv_iconst (v := 0) hx hb dL_acts_247 (by decide) ?_
          obtain ⟨hz, hF⟩ := zb_use hF
          obtain ⟨er, eM⟩ := pr_use hF
          exact rt_Z hx hb hr hlocks hS (by rw [← eM]; exact hP) hz er dL_acts_248
        · have hF := it_t hF c408
          refine lv_iconst (v := 1) hx hb dL_acts_243 (by decide) ?_
          refine lv_goto (tgt := 248) hx hb dL_acts_244 (by decide) ?_
          obtain ⟨hz, hF⟩ := zb_use hF
          obtain ⟨er, eM⟩ := pr_use hF
          exact rt_Z hx hb hr hlocks hS (by rw [← eM]; exact hP) hz er dL_acts_248
set_option maxHeartbeats 4000000 in
set_option maxRecDepth 100000 in
theorem kL_acts (l : Launch) (D : va_G) (cS : ClassId) (g : Nat → Nat) (cI : ClassId) (xx xd xo hh ha : Nat) (z : Nat → Nat → Nat) (zn q : Nat → Nat) (la : Nat → Nat) (N : XLm) (x7 : Int32) (r : Int32) (M' : XLm) (hF : fL_acts N x7 = some (r, M')) : mI l yL_acts vL_acts rmL_acts D cI cS g [.ref xx, .ref (la 0), .ref (la 1), .ref (la 2), .ref (la 3), .ref (la 4), .ref (la 5), .int x7] (wXL cI cS xx xd xo hh ha z zn q la N) r (wXL cI cS xx xd xo hh ha z zn q la (M')) := by
  refine st_I rfl (by decide) (Nat.le_of_ble_eq_true rfl) ?_
  intro p e s m args below meth c A ls hx hb hr hml hlocks hown hts hA hK hD0 hG hP hS hl
  have hown : s.vm.findClass RL = some m.cls := hown
  have hDa : ∀ N, va_D A (wXL cI cS xx xd xo hh ha z zn q la N) := fun N => hD0.adr (adr_XL _ _ _ _ _ _ _ _ _ _ _ _ _)
  have htb : ∀ w ∈ BIG, w.before args s = true := fun w h => hts w (List.mem_cons_of_mem _ h)
  have hl : lv_has ls 21 [(0, .ref xx), (1, .ref (la 0)), (2, .ref (la 1)), (3, .ref (la 2)), (4, .ref (la 3)), (5, .ref (la 4)), (6, .ref (la 5)), (7, .int x7)] := hl
  have C : CX p s m args meth c A D cI cS g cL_acts 21 (some .boolean) RL := ⟨hx, hb, hr, hml, hlocks, hown, htb, hA, hK, hG⟩
  refine lv_iload hx hb dL_acts_0 (lv_at hl 7 rfl) ?_
  refine lv_iconst (v := 5) hx hb dL_acts_2 (by decide) ?_
  refine lv_ishr hx hb dL_acts_3 ?_
  refine lv_ldc hx hb hown (htb _ bw2_40) dL_acts_4 ?_
  obtain ⟨r1, hr1, hF⟩ := bd_use hF
  refine cl_SI ⟨hx, hb, hml, hown, htb⟩ (kL_low l D cS g cI (x7 >>> ((5 : Int32) &&& 31)) 10000000 _ hr1) (va_cwS 2 htb (gL_low bw2_33) rfl rfl rfl hdL_low ⟨Nat.le_of_ble_eq_true rfl, Nat.le_of_ble_eq_true rfl⟩) hK (hDa _) hG hA hP hS sg_nil hl.1 rfl rfl (Nat.le_of_ble_eq_true rfl) dL_acts_6 (fun H locs hP hS => ?_)
  refine lv_istore (lv' := [(8, .int r1), (0, .ref xx), (1, .ref (la 0)), (2, .ref (la 1)), (3, .ref (la 2)), (4, .ref (la 3)), (5, .ref (la 4)), (6, .ref (la 5)), (7, .int x7)]) hx hb dL_acts_9 hl (by decide) rfl (fun ls hl => ?_)
  refine lv_iload hx hb dL_acts_11 (lv_at hl 8 rfl) ?_
  refine lv_bipush (v := 26) hx hb dL_acts_13 (by decide) ?_
  obtain ⟨r2, hr2, hF⟩ := bd_use hF
  refine cl_SI ⟨hx, hb, hml, hown, htb⟩ (kL_low l D cS g cI x7 26 _ hr2) (va_cwS 2 htb (gL_low bw2_33) rfl rfl rfl hdL_low ⟨Nat.le_of_ble_eq_true rfl, Nat.le_of_ble_eq_true rfl⟩) hK (hDa _) hG hA hP hS sg_nil hl.1 rfl rfl (Nat.le_of_ble_eq_true rfl) dL_acts_15 (fun H locs hP hS => ?_)
  refine lv_istore (lv' := [(9, .int r2), (8, .int r1), (0, .ref xx), (1, .ref (la 0)), (2, .ref (la 1)), (3, .ref (la 2)), (4, .ref (la 3)), (5, .ref (la 4)), (6, .ref (la 5)), (7, .int x7)]) hx hb dL_acts_18 hl (by decide) rfl (fun ls hl => ?_)
  refine lv_iload hx hb dL_acts_20 (lv_at hl 0 rfl) ?_
  refine lv_iconst (v := 2) hx hb dL_acts_22 (by decide) ?_
  refine lv_icmp_lt (tgt := 32) hx hb dL_acts_23 (by decide) (fun c3 => ?_) (fun c3 => ?_)
  · have hF := it_t hF c3
    exact tL_acts_j32 l D cS g cI xx xd xo hh ha z zn q la r M' C hDa N r1 _ _ _ hF hP hS (lv_sub hl [2, 3, 5, 1] rfl)
  · have hF := it_f hF c3
    refine lv_aload_n hx hb dL_acts_26 rfl (lv_at hl 3 rfl) ?_
    refine lv_iconst (v := 0) hx hb dL_acts_27 (by decide) ?_
    obtain ⟨hi, hF⟩ := rd_use hF
    refine va_iald hx hb hK hP 0 0 (pXL_0 cI cS xx xd xo hh ha z zn q la N) rfl hi dL_acts_28 ?_
    refine lv_topi (fun v48 ev48 => ?_)
    have hF := hF v48 ev48
    refine lv_if_ne (tgt := 210) hx hb dL_acts_29 (by decide) (fun c49 => ?_) (fun c49 => ?_)
    · have hF := it_f hF c49
      exact tL_acts_j210 l D cS g cI xx xd xo hh ha z zn q la r M' C hDa N r1 r2 _ _ _ hF hP hS (lv_sub hl [2, 3, 4, 5, 6, 7, 8, 1, 0] rfl)
    · have hF := it_t hF c49
      exact tL_acts_j32 l D cS g cI xx xd xo hh ha z zn q la r M' C hDa N r1 _ _ _ hF hP hS (lv_sub hl [2, 3, 5, 1] rfl)

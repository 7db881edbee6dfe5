/-! What the launch's statics and the script are at the law's entry. -/
theorem i32_nat (x : Int32) : Int32.ofNat x.toBitVec.toNat = x := by
  show Int32.ofBitVec (BitVec.ofNat 32 x.toBitVec.toNat) = x
  rw [BitVec.ofNat_toNat, BitVec.setWidth_eq]
  rfl
section GS
variable {s : State} {b L : Nat} {xs : Nat → Int32}
theorem gg_tab {t : Nat} {A : Nat → Prop} {C n : String} {N : Nat} {f : Nat → Value} (h1 : (Cond.laysStatic C n "[I").before #[Value.ref b] s = true) (h2 : (Cond.initialized C).before #[Value.ref b] s = true) (h3 : (Term.static C n "[I").eval #[Value.ref b] s none [] s = some (.ref t)) (h4 : va_T .int t N f A s s.heap) (hA : ∀ a : Nat, a < s.heap.size → ¬ A a) : va_Z C n "[I" (.ref t) A s s.heap ∧ va_T .int t N f A s s.heap := ⟨va_Zof h1 h2 h3 hA, h4⟩
set_option maxHeartbeats 8000000 in
set_option maxRecDepth 100000 in
theorem gg_start (hX : va_X b L xs s s.heap) (hbl : b < s.heap.size) (hts : ∀ w ∈ lw_tbl, w.before #[Value.ref b] s = true) (hgv : (Jvm.Cond.and given_1 narrow_1).before #[Value.ref b] s = true) : ∃ g : Nat → Nat, g 2 = b ∧ g 3 = L ∧ GG g (fun q : Nat => s.heap.size ≤ q) s s.heap := by
  have hs := flat_of_before _ hgv
  have hA : ∀ a : Nat, a < s.heap.size → ¬ (fun q : Nat => s.heap.size ≤ q) a := fun a h => Nat.not_le.mpr h
  obtain ⟨t0, e0, T0⟩ := va_Tof (tm := .static "TeamRooms" "FIRST_SETTINGS" "[I") (ty := .int) (N := 5) (f := tabS fstS) (A := fun q : Nat => s.heap.size ≤ q) (by decide) (hs (.arrayOf (.static "TeamRooms" "FIRST_SETTINGS" "[I") .int) (by decide +kernel)) (va_eqt (hs (.eq (.length (.static "TeamRooms" "FIRST_SETTINGS" "[I")) (.int 5)) (by decide +kernel))) (fun j hj => by
    rcases (show j = 0 ∨ j = 1 ∨ j = 2 ∨ j = 3 ∨ j = 4 by omega) with rfl | rfl | rfl | rfl | rfl
    · exact va_eqt (hs (.eq (.elem (.static "TeamRooms" "FIRST_SETTINGS" "[I") (.int 0)) (.int 2)) (by decide +kernel))
    · exact va_eqt (hs (.eq (.elem (.static "TeamRooms" "FIRST_SETTINGS" "[I") (.int 1)) (.int 10)) (by decide +kernel))
    · exact va_eqt (hs (.eq (.elem (.static "TeamRooms" "FIRST_SETTINGS" "[I") (.int 2)) (.int 5)) (by decide +kernel))
    · exact va_eqt (hs (.eq (.elem (.static "TeamRooms" "FIRST_SETTINGS" "[I") (.int 3)) (.int 15)) (by decide +kernel))
    · exact va_eqt (hs (.eq (.elem (.static "TeamRooms" "FIRST_SETTINGS" "[I") (.int 4)) (.int 20)) (by decide +kernel))) hA
  obtain ⟨t1, e1, T1⟩ := va_Tof (tm := .static "TeamRooms" "MOST_SETTINGS" "[I") (ty := .int) (N := 5) (f := tabS mstS) (A := fun q : Nat => s.heap.size ≤ q) (by decide) (hs (.arrayOf (.static "TeamRooms" "MOST_SETTINGS" "[I") .int) (by decide +kernel)) (va_eqt (hs (.eq (.length (.static "TeamRooms" "MOST_SETTINGS" "[I")) (.int 5)) (by decide +kernel))) (fun j hj => by
    rcases (show j = 0 ∨ j = 1 ∨ j = 2 ∨ j = 3 ∨ j = 4 by omega) with rfl | rfl | rfl | rfl | rfl
    · exact va_eqt (hs (.eq (.elem (.static "TeamRooms" "MOST_SETTINGS" "[I") (.int 0)) (.int 10)) (by decide +kernel))
    · exact va_eqt (hs (.eq (.elem (.static "TeamRooms" "MOST_SETTINGS" "[I") (.int 1)) (.int 30)) (by decide +kernel))
    · exact va_eqt (hs (.eq (.elem (.static "TeamRooms" "MOST_SETTINGS" "[I") (.int 2)) (.int 20)) (by decide +kernel))
    · exact va_eqt (hs (.eq (.elem (.static "TeamRooms" "MOST_SETTINGS" "[I") (.int 3)) (.int 60)) (by decide +kernel))
    · exact va_eqt (hs (.eq (.elem (.static "TeamRooms" "MOST_SETTINGS" "[I") (.int 4)) (.int 50)) (by decide +kernel))) hA
  have ini : (Cond.initialized "TeamRooms").before #[Value.ref b] s = true := hts _ (by decide +kernel)
  have Z0 := gg_tab (C := "TeamRooms") (n := "FIRST_SETTINGS") (hts _ (by decide +kernel)) ini e0 T0 hA
  have Z1 := gg_tab (C := "TeamRooms") (n := "MOST_SETTINGS") (hts _ (by decide +kernel)) ini e1 T1 hA
  obtain ⟨scr, hcb, hof, hkn, hsz, hval⟩ := hX
  refine ⟨fun k => if k = 0 then t0 else if k = 1 then t1 else if k = 2 then b else if k = 3 then L else (xs (k - 10)).toBitVec.toNat, rfl, rfl, Z0, Z1, ⟨scr, hcb, hof, hkn, Nat.le_of_eq hsz.symm, by rw [hsz]; rfl, fun j hj => ?_, hA b hbl⟩, va_Nw.of rfl (hts (.methodLinkNest RX0 34 yX8_inRange RX8) (by decide +kernel)), va_Nw.of rfl (hts (.fieldLinkNest RX0 60 RX8 "MOST_SETTINGS" "[I" RX8) (by decide +kernel)), va_Nw.of rfl (hts (.fieldLinkNest RX7 29 RX8 "FIRST_SETTINGS" "[I" RX8) (by decide +kernel))⟩
  rw [hval j hj]
  show some (Value.int (xs j)) = some (Value.int (Int32.ofNat (if 10 + j = 0 then t0 else if 10 + j = 1 then t1 else if 10 + j = 2 then b else if 10 + j = 3 then L else (xs (10 + j - 10)).toBitVec.toNat)))
  rw [if_neg (by omega), if_neg (by omega), if_neg (by omega), if_neg (by omega), show 10 + j - 10 = j by omega, i32_nat]
end GS

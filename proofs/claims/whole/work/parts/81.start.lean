/-! What the launch's statics and strings are at the law's entry. -/
section GS
variable {s : State} {b : Nat}
theorem gg_tab {t : Nat} {A : Nat → Prop} {C n : String} {N : Nat} {f : Nat → Value} (h1 : (Cond.laysStatic C n "[I").before #[Value.ref b] s = true) (h2 : (Cond.initialized C).before #[Value.ref b] s = true) (h3 : (Term.static C n "[I").eval #[Value.ref b] s none [] s = some (.ref t)) (h4 : va_T .int t N f A s s.heap) (hA : ∀ a : Nat, a < s.heap.size → ¬ A a) : va_Z C n "[I" (.ref t) A s s.heap ∧ va_T .int t N f A s s.heap := ⟨va_Zof h1 h2 h3 hA, h4⟩
set_option maxHeartbeats 8000000 in
set_option maxRecDepth 100000 in
theorem gg_start (hts : ∀ w ∈ lw_tbl, w.before #[Value.ref b] s = true) (hgv : (Jvm.Cond.and given_1 narrow_1).before #[Value.ref b] s = true) : ∃ g : Nat → Nat, GG g (fun q : Nat => s.heap.size ≤ q) s s.heap := by
  have hs := flat_of_before _ hgv
  have hA : ∀ a : Nat, a < s.heap.size → ¬ (fun q : Nat => s.heap.size ≤ q) a := fun a h => Nat.not_le.mpr h
  obtain ⟨t0, e0, T0⟩ := va_Tof (tm := .static "TeamRooms" "FIRST_SETTINGS" "[I") (ty := .int) (N := 5) (f := tabS fstS) (A := fun q : Nat => s.heap.size ≤ q) (by decide) (hs (.arrayOf (.static "TeamRooms" "FIRST_SETTINGS" "[I") .int) (by decide +kernel)) (va_eqt (hs (.eq (.length (.static "TeamRooms" "FIRST_SETTINGS" "[I")) (.int 5)) (by decide +kernel))) (fun j hj => by
    rcases (show j = 0 ∨ j = 1 ∨ j = 2 ∨ j = 3 ∨ j = 4 by omega) with rfl | rfl | rfl | rfl | rfl
    · exact va_eqt (hs (.eq (.elem (.static "TeamRooms" "FIRST_SETTINGS" "[I") (.int 0)) (.int 2)) (by decide +kernel))
    · exact va_eqt (hs (.eq (.elem (.static "TeamRooms" "FIRST_SETTINGS" "[I") (.int 1)) (.int 10)) (by decide +kernel))
    · exact va_eqt (hs (.eq (.elem (.static "TeamRooms" "FIRST_SETTINGS" "[I") (.int 2)) (.int 5)) (by decide +kernel))
    · exact va_eqt (hs (.eq (.elem (.static "TeamRooms" "FIRST_SETTINGS" "[I") (.int 3)) (.int 15)) (by decide +kernel))
    · exact va_eqt (hs (.eq (.elem (.static "TeamRooms" "FIRST_SETTINGS" "[I") (.int 4)) (.int 20)) (by decide +kernel))) hA
  obtain ⟨t1, e1, T1⟩ := va_Tof (tm := .static "TeamRooms" "MOST_SETTINGS" "[I") (ty := .int) (N := 5) (f := tabS mstS) (A := fun q : Nat => s.heap.size ≤ q) (by decide) (hs (.arrayOf (.static "TeamRooms" "MOST_SETTINGS" "[I") .int) (by decide +kernel)) (va_eqt (hs (.eq (.length (.static "TeamRooms" "MOST_SETTINGS" "[I")) (.int 5)) (by decide +kernel))) (fun j hj => by
    rcases (show j = 0 ∨ j = 1 ∨ j = 2 ∨ j = 3 ∨ j = 4 by omega) with rfl | rfl | rfl | rfl | rfl
    · exact va_eqt (hs (.eq (.elem (.static "TeamRooms" "MOST_SETTINGS" "[I") (.int 0)) (.int 10)) (by decide +kernel))
    · exact va_eqt (hs (.eq (.elem (.static "TeamRooms" "MOST_SETTINGS" "[I") (.int 1)) (.int 30)) (by decide +kernel))
    · exact va_eqt (hs (.eq (.elem (.static "TeamRooms" "MOST_SETTINGS" "[I") (.int 2)) (.int 20)) (by decide +kernel))
    · exact va_eqt (hs (.eq (.elem (.static "TeamRooms" "MOST_SETTINGS" "[I") (.int 3)) (.int 60)) (by decide +kernel))
    · exact va_eqt (hs (.eq (.elem (.static "TeamRooms" "MOST_SETTINGS" "[I") (.int 4)) (.int 50)) (by decide +kernel))) hA
  obtain ⟨t2, e2, T2⟩ := va_Tof (tm := .static "TeamRooms" "COMMAND_NUMBERS" "[I") (ty := .int) (N := 7) (f := tabS cmdS) (A := fun q : Nat => s.heap.size ≤ q) (by decide) (hs (.arrayOf (.static "TeamRooms" "COMMAND_NUMBERS" "[I") .int) (by decide +kernel)) (va_eqt (hs (.eq (.length (.static "TeamRooms" "COMMAND_NUMBERS" "[I")) (.int 7)) (by decide +kernel))) (fun j hj => by
    rcases i7 hj with rfl | rfl | rfl | rfl | rfl | rfl | rfl
    · exact va_eqt (hs (.eq (.elem (.static "TeamRooms" "COMMAND_NUMBERS" "[I") (.int 0)) (.int 4)) (by decide +kernel))
    · exact va_eqt (hs (.eq (.elem (.static "TeamRooms" "COMMAND_NUMBERS" "[I") (.int 1)) (.int 1)) (by decide +kernel))
    · exact va_eqt (hs (.eq (.elem (.static "TeamRooms" "COMMAND_NUMBERS" "[I") (.int 2)) (.int 3)) (by decide +kernel))
    · exact va_eqt (hs (.eq (.elem (.static "TeamRooms" "COMMAND_NUMBERS" "[I") (.int 3)) (.int 4)) (by decide +kernel))
    · exact va_eqt (hs (.eq (.elem (.static "TeamRooms" "COMMAND_NUMBERS" "[I") (.int 4)) (.int 4)) (by decide +kernel))
    · exact va_eqt (hs (.eq (.elem (.static "TeamRooms" "COMMAND_NUMBERS" "[I") (.int 5)) (.int 1)) (by decide +kernel))
    · exact va_eqt (hs (.eq (.elem (.static "TeamRooms" "COMMAND_NUMBERS" "[I") (.int 6)) (.int 2)) (by decide +kernel))) hA
  have ini : (Cond.initialized "TeamRooms").before #[Value.ref b] s = true := hts _ (by decide +kernel)
  have Z0 := gg_tab (C := "TeamRooms") (n := "FIRST_SETTINGS") (hts _ (by decide +kernel)) ini e0 T0 hA
  have Z1 := gg_tab (C := "TeamRooms") (n := "MOST_SETTINGS") (hts _ (by decide +kernel)) ini e1 T1 hA
  have Z2 := gg_tab (C := "TeamRooms") (n := "COMMAND_NUMBERS") (hts _ (by decide +kernel)) ini e2 T2 hA
  have Zc : va_Z "java/lang/String" "COMPACT_STRINGS" "Z" (.int 1) (fun q : Nat => s.heap.size ≤ q) s s.heap := va_Zof (hts _ (by decide +kernel)) (hts _ (by decide +kernel)) (va_eqi (hs (.eq (.static "java/lang/String" "COMPACT_STRINGS" "Z") (.int 1)) (by decide +kernel))) hA
  have Zq : va_Zq "jdk/internal/util/Preconditions" "SIOOBE_FORMATTER" "Ljava/util/function/BiFunction;" (fun q : Nat => s.heap.size ≤ q) s s.heap := va_Zqof (hts _ (by decide +kernel)) (hts _ (by decide +kernel)) (hs (.isRef (.static "jdk/internal/util/Preconditions" "SIOOBE_FORMATTER" "Ljava/util/function/BiFunction;")) (by decide +kernel)) hA
  obtain ⟨adK, adV, hVS, hEv⟩ := vk_Sof (args := #[Value.ref b]) (s := s) (N := 7) (tm := fun i => .string "TeamRooms$Program" (idxS.getD i 0)) (len := lenS) (byt := bytS) (A := fun q : Nat => s.heap.size ≤ q)
    (fun i hi => by rcases i7 hi with rfl | rfl | rfl | rfl | rfl | rfl | rfl <;> decide)
    (fun i hi => by rcases i7 hi with rfl | rfl | rfl | rfl | rfl | rfl | rfl <;> exact hs _ (by decide +kernel))
    (fun i hi => by rcases i7 hi with rfl | rfl | rfl | rfl | rfl | rfl | rfl <;> exact hs _ (by decide +kernel))
    (fun i hi => by rcases i7 hi with rfl | rfl | rfl | rfl | rfl | rfl | rfl <;> exact hs _ (by decide +kernel))
    (fun i hi => by rcases i7 hi with rfl | rfl | rfl | rfl | rfl | rfl | rfl <;> exact hs _ (by decide +kernel))
    (fun i hi j hj => by
      rcases i7 hi with rfl | rfl | rfl | rfl | rfl | rfl | rfl
      · rcases (show j = 0 ∨ j = 1 ∨ j = 2 ∨ j = 3 from (by have hj : j < 4 := hj; omega)) with rfl | rfl | rfl | rfl <;> exact hs _ (by decide +kernel)
      · rcases (show j = 0 ∨ j = 1 ∨ j = 2 ∨ j = 3 from (by have hj : j < 4 := hj; omega)) with rfl | rfl | rfl | rfl <;> exact hs _ (by decide +kernel)
      · rcases (show j = 0 ∨ j = 1 ∨ j = 2 ∨ j = 3 from (by have hj : j < 4 := hj; omega)) with rfl | rfl | rfl | rfl <;> exact hs _ (by decide +kernel)
      · rcases (show j = 0 ∨ j = 1 ∨ j = 2 from (by have hj : j < 3 := hj; omega)) with rfl | rfl | rfl <;> exact hs _ (by decide +kernel)
      · rcases (show j = 0 ∨ j = 1 ∨ j = 2 ∨ j = 3 from (by have hj : j < 4 := hj; omega)) with rfl | rfl | rfl | rfl <;> exact hs _ (by decide +kernel)
      · rcases (show j = 0 ∨ j = 1 ∨ j = 2 ∨ j = 3 from (by have hj : j < 4 := hj; omega)) with rfl | rfl | rfl | rfl <;> exact hs _ (by decide +kernel)
      · rcases (show j = 0 ∨ j = 1 ∨ j = 2 ∨ j = 3 from (by have hj : j < 4 := hj; omega)) with rfl | rfl | rfl | rfl <;> exact hs _ (by decide +kernel))
    (fun i j hi hj hne => by
      rcases i7 hi with rfl | rfl | rfl | rfl | rfl | rfl | rfl <;> rcases i7 hj with rfl | rfl | rfl | rfl | rfl | rfl | rfl <;>
        first
          | exact absurd rfl hne
          | exact Or.inl (hs _ (by decide +kernel))
          | exact Or.inr (hs _ (by decide +kernel))) hA
  refine ⟨fun k => if k = 0 then t0 else if k = 1 then t1 else if k = 2 then t2 else if k < 10 then adK (k - 3) else adV (k - 10), Z0, Z1, Z2, ⟨Zc, Zq⟩, ?_, fun i hi => ?_, ⟨va_Nw.of rfl (hts (.methodLinkNest RX0 34 yX8_inRange RX8) (by decide +kernel)), va_Nw.of rfl (hts (.methodLinkNest RX2 32 yX8_inRange RX8) (by decide +kernel)), va_Nw.of rfl (hts (.methodLinkNest RX3 22 yX8_inRange RX8) (by decide +kernel))⟩, ⟨va_Nw.of rfl (hts (.fieldLinkNest RX0 60 RX8 "MOST_SETTINGS" "[I" RX8) (by decide +kernel)), va_Nw.of rfl (hts (.fieldLinkNest RX3 77 RX8 "COMMAND_NUMBERS" "[I" RX8) (by decide +kernel)), va_Nw.of rfl (hts (.fieldLinkNest RX7 29 RX8 "FIRST_SETTINGS" "[I" RX8) (by decide +kernel))⟩⟩
  · have gk : ∀ i : Nat, i < 7 → (if 3 + i = 0 then t0 else if 3 + i = 1 then t1 else if 3 + i = 2 then t2 else if 3 + i < 10 then adK (3 + i - 3) else adV (3 + i - 10)) = adK i := fun i hi => by
      rw [if_neg (by omega), if_neg (by omega), if_neg (by omega), if_pos (by omega), show 3 + i - 3 = i by omega]
    have gv : ∀ i : Nat, i < 7 → (if 10 + i = 0 then t0 else if 10 + i = 1 then t1 else if 10 + i = 2 then t2 else if 10 + i < 10 then adK (10 + i - 3) else adV (10 + i - 10)) = adV i := fun i hi => by
      rw [if_neg (by omega), if_neg (by omega), if_neg (by omega), if_neg (by omega), show 10 + i - 10 = i by omega]
    refine ⟨fun i hi => ?_, fun i j hi hj e => ?_⟩
    · have h := hVS.1 i hi
      show va_O "java/lang/String" (if 3 + i = 0 then t0 else if 3 + i = 1 then t1 else if 3 + i = 2 then t2 else if 3 + i < 10 then adK (3 + i - 3) else adV (3 + i - 10)) _ s s.heap ∧ va_OF "java/lang/String" "coder" "B" (.int 0) (if 3 + i = 0 then t0 else if 3 + i = 1 then t1 else if 3 + i = 2 then t2 else if 3 + i < 10 then adK (3 + i - 3) else adV (3 + i - 10)) _ s s.heap ∧ va_OF "java/lang/String" "value" "[B" (.ref (if 10 + i = 0 then t0 else if 10 + i = 1 then t1 else if 10 + i = 2 then t2 else if 10 + i < 10 then adK (10 + i - 3) else adV (10 + i - 10))) (if 3 + i = 0 then t0 else if 3 + i = 1 then t1 else if 3 + i = 2 then t2 else if 3 + i < 10 then adK (3 + i - 3) else adV (3 + i - 10)) _ s s.heap ∧ va_T .byte (if 10 + i = 0 then t0 else if 10 + i = 1 then t1 else if 10 + i = 2 then t2 else if 10 + i < 10 then adK (10 + i - 3) else adV (10 + i - 10)) _ _ _ s s.heap
      rw [gk i hi, gv i hi]
      exact h
    · have e : (if 3 + i = 0 then t0 else if 3 + i = 1 then t1 else if 3 + i = 2 then t2 else if 3 + i < 10 then adK (3 + i - 3) else adV (3 + i - 10)) = (if 3 + j = 0 then t0 else if 3 + j = 1 then t1 else if 3 + j = 2 then t2 else if 3 + j < 10 then adK (3 + j - 3) else adV (3 + j - 10)) := e
      rw [gk i hi, gk j hj] at e
      exact hVS.2 i j hi hj e
  · have gk : (if 3 + i = 0 then t0 else if 3 + i = 1 then t1 else if 3 + i = 2 then t2 else if 3 + i < 10 then adK (3 + i - 3) else adV (3 + i - 10)) = adK i := by
      rw [if_neg (by omega), if_neg (by omega), if_neg (by omega), if_pos (by omega), show 3 + i - 3 = i by omega]
    show vk_R RX3 (idxS.getD i 0) (txtS.getD i "") (if 3 + i = 0 then t0 else if 3 + i = 1 then t1 else if 3 + i = 2 then t2 else if 3 + i < 10 then adK (3 + i - 3) else adV (3 + i - 10)) s
    rw [gk]
    refine vk_R.of (A := #[Value.ref b]) ?_ (hEv i hi)
    rcases i7 hi with rfl | rfl | rfl | rfl | rfl | rfl | rfl <;> exact hts _ (by decide +kernel)
end GS

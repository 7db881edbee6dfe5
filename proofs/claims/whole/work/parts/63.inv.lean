/-! Both objects show one state: what holds between calls. -/
def Inv (K : Int) (M : Xm) (m : Md) : Prop := ∃ (a : FS) (n : Int) (H : Int → FS) (L : Int) (tx : Int → Int), StX M.1 a ∧ HX M.2.1 n H ∧ StM m.1 a ∧ HM m.2.1 n H ∧ m.2.2.2.1 = iI n ∧ WFS K a ∧ (∀ k : Nat, (k : Int) < n → WFS K (H k)) ∧ (0 ≤ L ∧ L ≤ 140) ∧ M.2.2.2.2.1 = iI L ∧ m.2.2.2.2.2.1 = iI L ∧ ∀ j : Int, 0 ≤ j → j < L → (1 ≤ tx j ∧ tx j ≤ 255) ∧ M.2.2.1 j.toNat = iI (tx j) ∧ m.2.2.2.2.1 j.toNat = iI (tx j)
/-- both sides answer alike and show one state behind it -/
def Sim (K : Int) (cx : Option (Int32 × Xm)) (cm : Option (Int32 × Md)) : Prop := ∃ (r : Int32) (M' : Xm) (m' : Md), cx = some (r, M') ∧ cm = some (r, m') ∧ Inv K M' m'
theorem Inv.K {K : Int} {M : Xm} {m : Md} (h : Inv K M m) : 0 ≤ K ∧ K ≤ 80000 := by
  obtain ⟨a, n, H, L, tx, -, -, -, -, -, hW, -⟩ := h
  have := hW.1.n
  omega
theorem Inv.mono {K K' : Int} {M : Xm} {m : Md} (h : Inv K M m) (h1 : K ≤ K') (h2 : K' ≤ 80000) : Inv K' M m := by
  obtain ⟨a, n, H, L, tx, g1, g2, g3, g4, g5, g6, g7, g8⟩ := h
  exact ⟨a, n, H, L, tx, g1, g2, g3, g4, g5, g6.mono h1 h2, fun k hk => (g7 k hk).mono h1 h2, g8⟩
section GE
variable {M : Xm} {n K : Int} {H : Int → FS} {a : FS}
/-- the class's actions -/
noncomputable def acX (M : Xm) (cx : Vn → Option (Int32 × Vn)) : Option (Int32 × Xm) := (fX1_prepare ((M.2.1, M.1))).bind fun M1 => nm ((M1.2, M1.1, M.2.2)) fun M2 => b2 (cx M2.1.1) fun r4 M3 => nm (((M3, M2.1.2), M2.2)) fun M5 => b2 (fX1_settle (M5.2.1) r4) fun r7 M6 => nm ((M5.1, M6, M5.2.2)) fun M8 => some (r7, M8)
noncomputable def acM (m : Md) (cm : Md → Option (Int32 × Md)) : Option (Int32 × Md) := (fX9_hold m).bind fun M1 => b2 (cm M1) fun r3 M2 => b2 (fX9_ends M2 r3) fun r5 M4 => some (r5, M4)
theorem actX (hX : HX M.2.1 n H) (hS : StX M.1 a) (hW : WFS K a) {cx : Vn → Option (Int32 × Vn)} {r : Int32} {V' : Vn} (h : cx M.1.1 = some (r, V')) : ∃ G' : Hg, acX M cx = some (r, ((V', M.1.2), G', M.2.2)) ∧ (r < 0 → HX G' n H) ∧ (¬ r < 0 → HX G' (nNext n) (hNext n H a)) := by
  obtain ⟨G, e1, h1, h2⟩ := prepX hX hS hW
  by_cases c : r < 0
  · refine ⟨G, ?_, fun _ => h1, fun q => absurd c q⟩
    unfold acX
    simp only [e1, bdS, nmD, h, b2S, settleN c]
  · obtain ⟨G', e2, h3⟩ := settleX h1 h2 c
    refine ⟨G', ?_, fun q => absurd q c, fun _ => h3⟩
    unfold acX
    simp only [e1, bdS, nmD, h, b2S, e2]
theorem stm_new {s s' : Nat → Int32} {A' : Ab} (h : StM s a) (hW : WFS K a) (hM : RepM s' A') (hf : ∀ j : Nat, 517 ≤ j → s' j = s j) : StM s' (A', a.2) := ⟨hM, h.2.1.cong hW.2.1 (fun k k1 _ => hf k (by omega)), h.2.2.cong hW.2.2 (fun k k1 _ => hf k (by omega))⟩
theorem nNext_b (hn : 0 ≤ n ∧ n ≤ 5) : 0 ≤ nNext n ∧ nNext n ≤ 5 := by unfold nNext; split <;> omega
theorem hNext_W {K' : Int} (hn : 0 ≤ n ∧ n ≤ 5) (h : ∀ k : Nat, (k : Int) < n → WFS K' (H k)) (ha : WFS K' a) : ∀ k : Nat, (k : Int) < nNext n → WFS K' (hNext n H a k) := by
  intro k hk
  unfold nNext at hk
  unfold hNext
  by_cases c : n < 5
  · rw [if_pos c] at hk ⊢
    by_cases e : (k : Int) = n
    · rw [if_pos e]; exact ha
    · rw [if_neg e]; exact h k (by omega)
  · rw [if_neg c] at hk ⊢
    by_cases e : (k : Int) = 4
    · rw [if_pos e]; exact ha
    · rw [if_neg e]
      have := h (k + 1) (by omega)
      rwa [show ((k + 1 : Nat) : Int) = (k : Int) + 1 by omega] at this
/-- an action whose two sides agree -/
theorem simAct {m : Md} (hI : Inv K M m) {K' : Int} (hK1 : K ≤ K') (hK : K' + 1 ≤ 80000) {cx : Vn → Option (Int32 × Vn)} {cm : Md → Option (Int32 × Md)} (h : ∀ (V : Vn) (s : Nat → Int32) (R : Rs) (A : Ab), RepX V A → RepM s A → WF K A → Ag (cx V) (cm (s, R)) s R K') : Sim (K' + 1) (acX M cx) (acM m cm) := by
  obtain ⟨a, n, H, L, tx, g1, g2, g3, g4, g5, g6, g7, g8, g9, g10, g11⟩ := hI
  obtain ⟨s, p, f, n', T, L', R⟩ := m
  have g5 : n' = iI n := g5
  subst g5
  have hx := fun g : Nat → Int32 => h M.1.1 s (p, g, iI n, T, L', R) a.1 g1.1 g3.1 g6.1
  obtain ⟨r, V', -, -, c1, -⟩ := hx f
  have c2' : ∀ g : Nat → Int32, ∃ (s' : Nat → Int32) (A' : Ab), cm (s, p, g, iI n, T, L', R) = some (r, (s', p, g, iI n, T, L', R)) ∧ RepX V' A' ∧ RepM s' A' ∧ WF (K' + 1) A' ∧ ∀ j : Nat, 517 ≤ j → s' j = s j := fun g => by
    obtain ⟨r2, V2, s2, A2, d1, d2, d3, d4, d5, d6⟩ := hx g
    rw [c1] at d1
    injection d1 with d1
    obtain ⟨rfl, rfl⟩ := Prod.mk.inj d1
    exact ⟨s2, A2, d2, d3, d4, d5, d6⟩
  obtain ⟨g, e1, e2⟩ := holdM (s := s) (p := p) (a := f) (R := (iI n, T, L', R))
  obtain ⟨s2, A2, d2, d3, d4, d5, d6⟩ := c2' g
  obtain ⟨G', x1, x2, x3⟩ := actX g2 g1 g6 c1
  have hn := g2.2.1
  have hW2 : WFS (K' + 1) (A2, a.2) := ⟨d5, g6.2.1.mono (by omega) hK, g6.2.2.mono (by omega) hK⟩
  have hS2 : StM s2 (A2, a.2) := stm_new g3 g6 d4 d6
  have hX2 : StX (V', M.1.2) (A2, a.2) := ⟨d3, g1.2⟩
  have hHW : ∀ k : Nat, (k : Int) < n → WFS (K' + 1) (H k) := fun k hk => (g7 k hk).mono (by omega) hK
  by_cases c : r < 0
  · refine ⟨r, _, (s2, p, g, iI n, T, L', R), x1, ?_, (A2, a.2), n, H, L, tx, hX2, x2 c, hS2, g4, rfl, hW2, hHW, g8, g9, g10, g11⟩
    unfold acM
    simp only [e1, bdS, d2, b2S, endsN c]
  · obtain ⟨q, e3, h3⟩ := endsM (s := s2) (R := (T, L', R)) hn g4 g7 (g3.cong g6 e2) g6 c
    refine ⟨r, _, (s2, q, g, iI (nNext n), T, L', R), x1, ?_, (A2, a.2), nNext n, hNext n H a, L, tx, hX2, x3 c, hS2, h3, rfl, hW2, hNext_W hn hHW (g6.mono (by omega) hK), g8, g9, g10, g11⟩
    unfold acM
    simp only [e1, bdS, d2, b2S, e3]
/-- an action whose checks the reference does first -/
theorem simActH {m : Md} (hI : Inv K M m) (hK : K + 1 ≤ 80000) {cx : Vn → Option (Int32 × Vn)} {cm : Md → Option (Int32 × Md)} (h : ∀ (V : Vn) (s : Nat → Int32) (R : Rs) (A : Ab), RepX V A → RepM s A → WF K A → AgH V (cx V) (cm (s, R)) s R K) : Sim (K + 1) (acX M cx) (cm m) := by
  obtain ⟨a, n, H, L, tx, g1, g2, g3, g4, g5, g6, g7, g8, g9, g10, g11⟩ := hI
  obtain ⟨s, p, f, n', T, L', R⟩ := m
  have g5 : n' = iI n := g5
  subst g5
  have hn := g2.2.1
  have hHW : ∀ k : Nat, (k : Int) < n → WFS (K + 1) (H k) := fun k hk => (g7 k hk).mono (by omega) hK
  rcases h M.1.1 s (p, f, iI n, T, L', R) a.1 g1.1 g3.1 g6.1 with ⟨r, r0, c1, c2⟩ | ⟨r, V', s', A', r0, r1, c1, c3, c4, c5, c6, c7⟩
  · obtain ⟨G', x1, x2, x3⟩ := actX g2 g1 g6 c1
    exact ⟨r, _, _, x1, c2, a, n, H, L, tx, g1, x2 r0, g3, g4, rfl, g6.mono (by omega) hK, hHW, g8, g9, g10, g11⟩
  · obtain ⟨G', x1, x2, x3⟩ := actX g2 g1 g6 c1
    obtain ⟨g, e1, e2⟩ := holdM (s := s) (p := p) (a := f) (R := (iI n, T, L', R))
    have c : ¬ iI r < 0 := fun q => by
      rw [show (0 : Int32) = iI 0 from rfl, iLt (by omega) (by omega) (by omega) (by omega)] at q
      omega
    have hW2 : WFS (K + 1) (A', a.2) := ⟨c5, g6.2.1.mono (by omega) hK, g6.2.2.mono (by omega) hK⟩
    obtain ⟨q, e3, h3⟩ := endsM (s := s') (R := (T, L', R)) hn g4 g7 (g3.cong g6 e2) g6 c
    refine ⟨iI r, _, (s', q, g, iI (nNext n), T, L', R), x1, ?_, (A', a.2), nNext n, hNext n H a, L, tx, ⟨c3, g1.2⟩, x3 c, stm_new g3 g6 c4 c6, h3, rfl, hW2, hNext_W hn hHW (g6.mono (by omega) hK), g8, g9, g10, g11⟩
    rw [c7 g e1]
    show b2 (fX9_ends (s', p, g, iI n, T, L', R) (iI r)) _ = _
    rw [e3, b2S]
end GE
section AL
variable {M : Xm} {m : Md} {K : Int}
theorem simAddRoom (hI : Inv K M m) (hK : K + 1 ≤ 80000) (x1 x2 x3 x4 : Int32) : Sim (K + 1) (fX8_addRoom M x1 x2 x3 x4) (fX9_addRoom m x1 x2 x3 x4) := simAct hI (Int.le_refl K) hK (cx := fun V => fX0_newRoom V x1 x2 x3 x4) (cm := fun m => fX9_doRoom m x1 x2 x3 x4) (fun _ _ _ _ a b c => agNewRoom a b c hK x1 x2 x3 x4)
theorem simGift (hI : Inv K M m) (hK : K + 1 ≤ 80000) (x1 : Int32) : Sim (K + 1) (fX8_sellVoucher M x1) (fX9_sellVoucher m x1) := simAct hI (Int.le_refl K) hK (cx := fun V => fX0_newVoucher V x1) (cm := fun m => fX9_doGift m x1) (fun _ _ _ _ a b c => agGift a b c hK x1)
theorem simBook (hI : Inv K M m) (hK : K + 1 ≤ 80000) (x1 x2 x3 x4 : Int32) : Sim (K + 1) (fX8_book M x1 x2 x3 x4) (fX9_book m x1 x2 x3 x4) := simAct hI (Int.le_refl K) hK (cx := fun V => fX0_newBooking V x1 x2 x3 x4) (cm := fun m => fX9_doBook m x1 x2 x3 x4) (fun _ _ _ _ a b c => agBook a b c hK x1 x2 x3 x4)
theorem simCancel (hI : Inv K M m) (hK : K + 1 ≤ 80000) (x1 : Int32) : Sim (K + 1) (fX8_cancel M x1) (fX9_cancel m x1) := simAct hI (Int.le_refl K) hK (cx := fun V => fX0_callOff V x1) (cm := fun m => fX9_doDrop m x1) (fun _ _ _ _ a b c => agDrop a b c hK x1)
theorem simMerge (hI : Inv K M m) (hK : K + 1 ≤ 80000) (x1 x2 : Int32) : Sim (K + 1) (fX8_merge M x1 x2) (fX9_merge m x1 x2) := simAct hI (Int.le_refl K) hK (cx := fun V => fX0_joinTeams V x1 x2) (cm := fun m => fX9_doJoin m x1 x2) (fun _ _ _ _ a b c => agJoin a b c hK x1 x2)
theorem simPlay (hI : Inv K M m) (hK : K + 2 ≤ 80000) (x1 x2 x3 x4 : Int32) : Sim (K + 1 + 1) (fX8_play M x1 x2 x3 x4) (fX9_play m x1 x2 x3 x4) := simAct hI (K' := K + 1) (by omega) (by omega) (cx := fun V => fX0_letPlay V x1 x2 x3 x4) (cm := fun m => fX9_doPlay m x1 x2 x3 x4) (fun _ _ _ _ a b c => agPlay a b c hK x1 x2 x3 x4)
theorem simPrice (hI : Inv K M m) (hK : K + 1 ≤ 80000) (x1 x2 : Int32) : Sim (K + 1) (fX8_setPrice M x1 x2) (fX9_setPrice m x1 x2) := simActH hI hK (cx := fun V => fX0_changePrice V x1 x2) (cm := fun m => fX9_setPrice m x1 x2) (fun _ _ _ _ a b c => agPrice a b c hK x1 x2)
theorem simSet (hI : Inv K M m) (hK : K + 1 ≤ 80000) (x1 x2 : Int32) : Sim (K + 1) (fX8_set M x1 x2) (fX9_set m x1 x2) := simActH hI hK (cx := fun V => fX0_changeSetting V x1 x2) (cm := fun m => fX9_set m x1 x2) (fun _ _ _ _ a b c => agSet a b c hK x1 x2)
theorem simMove (hI : Inv K M m) (hK : K + 1 ≤ 80000) (x1 x2 : Int32) : Sim (K + 1) (fX8_move M x1 x2) (fX9_move m x1 x2) := simActH hI hK (cx := fun V => fX0_changeTime V x1 x2) (cm := fun m => fX9_move m x1 x2) (fun _ _ _ _ a b c => agMove a b c hK x1 x2)
end AL

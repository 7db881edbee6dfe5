/-! Both objects show one state: what holds between calls. -/
section GE
variable {M : Xm} {n K : Int} {H : Int → FS} {a : FS}
/-- the class's actions -/
noncomputable def acX (M : Xm) (cx : Vn → Option (Int32 × Vn)) : Option (Int32 × Xm) := (fX1_prepare ((M.2.1, M.1))).bind fun M1 => nm ((M1.2, M1.1, M.2.2)) fun M2 => b2 (cx M2.1.1) fun r4 M3 => nm (((M3, M2.1.2), M2.2)) fun M5 => b2 (fX1_settle (M5.2.1) r4) fun r7 M6 => nm ((M5.1, M6, M5.2.2)) fun M8 => some (r7, M8)
theorem actX (hX : HX M.2.1 n H) (hS : StX M.1 a) (hW : WFS K a) {cx : Vn → Option (Int32 × Vn)} {r : Int32} {V' : Vn} (h : cx M.1.1 = some (r, V')) : ∃ G' : Hg, acX M cx = some (r, ((V', M.1.2), G', M.2.2)) ∧ (r < 0 → HX G' n H) ∧ (¬ r < 0 → HX G' (nNext n) (hNext n H a)) := by
  obtain ⟨G, e1, h1, h2⟩ := prepX hX hS hW
  by_cases c : r < 0
  · refine ⟨G, ?_, fun _ => h1, fun q => absurd c q⟩
    unfold acX
    simp only [e1, bdS, nmD, h, b2S, settleN c]
  · obtain ⟨G', e2, h3⟩ := settleX h1 h2 c
    refine ⟨G', ?_, fun q => absurd q c, fun _ => h3⟩
    unfold acX
    simp only [e1, bdS, nmD, h, b2S, e2]
theorem nNext_b (hn : 0 ≤ n ∧ n ≤ 5) : 0 ≤ nNext n ∧ nNext n ≤ 5 := by unfold nNext; split <;> omega
theorem hNext_W {K' : Int} (hn : 0 ≤ n ∧ n ≤ 5) (h : ∀ k : Nat, (k : Int) < n → WFS K' (H k)) (ha : WFS K' a) : ∀ k : Nat, (k : Int) < nNext n → WFS K' (hNext n H a k) := by
  intro k hk
  unfold nNext at hk
  unfold hNext
  by_cases c : n < 5
  · rw [if_pos c] at hk ⊢
    by_cases e : (k : Int) = n
    · rw [if_pos e]; exact ha
    · rw [if_neg e]; exact h k (by omega)
  · rw [if_neg c] at hk ⊢
    by_cases e : (k : Int) = 4
    · rw [if_pos e]; exact ha
    · rw [if_neg e]
      have := h (k + 1) (by omega)
      rwa [show ((k + 1 : Nat) : Int) = (k : Int) + 1 by omega] at this
end GE
section AL
variable {M : Xm} {K : Int}
end AL

/-! The history, on both sides. -/
def HX (G : Hg) (n : Int) (H : Int → FS) : Prop := G.1 = iI n ∧ (0 ≤ n ∧ n ≤ 5) ∧ (∀ i : Nat, i < 6 → G.2.1 i < 6) ∧ (∀ i j : Nat, i < 6 → j < 6 → G.2.1 i = G.2.1 j → i = j) ∧ ∀ k : Nat, (k : Int) < n → StX (G.2.2 (G.2.1 k)) (H k)
def hNext (n : Int) (H : Int → FS) (a : FS) : Int → FS := fun k => if n < 5 then (if k = n then a else H k) else (if k = 4 then a else H (k + 1))
def nNext (n : Int) : Int := if n < 5 then n + 1 else 5
section HXS
variable {G : Hg} {now : Sn} {n K : Int} {H : Int → FS} {a : FS}
theorem stAt (h : HX G n H) {k : Int} (h1 : 0 ≤ k) (h2 : k < 6) : fX1_stateAt G (iI k) = some (G.2.1 k.toNat) ∧ G.2.1 k.toNat < 6 := by
  refine ⟨?_, h.2.2.1 _ (by omega)⟩
  have e0 : (0 : Int32) = iI 0 := rfl
  have e6 : (6 : Int32) = iI 6 := rfl
  unfold fX1_stateAt
  rw [if_neg (fun q => by rw [e0, iLt (by omega) (by omega) (by omega) (by omega)] at q; omega), if_neg (fun q => by rw [e6, iLe (by omega) (by omega) (by omega) (by omega)] at q; omega), iNat h1 (by omega)]
theorem prepX (h : HX G n H) (hs : StX now a) (hW : WFS K a) : ∃ G' : Hg, fX1_prepare (G, now) = some (G', now) ∧ HX G' n H ∧ StX (G'.2.2 (G'.2.1 n.toNat)) a := by
  have hn := h.2.1
  obtain ⟨e1, e2⟩ := stAt h (k := n) hn.1 (by omega)
  obtain ⟨S', e3, h3⟩ := copySt (S1 := G.2.2 (G.2.1 n.toNat)) hs hW
  refine ⟨(G.1, G.2.1, updN G.2.2 (G.2.1 n.toNat) S'), ?_, ⟨h.1, hn, h.2.2.1, h.2.2.2.1, fun k hk => ?_⟩, ?_⟩
  · unfold fX1_prepare
    rw [show (G, now).1.1 = iI n from h.1]
    rw [show (G, now).1 = G from rfl, e1]
    show (if G.2.1 n.toNat < 6 then _ else none) = _
    rw [if_pos e2]
    show (fX5_copyFrom (G.2.2 (G.2.1 n.toNat), now)).bind _ = _
    rw [e3]
    rfl
  · have hne : G.2.1 k ≠ G.2.1 n.toNat := fun e => by
      have := h.2.2.2.1 k n.toNat (by omega) (by omega) e
      omega
    show StX (updN G.2.2 (G.2.1 n.toNat) S' (G.2.1 k)) (H k)
    unfold updN
    rw [if_neg hne]
    exact h.2.2.2.2 k hk
  · show StX (updN G.2.2 (G.2.1 n.toNat) S' (G.2.1 n.toNat)) a
    unfold updN
    rw [if_pos rfl]
    exact h3
theorem settleX (h : HX G n H) (hs : StX (G.2.2 (G.2.1 n.toNat)) a) {r : Int32} (hr : ¬ r < 0) : ∃ G' : Hg, fX1_settle G r = some (r, G') ∧ HX G' (nNext n) (hNext n H a) := by
  have hn := h.2.1
  have e5 : (5 : Int32) = iI 5 := rfl
  by_cases c : n < 5
  · refine ⟨(iI (n + 1), G.2), ?_, ⟨?_, ?_, h.2.2.1, h.2.2.2.1, fun k hk => ?_⟩⟩
    · unfold fX1_settle
      rw [if_neg hr]
      unfold fX1_record
      rw [h.1, if_neg (fun q => by rw [e5, iLe (by omega) (by omega) (by omega) (by omega)] at q; omega), bdS, show (1 : Int32) = iI 1 from rfl, iA]
    · unfold nNext; rw [if_pos c]
    · unfold nNext; rw [if_pos c]; omega
    · unfold nNext at hk
      rw [if_pos c] at hk
      unfold hNext
      rw [if_pos c]
      by_cases e : (k : Int) = n
      · rw [if_pos e, show k = n.toNat by omega]; exact hs
      · rw [if_neg e]; exact h.2.2.2.2 k (by omega)
  · have h5 : n = 5 := by omega
    subst h5
    have hf := h.2.2.1
    refine ⟨(iI 5, rotN G.2.1, G.2.2), ?_, ⟨?_, ?_, fun i hi => ?_, fun i j hi hj e => ?_, fun k hk => ?_⟩⟩
    · unfold fX1_settle
      rw [if_neg hr]
      unfold fX1_record
      rw [h.1, if_pos (by decide), if_pos ⟨hf 0 (by omega), hf 1 (by omega), hf 2 (by omega), hf 3 (by omega), hf 4 (by omega), hf 5 (by omega)⟩]
      rfl
    · rfl
    · unfold nNext; rw [if_neg (by omega)]; omega
    · show rotN G.2.1 i < 6
      rcases (show i = 0 ∨ i = 1 ∨ i = 2 ∨ i = 3 ∨ i = 4 ∨ i = 5 by omega) with rfl | rfl | rfl | rfl | rfl | rfl
      · exact hf 1 (by omega)
      · exact hf 2 (by omega)
      · exact hf 3 (by omega)
      · exact hf 4 (by omega)
      · exact hf 5 (by omega)
      · exact hf 0 (by omega)
    · have hr : ∀ i : Nat, i < 6 → rotN G.2.1 i = G.2.1 (if i < 5 then i + 1 else 0) := by
        intro i hi
        rcases (show i = 0 ∨ i = 1 ∨ i = 2 ∨ i = 3 ∨ i = 4 ∨ i = 5 by omega) with rfl | rfl | rfl | rfl | rfl | rfl <;> rfl
      have e : rotN G.2.1 i = rotN G.2.1 j := e
      rw [hr i hi, hr j hj] at e
      have := h.2.2.2.1 _ _ (by split <;> omega) (by split <;> omega) e
      split at this <;> split at this <;> omega
    · unfold nNext at hk
      rw [if_neg (by omega)] at hk
      unfold hNext
      rw [if_neg (by omega)]
      show StX (G.2.2 (rotN G.2.1 k)) _
      have hk : k < 5 := by omega
      rcases (show k = 0 ∨ k = 1 ∨ k = 2 ∨ k = 3 ∨ k = 4 by omega) with rfl | rfl | rfl | rfl | rfl
      · exact h.2.2.2.2 1 (by omega)
      · exact h.2.2.2.2 2 (by omega)
      · exact h.2.2.2.2 3 (by omega)
      · exact h.2.2.2.2 4 (by omega)
      · exact hs
theorem settleN {r : Int32} (hr : r < 0) : fX1_settle G r = some (r, G) := by
  unfold fX1_settle
  rw [if_pos hr]
end HXS
section HMS
variable {s p a : Nat → Int32} {R : Int32 × (Nat → Int32) × Int32 × Int32 × Int32 × Int64 × (Nat → Int32)}
end HMS
section EM
variable {s p a : Nat → Int32} {n K : Int} {H : Int → FS} {A : FS}
end EM

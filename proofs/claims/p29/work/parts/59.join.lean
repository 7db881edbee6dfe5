/-! A merge: lists, and the venue behind it. -/
theorem len_app (l m : List Int) : len (l ++ m) = len l + len m := by
  unfold len
  rw [List.length_append]
  omega
theorem at_app1 {l m : List Int} {k : Int} (h1 : 0 ≤ k) (h2 : k < len l) : at' (l ++ m) k = at' l k := by
  unfold len at h2
  unfold at'
  rw [List.getD_eq_getElem?_getD, List.getD_eq_getElem?_getD, List.getElem?_append_left (by omega)]
theorem at_app2 {l m : List Int} {k : Int} (h1 : 0 ≤ k) : at' (l ++ m) (k + len l) = at' m k := by
  have h2 : (k + len l).toNat = l.length + k.toNat := by unfold len; omega
  unfold at'
  rw [List.getD_eq_getElem?_getD, List.getD_eq_getElem?_getD, List.getElem?_append_right (by omega), h2]
  congr 2
  omega
theorem at_one (p : Int) : at' [p] 0 = p := rfl
theorem drop_at {l : List Int} {k : Int} (h1 : 0 ≤ k) (h2 : k < len l) : l.drop k.toNat = [at' l k] ++ l.drop (k + 1).toNat := by
  unfold len at h2
  have e : (k + 1).toNat = k.toNat + 1 := by omega
  rw [e, List.drop_eq_getElem_cons (show k.toNat < l.length by omega)]
  unfold at'
  rw [List.getD_eq_getElem?_getD, List.getElem?_eq_getElem (show k.toNat < l.length by omega)]
  rfl
theorem up1_up1 {α : Type} (f : Int → α) (k : Int) (v w : α) : up1 (up1 f k v) k w = up1 f k w := by
  funext i
  unfold up1
  split <;> rfl
theorem up2_comm' (f : Int → Int → Int) {r c v r' c' v' : Int} (h : r < r' ∨ r' < r) : up2 (up2 f r c v) r' c' v' = up2 (up2 f r' c' v') r c v := by
  funext i k
  unfold up2
  by_cases e : i = r ∧ k = c
  · rw [if_pos e, if_neg (by omega), if_pos e]
  · rw [if_neg e, if_neg e]
/-- the bookings behind a merge, but the state of the first one -/
def jB (A : Ab) (i j : Int) : Int → Int → Int := up2 (up2 (up2 (up2 (up2 (up2 A.B j 2 (A.B j 2 + A.B i 2)) i 2 0) j 4 (A.B j 4 + A.B i 4)) i 4 0) j 5 (A.B j 5 + A.B i 5)) i 5 0
def jL (A : Ab) (i j : Int) : Int → List Int := up1 (up1 A.rows j (A.rows j ++ A.rows i)) i []
def jn (A : Ab) (i j : Int) : Ab := mkA A.R (up2 (jB A i j) i 3 3) A.V A.S (jL A i j) A.F A.U A.nR A.nB A.nV A.t
theorem jB_alt (A : Ab) {i j : Int} (h : i < j ∨ j < i) : up2 (up2 (up2 (up2 (up2 (up2 A.B j 2 (A.B j 2 + A.B i 2)) j 4 (A.B j 4 + A.B i 4)) j 5 (A.B j 5 + A.B i 5)) i 2 0) i 4 0) i 5 0 = jB A i j := by
  unfold jB
  rw [up2_comm' (up2 (up2 A.B j 2 (A.B j 2 + A.B i 2)) j 4 (A.B j 4 + A.B i 4)) (r := j) (r' := i) (c := 5) (c' := 2) (by omega), up2_comm' (up2 A.B j 2 (A.B j 2 + A.B i 2)) (r := j) (r' := i) (c := 4) (c' := 2) (by omega), up2_comm' (up2 (up2 (up2 A.B j 2 (A.B j 2 + A.B i 2)) i 2 0) j 4 (A.B j 4 + A.B i 4)) (r := j) (r' := i) (c := 5) (c' := 4) (by omega)]
section JW
variable {A : Ab} {K : Int} {i j : Int}
theorem jn_o {x k : Int} (h1 : x < i ∨ i < x) (h2 : x < j ∨ j < x) : (jn A i j).B x k = A.B x k := by
  show up2 (jB A i j) i 3 3 x k = _
  unfold jB
  rw [up2_n _ _ (by omega), up2_n _ _ (by omega), up2_n _ _ (by omega), up2_n _ _ (by omega), up2_n _ _ (by omega), up2_n _ _ (by omega), up2_n _ _ (by omega)]
theorem jn_k {x k : Int} (h : k = 0 ∨ k = 1 ∨ 6 ≤ k) : (jn A i j).B x k = A.B x k := by
  show up2 (jB A i j) i 3 3 x k = _
  unfold jB
  rw [up2_n _ _ (by omega), up2_n _ _ (by omega), up2_n _ _ (by omega), up2_n _ _ (by omega), up2_n _ _ (by omega), up2_n _ _ (by omega), up2_n _ _ (by omega)]
theorem jn_j2 (h : i < j ∨ j < i) : (jn A i j).B j 2 = A.B j 2 + A.B i 2 := by
  show up2 (jB A i j) i 3 3 j 2 = _
  unfold jB
  rw [up2_n _ _ (by omega), up2_n _ _ (by omega), up2_n _ _ (by omega), up2_n _ _ (by omega), up2_n _ _ (by omega), up2_n _ _ (by omega), up2_s]
theorem jn_j3 (h : i < j ∨ j < i) : (jn A i j).B j 3 = A.B j 3 := by
  show up2 (jB A i j) i 3 3 j 3 = _
  unfold jB
  rw [up2_n _ _ (by omega), up2_n _ _ (by omega), up2_n _ _ (by omega), up2_n _ _ (by omega), up2_n _ _ (by omega), up2_n _ _ (by omega), up2_n _ _ (by omega)]
theorem jn_j4 (h : i < j ∨ j < i) : (jn A i j).B j 4 = A.B j 4 + A.B i 4 := by
  show up2 (jB A i j) i 3 3 j 4 = _
  unfold jB
  rw [up2_n _ _ (by omega), up2_n _ _ (by omega), up2_n _ _ (by omega), up2_n _ _ (by omega), up2_s]
theorem jn_j5 (h : i < j ∨ j < i) : (jn A i j).B j 5 = A.B j 5 + A.B i 5 := by
  show up2 (jB A i j) i 3 3 j 5 = _
  unfold jB
  rw [up2_n _ _ (by omega), up2_n _ _ (by omega), up2_s]
theorem jn_i2 (h : i < j ∨ j < i) : (jn A i j).B i 2 = 0 := by
  show up2 (jB A i j) i 3 3 i 2 = _
  unfold jB
  rw [up2_n _ _ (by omega), up2_n _ _ (by omega), up2_n _ _ (by omega), up2_n _ _ (by omega), up2_n _ _ (by omega), up2_s]
theorem jn_i3 : (jn A i j).B i 3 = 3 := by
  show up2 (jB A i j) i 3 3 i 3 = _
  rw [up2_s]
theorem jn_i4 (h : i < j ∨ j < i) : (jn A i j).B i 4 = 0 := by
  show up2 (jB A i j) i 3 3 i 4 = _
  unfold jB
  rw [up2_n _ _ (by omega), up2_n _ _ (by omega), up2_n _ _ (by omega), up2_s]
theorem jn_i5 : (jn A i j).B i 5 = 0 := by
  show up2 (jB A i j) i 3 3 i 5 = _
  unfold jB
  rw [up2_n _ _ (by omega), up2_s]
theorem jL_o {x : Int} (h1 : x < i ∨ i < x) (h2 : x < j ∨ j < x) : jL A i j x = A.rows x := by
  unfold jL
  rw [up1_n _ _ (by omega), up1_n _ _ (by omega)]
theorem jL_i : jL A i j i = [] := up1_s _ _ _
theorem jL_j (h : i < j ∨ j < i) : jL A i j j = A.rows j ++ A.rows i := by
  unfold jL
  rw [up1_n _ _ (by omega), up1_s]
theorem app_len (hW : WF K A) (hi : 0 ≤ i ∧ i < A.nB) (hj : 0 ≤ j ∧ j < A.nB) (hij : i < j ∨ j < i) : (A.rows j ++ A.rows i).Nodup ∧ len (A.rows j) + len (A.rows i) ≤ 16 := by
  have hn := hW.n
  have w6i := hW.2.2.2.2.2.1 i hi.1 hi.2
  have w6j := hW.2.2.2.2.2.1 j hj.1 hj.2
  have nd : (A.rows j ++ A.rows i).Nodup := by
    refine List.nodup_append.mpr ⟨w6j.1, w6i.1, fun a ha b hb e => ?_⟩
    subst e
    have := hW.2.2.2.2.2.2.1 j i a hj.1 hj.2 hi.1 hi.2 ha hb
    omega
  have := nodup_len 16 (A.rows j ++ A.rows i) nd (fun x hx => by
    rcases List.mem_append.mp hx with h | h
    · have := (w6j.2 x h).1; omega
    · have := (w6i.2 x h).1; omega)
  rw [List.length_append] at this
  unfold len
  exact ⟨nd, by omega⟩
set_option maxHeartbeats 2000000 in
theorem WF.jnw (hW : WF K A) (hi : 0 ≤ i ∧ i < A.nB) (hj : 0 ≤ j ∧ j < A.nB) (hij : i < j ∨ j < i) (si : A.B i 3 = 0) (sj : A.B j 3 = 0) (he : A.B i 0 = A.B j 0) (hp : A.B i 2 + A.B j 2 ≤ A.R (A.B j 0) 3) : WF K (jn A i j) := by
  have hnd := app_len hW hi hj hij
  obtain ⟨w1, w2, w3, w4, w5, w6, w7, w8⟩ := hW
  have hm : ∀ x q : Int, q ∈ jL A i j x → ((x < i ∨ i < x) ∧ (x < j ∨ j < x) ∧ q ∈ A.rows x) ∨ (x = j ∧ (q ∈ A.rows j ∨ q ∈ A.rows i)) := fun x q hq => by
    by_cases e : x = i
    · rw [e, jL_i] at hq
      exact absurd hq List.not_mem_nil
    · by_cases f : x = j
      · rw [f, jL_j hij] at hq
        exact Or.inr ⟨f, List.mem_append.mp hq⟩
      · rw [jL_o (by omega) (by omega)] at hq
        exact Or.inl ⟨by omega, by omega, hq⟩
  have so : ∀ x : Int, (x < i ∨ i < x) → (x < j ∨ j < x) → rsum (jn A i j) x = rsum A x := fun x h1 h2 => by
    show ((jL A i j x).map A.U).sum = _
    rw [jL_o h1 h2]
    rfl
  have sjj : rsum (jn A i j) j = rsum A j + rsum A i := by
    show ((jL A i j j).map A.U).sum = _
    rw [jL_j hij, List.map_append, List.sum_append_int]
    rfl
  refine ⟨w1, w2, w3, fun x x0 x1 => ?_, w5, fun x x0 x1 => ⟨?_, fun q hq => ?_⟩, fun x y q x0 x1 y0 y1 hx hy => ?_, fun x y x0 x1 y0 y1 hne q1 q2 q3 => ?_⟩
  · have wi := w4 i hi.1 hi.2
    have wj := w4 j hj.1 hj.2
    rw [jn_k (k := 0) (by omega), jn_k (k := 1) (by omega)]
    by_cases e : x = i
    · rw [e, jn_i2 hij, jn_i3, jn_i4 hij, jn_i5]
      exact ⟨wi.1, wi.2.1, by omega, by omega, by omega, by omega, fun z => absurd z (by omega)⟩
    · by_cases f : x = j
      · rw [f, jn_j2 hij, jn_j3 hij, jn_j4 hij, jn_j5 hij, sjj]
        have r3 := (w3 _ wj.1.1 wj.1.2).2.2.2.1
        have gi := wi.2.2.2.2.2.2 si
        have gj := wj.2.2.2.2.2.2 sj
        have hsi : 0 ≤ rsum A i := (rsum_pos (K := K) ⟨w1, w2, w3, w4, w5, w6, w7, w8⟩ hi.1 hi.2).1
        have hsj : 0 ≤ rsum A j := (rsum_pos (K := K) ⟨w1, w2, w3, w4, w5, w6, w7, w8⟩ hj.1 hj.2).1
        exact ⟨wj.1, wj.2.1, by omega, by omega, by omega, by omega, fun _ => by omega⟩
      · rw [jn_o (by omega) (by omega), jn_o (by omega) (by omega), jn_o (by omega) (by omega), jn_o (by omega) (by omega), so x (by omega) (by omega)]
        exact w4 x x0 x1
  · show (jL A i j x).Nodup
    by_cases e : x = i
    · rw [e, jL_i]
      exact List.nodup_nil
    · by_cases f : x = j
      · rw [f, jL_j hij]
        exact hnd.1
      · rw [jL_o (by omega) (by omega)]
        exact (w6 x x0 x1).1
  · have hq : q ∈ jL A i j x := hq
    show (0 ≤ q ∧ q < A.nB) ∧ (0 ≤ A.F q ∧ A.F q < A.nV) ∧ (0 ≤ A.U q ∧ A.U q ≤ 1600) ∧ ((jn A i j).B x 3 = 0 → 0 < A.U q)
    rcases hm x q hq with ⟨h1, h2, h3⟩ | ⟨h1, h2⟩
    · rw [jn_o h1 h2]
      exact (w6 x x0 x1).2 q h3
    · rw [h1, jn_j3 hij]
      rcases h2 with h2 | h2
      · exact (w6 j hj.1 hj.2).2 q h2
      · obtain ⟨p1, p2, p3, p4⟩ := (w6 i hi.1 hi.2).2 q h2
        exact ⟨p1, p2, p3, fun _ => p4 si⟩
  · have hx : q ∈ jL A i j x := hx
    have hy : q ∈ jL A i j y := hy
    rcases hm x q hx with ⟨h1, h2, h3⟩ | ⟨h1, h2⟩
    · rcases hm y q hy with ⟨g1, g2, g3⟩ | ⟨g1, g2⟩
      · exact w7 x y q x0 x1 y0 y1 h3 g3
      · rcases g2 with g2 | g2
        · have := w7 x j q x0 x1 hj.1 hj.2 h3 g2; omega
        · have := w7 x i q x0 x1 hi.1 hi.2 h3 g2; omega
    · rcases hm y q hy with ⟨g1, g2, g3⟩ | ⟨g1, g2⟩
      · rcases h2 with h2 | h2
        · have := w7 y j q y0 y1 hj.1 hj.2 g3 h2; omega
        · have := w7 y i q y0 y1 hi.1 hi.2 g3 h2; omega
      · omega
  · rw [jn_k (k := 0) (by omega), jn_k (k := 0) (by omega)] at q1
    rw [jn_k (k := 0) (by omega), jn_k (k := 1) (by omega), jn_k (k := 1) (by omega)]
    have key : ∀ z : Int, (jn A i j).B z 3 < 2 → A.B z 3 < 2 := fun z hz => by
      by_cases e : z = i
      · rw [e]; omega
      · by_cases f : z = j
        · rw [f]; omega
        · rwa [jn_o (by omega) (by omega)] at hz
    exact w8 x y x0 x1 y0 y1 hne q1 (key x q2) (key y q3)
end JW

abbrev Hg : Type := Int32 × (Nat → Nat) × (Nat → Sn)
def updN {α : Type} (f : Nat → α) (k : Nat) (v : α) : Nat → α := fun i => if i = k then v else f i
def wHi (cI cS : ClassId) (hh ha : Nat) (z : Nat → Nat → Nat) (M : Hg) : va_W := (hh, .inr (1, [.ref ha, .int M.1])) :: (ha, .inl (cS, 6, .inr (.inr (.inr (.inr (fun i => some (z (M.2.1 i) 0))))))) :: (wSt cI (z 0) (M.2.2 0) ++ (wSt cI (z 1) (M.2.2 1) ++ (wSt cI (z 2) (M.2.2 2) ++ (wSt cI (z 3) (M.2.2 3) ++ (wSt cI (z 4) (M.2.2 4) ++ wSt cI (z 5) (M.2.2 5))))))
def wHQ (cI cS : ClassId) (hh ha : Nat) (z : Nat → Nat → Nat) (zn : Nat → Nat) (N : Hg × Sn) : va_W := wHi cI cS hh ha z N.1 ++ wSt cI zn N.2
theorem pHi_0 (cI cS : ClassId) (hh ha : Nat) (z : Nat → Nat → Nat) (M : Hg) : (wHi cI cS hh ha z M)[0]? = some (hh, .inr (1, [.ref ha, .int M.1])) := rfl
theorem pHi_1 (cI cS : ClassId) (hh ha : Nat) (z : Nat → Nat → Nat) (M : Hg) : (wHi cI cS hh ha z M)[1]? = some (ha, .inl (cS, 6, .inr (.inr (.inr (.inr (fun i => some (z (M.2.1 i) 0))))))) := rfl
theorem pHQ_0 (cI cS : ClassId) (hh ha : Nat) (z : Nat → Nat → Nat) (zn : Nat → Nat) (N : Hg × Sn) : (wHQ cI cS hh ha z zn N)[0]? = some (hh, .inr (1, [.ref ha, .int N.1.1])) := rfl
theorem adr_St (cI : ClassId) (z : Nat → Nat) (S S' : Sn) : (wSt cI z S).map Prod.fst = (wSt cI z S').map Prod.fst := rfl
theorem adr_Hi (cI cS : ClassId) (hh ha : Nat) (z : Nat → Nat → Nat) (M M' : Hg) : (wHi cI cS hh ha z M).map Prod.fst = (wHi cI cS hh ha z M').map Prod.fst := by
  unfold wHi
  simp only [List.map_cons, List.map_append]
  rw [adr_St cI (z 0) (M.2.2 0) (M'.2.2 0), adr_St cI (z 1) (M.2.2 1) (M'.2.2 1), adr_St cI (z 2) (M.2.2 2) (M'.2.2 2), adr_St cI (z 3) (M.2.2 3) (M'.2.2 3), adr_St cI (z 4) (M.2.2 4) (M'.2.2 4), adr_St cI (z 5) (M.2.2 5) (M'.2.2 5)]
theorem adr_HQ (cI cS : ClassId) (hh ha : Nat) (z : Nat → Nat → Nat) (zn : Nat → Nat) (N N' : Hg × Sn) : (wHQ cI cS hh ha z zn N).map Prod.fst = (wHQ cI cS hh ha z zn N').map Prod.fst := by
  unfold wHQ
  rw [List.map_append, List.map_append, adr_Hi cI cS hh ha z N.1 N'.1, adr_St cI zn N.2 N'.2]
theorem st_mem (cI : ClassId) (z : Nat → Nat) (S : Sn) : (z 0, .inr (5, [.ref (z 1), .ref (z 12), .ref (z 24)])) ∈ wSt cI z S := List.mem_cons_self
theorem pHi_st (cI cS : ClassId) (hh ha : Nat) (z : Nat → Nat → Nat) (M : Hg) {j : Nat} (hj : j < 6) : ∃ (k : Nat) (vs : List Value), (wHi cI cS hh ha z M)[k]? = some (z j 0, .inr (5, vs)) := by
  have h : (z j 0, .inr (5, [.ref (z j 1), .ref (z j 12), .ref (z j 24)])) ∈ wHi cI cS hh ha z M := by
    have hm := st_mem cI (z j) (M.2.2 j)
    unfold wHi
    refine List.mem_cons_of_mem _ (List.mem_cons_of_mem _ ?_)
    rcases (show j = 0 ∨ j = 1 ∨ j = 2 ∨ j = 3 ∨ j = 4 ∨ j = 5 by omega) with rfl | rfl | rfl | rfl | rfl | rfl
    · exact List.mem_append_left _ hm
    · exact List.mem_append_right _ (List.mem_append_left _ hm)
    · exact List.mem_append_right _ (List.mem_append_right _ (List.mem_append_left _ hm))
    · exact List.mem_append_right _ (List.mem_append_right _ (List.mem_append_right _ (List.mem_append_left _ hm)))
    · exact List.mem_append_right _ (List.mem_append_right _ (List.mem_append_right _ (List.mem_append_right _ (List.mem_append_left _ hm))))
    · exact List.mem_append_right _ (List.mem_append_right _ (List.mem_append_right _ (List.mem_append_right _ (List.mem_append_right _ hm))))
  obtain ⟨k, hk⟩ := List.getElem?_of_mem h
  exact ⟨k, _, hk⟩
theorem sg_HQ_Hi (cI cS : ClassId) (hh ha : Nat) (z : Nat → Nat → Nat) (zn : Nat → Nat) (N : Hg × Sn) (M' : Hg) : Sg (wHQ cI cS hh ha z zn N) (wHi cI cS hh ha z N.1) (wHi cI cS hh ha z M') (wHQ cI cS hh ha z zn (M', N.2)) := ⟨[wHi cI cS hh ha z N.1, wSt cI zn N.2], [wHi cI cS hh ha z N.1], [wHi cI cS hh ha z M'], [wHi cI cS hh ha z M', wSt cI zn N.2], [0], [1], by simp only [wHQ, List.flatten_cons, List.flatten_nil, List.append_assoc, List.append_nil, List.nil_append, List.cons_append], by simp, by simp, by simp only [wHQ, List.flatten_cons, List.flatten_nil, List.append_assoc, List.append_nil, List.nil_append, List.cons_append], rfl, rfl, rfl, rfl, rfl⟩
theorem sr_HQ_Hi (cI cS : ClassId) (hh ha : Nat) (z : Nat → Nat → Nat) (zn : Nat → Nat) (N : Hg × Sn)  : Sg (wHQ cI cS hh ha z zn N) (wHi cI cS hh ha z N.1) (wHi cI cS hh ha z N.1) (wHQ cI cS hh ha z zn (N.1, N.2)) := ⟨[wHi cI cS hh ha z N.1, wSt cI zn N.2], [wHi cI cS hh ha z N.1], [wHi cI cS hh ha z N.1], [wHi cI cS hh ha z N.1, wSt cI zn N.2], [0], [1], by simp only [wHQ, List.flatten_cons, List.flatten_nil, List.append_assoc, List.append_nil, List.nil_append, List.cons_append], by simp, by simp, by simp only [wHQ, List.flatten_cons, List.flatten_nil, List.append_assoc, List.append_nil, List.nil_append, List.cons_append], rfl, rfl, rfl, rfl, rfl⟩
theorem sg_HQ_Q1_0 (cI cS : ClassId) (hh ha : Nat) (z : Nat → Nat → Nat) (zn : Nat → Nat) (N : Hg × Sn) (Q : Sn × Sn) : Sg (wHQ cI cS hh ha z zn N) (wQQ cI (z 0) zn (N.1.2.2 0, N.2)) (wQQ cI (z 0) zn Q) (wHQ cI cS hh ha z zn ((N.1.1, N.1.2.1, updN N.1.2.2 0 Q.1), Q.2)) := ⟨[[(hh, .inr (1, [.ref ha, .int N.1.1]))], [(ha, .inl (cS, 6, .inr (.inr (.inr (.inr (fun i => some (z (N.1.2.1 i) 0)))))))], (wSt cI (z 0) (N.1.2.2 0)), (wSt cI (z 1) (N.1.2.2 1)), (wSt cI (z 2) (N.1.2.2 2)), (wSt cI (z 3) (N.1.2.2 3)), (wSt cI (z 4) (N.1.2.2 4)), (wSt cI (z 5) (N.1.2.2 5)), (wSt cI zn N.2)], [(wSt cI (z 0) (N.1.2.2 0, N.2).1), (wSt cI zn (N.1.2.2 0, N.2).2)], [(wSt cI (z 0) Q.1), (wSt cI zn Q.2)], [[(hh, .inr (1, [.ref ha, .int ((N.1.1, N.1.2.1, updN N.1.2.2 0 Q.1), Q.2).1.1]))], [(ha, .inl (cS, 6, .inr (.inr (.inr (.inr (fun i => some (z (((N.1.1, N.1.2.1, updN N.1.2.2 0 Q.1), Q.2).1.2.1 i) 0)))))))], (wSt cI (z 0) (((N.1.1, N.1.2.1, updN N.1.2.2 0 Q.1), Q.2).1.2.2 0)), (wSt cI (z 1) (((N.1.1, N.1.2.1, updN N.1.2.2 0 Q.1), Q.2).1.2.2 1)), (wSt cI (z 2) (((N.1.1, N.1.2.1, updN N.1.2.2 0 Q.1), Q.2).1.2.2 2)), (wSt cI (z 3) (((N.1.1, N.1.2.1, updN N.1.2.2 0 Q.1), Q.2).1.2.2 3)), (wSt cI (z 4) (((N.1.1, N.1.2.1, updN N.1.2.2 0 Q.1), Q.2).1.2.2 4)), (wSt cI (z 5) (((N.1.1, N.1.2.1, updN N.1.2.2 0 Q.1), Q.2).1.2.2 5)), (wSt cI zn ((N.1.1, N.1.2.1, updN N.1.2.2 0 Q.1), Q.2).2)], [2, 8], [0, 1, 3, 4, 5, 6, 7], by simp only [wHQ, wHi, List.flatten_cons, List.flatten_nil, List.append_assoc, List.append_nil, List.nil_append, List.cons_append], by simp only [wQQ, List.flatten_cons, List.flatten_nil, List.append_assoc, List.append_nil, List.nil_append, List.cons_append], by simp only [wQQ, List.flatten_cons, List.flatten_nil, List.append_assoc, List.append_nil, List.nil_append, List.cons_append], by simp only [wHQ, wHi, List.flatten_cons, List.flatten_nil, List.append_assoc, List.append_nil, List.nil_append, List.cons_append], rfl, rfl, rfl, rfl, rfl⟩
theorem sg_HQ_Q2_0 (cI cS : ClassId) (hh ha : Nat) (z : Nat → Nat → Nat) (zn : Nat → Nat) (N : Hg × Sn) (Q : Sn × Sn) : Sg (wHQ cI cS hh ha z zn N) (wQQ cI zn (z 0) (N.2, N.1.2.2 0)) (wQQ cI zn (z 0) Q) (wHQ cI cS hh ha z zn ((N.1.1, N.1.2.1, updN N.1.2.2 0 Q.2), Q.1)) := ⟨[[(hh, .inr (1, [.ref ha, .int N.1.1]))], [(ha, .inl (cS, 6, .inr (.inr (.inr (.inr (fun i => some (z (N.1.2.1 i) 0)))))))], (wSt cI (z 0) (N.1.2.2 0)), (wSt cI (z 1) (N.1.2.2 1)), (wSt cI (z 2) (N.1.2.2 2)), (wSt cI (z 3) (N.1.2.2 3)), (wSt cI (z 4) (N.1.2.2 4)), (wSt cI (z 5) (N.1.2.2 5)), (wSt cI zn N.2)], [(wSt cI zn (N.2, N.1.2.2 0).1), (wSt cI (z 0) (N.2, N.1.2.2 0).2)], [(wSt cI zn Q.1), (wSt cI (z 0) Q.2)], [[(hh, .inr (1, [.ref ha, .int ((N.1.1, N.1.2.1, updN N.1.2.2 0 Q.2), Q.1).1.1]))], [(ha, .inl (cS, 6, .inr (.inr (.inr (.inr (fun i => some (z (((N.1.1, N.1.2.1, updN N.1.2.2 0 Q.2), Q.1).1.2.1 i) 0)))))))], (wSt cI (z 0) (((N.1.1, N.1.2.1, updN N.1.2.2 0 Q.2), Q.1).1.2.2 0)), (wSt cI (z 1) (((N.1.1, N.1.2.1, updN N.1.2.2 0 Q.2), Q.1).1.2.2 1)), (wSt cI (z 2) (((N.1.1, N.1.2.1, updN N.1.2.2 0 Q.2), Q.1).1.2.2 2)), (wSt cI (z 3) (((N.1.1, N.1.2.1, updN N.1.2.2 0 Q.2), Q.1).1.2.2 3)), (wSt cI (z 4) (((N.1.1, N.1.2.1, updN N.1.2.2 0 Q.2), Q.1).1.2.2 4)), (wSt cI (z 5) (((N.1.1, N.1.2.1, updN N.1.2.2 0 Q.2), Q.1).1.2.2 5)), (wSt cI zn ((N.1.1, N.1.2.1, updN N.1.2.2 0 Q.2), Q.1).2)], [8, 2], [0, 1, 3, 4, 5, 6, 7], by simp only [wHQ, wHi, List.flatten_cons, List.flatten_nil, List.append_assoc, List.append_nil, List.nil_append, List.cons_append], by simp only [wQQ, List.flatten_cons, List.flatten_nil, List.append_assoc, List.append_nil, List.nil_append, List.cons_append], by simp only [wQQ, List.flatten_cons, List.flatten_nil, List.append_assoc, List.append_nil, List.nil_append, List.cons_append], by simp only [wHQ, wHi, List.flatten_cons, List.flatten_nil, List.append_assoc, List.append_nil, List.nil_append, List.cons_append], rfl, rfl, rfl, rfl, rfl⟩
theorem sg_HQ_Q1_1 (cI cS : ClassId) (hh ha : Nat) (z : Nat → Nat → Nat) (zn : Nat → Nat) (N : Hg × Sn) (Q : Sn × Sn) : Sg (wHQ cI cS hh ha z zn N) (wQQ cI (z 1) zn (N.1.2.2 1, N.2)) (wQQ cI (z 1) zn Q) (wHQ cI cS hh ha z zn ((N.1.1, N.1.2.1, updN N.1.2.2 1 Q.1), Q.2)) := ⟨[[(hh, .inr (1, [.ref ha, .int N.1.1]))], [(ha, .inl (cS, 6, .inr (.inr (.inr (.inr (fun i => some (z (N.1.2.1 i) 0)))))))], (wSt cI (z 0) (N.1.2.2 0)), (wSt cI (z 1) (N.1.2.2 1)), (wSt cI (z 2) (N.1.2.2 2)), (wSt cI (z 3) (N.1.2.2 3)), (wSt cI (z 4) (N.1.2.2 4)), (wSt cI (z 5) (N.1.2.2 5)), (wSt cI zn N.2)], [(wSt cI (z 1) (N.1.2.2 1, N.2).1), (wSt cI zn (N.1.2.2 1, N.2).2)], [(wSt cI (z 1) Q.1), (wSt cI zn Q.2)], [[(hh, .inr (1, [.ref ha, .int ((N.1.1, N.1.2.1, updN N.1.2.2 1 Q.1), Q.2).1.1]))], [(ha, .inl (cS, 6, .inr (.inr (.inr (.inr (fun i => some (z (((N.1.1, N.1.2.1, updN N.1.2.2 1 Q.1), Q.2).1.2.1 i) 0)))))))], (wSt cI (z 0) (((N.1.1, N.1.2.1, updN N.1.2.2 1 Q.1), Q.2).1.2.2 0)), (wSt cI (z 1) (((N.1.1, N.1.2.1, updN N.1.2.2 1 Q.1), Q.2).1.2.2 1)), (wSt cI (z 2) (((N.1.1, N.1.2.1, updN N.1.2.2 1 Q.1), Q.2).1.2.2 2)), (wSt cI (z 3) (((N.1.1, N.1.2.1, updN N.1.2.2 1 Q.1), Q.2).1.2.2 3)), (wSt cI (z 4) (((N.1.1, N.1.2.1, updN N.1.2.2 1 Q.1), Q.2).1.2.2 4)), (wSt cI (z 5) (((N.1.1, N.1.2.1, updN N.1.2.2 1 Q.1), Q.2).1.2.2 5)), (wSt cI zn ((N.1.1, N.1.2.1, updN N.1.2.2 1 Q.1), Q.2).2)], [3, 8], [0, 1, 2, 4, 5, 6, 7], by simp only [wHQ, wHi, List.flatten_cons, List.flatten_nil, List.append_assoc, List.append_nil, List.nil_append, List.cons_append], by simp only [wQQ, List.flatten_cons, List.flatten_nil, List.append_assoc, List.append_nil, List.nil_append, List.cons_append], by simp only [wQQ, List.flatten_cons, List.flatten_nil, List.append_assoc, List.append_nil, List.nil_append, List.cons_append], by simp only [wHQ, wHi, List.flatten_cons, List.flatten_nil, List.append_assoc, List.append_nil, List.nil_append, List.cons_append], rfl, rfl, rfl, rfl, rfl⟩
theorem sg_HQ_Q2_1 (cI cS : ClassId) (hh ha : Nat) (z : Nat → Nat → Nat) (zn : Nat → Nat) (N : Hg × Sn) (Q : Sn × Sn) : Sg (wHQ cI cS hh ha z zn N) (wQQ cI zn (z 1) (N.2, N.1.2.2 1)) (wQQ cI zn (z 1) Q) (wHQ cI cS hh ha z zn ((N.1.1, N.1.2.1, updN N.1.2.2 1 Q.2), Q.1)) := ⟨[[(hh, .inr (1, [.ref ha, .int N.1.1]))], [(ha, .inl (cS, 6, .inr (.inr (.inr (.inr (fun i => some (z (N.1.2.1 i) 0)))))))], (wSt cI (z 0) (N.1.2.2 0)), (wSt cI (z 1) (N.1.2.2 1)), (wSt cI (z 2) (N.1.2.2 2)), (wSt cI (z 3) (N.1.2.2 3)), (wSt cI (z 4) (N.1.2.2 4)), (wSt cI (z 5) (N.1.2.2 5)), (wSt cI zn N.2)], [(wSt cI zn (N.2, N.1.2.2 1).1), (wSt cI (z 1) (N.2, N.1.2.2 1).2)], [(wSt cI zn Q.1), (wSt cI (z 1) Q.2)], [[(hh, .inr (1, [.ref ha, .int ((N.1.1, N.1.2.1, updN N.1.2.2 1 Q.2), Q.1).1.1]))], [(ha, .inl (cS, 6, .inr (.inr (.inr (.inr (fun i => some (z (((N.1.1, N.1.2.1, updN N.1.2.2 1 Q.2), Q.1).1.2.1 i) 0)))))))], (wSt cI (z 0) (((N.1.1, N.1.2.1, updN N.1.2.2 1 Q.2), Q.1).1.2.2 0)), (wSt cI (z 1) (((N.1.1, N.1.2.1, updN N.1.2.2 1 Q.2), Q.1).1.2.2 1)), (wSt cI (z 2) (((N.1.1, N.1.2.1, updN N.1.2.2 1 Q.2), Q.1).1.2.2 2)), (wSt cI (z 3) (((N.1.1, N.1.2.1, updN N.1.2.2 1 Q.2), Q.1).1.2.2 3)), (wSt cI (z 4) (((N.1.1, N.1.2.1, updN N.1.2.2 1 Q.2), Q.1).1.2.2 4)), (wSt cI (z 5) (((N.1.1, N.1.2.1, updN N.1.2.2 1 Q.2), Q.1).1.2.2 5)), (wSt cI zn ((N.1.1, N.1.2.1, updN N.1.2.2 1 Q.2), Q.1).2)], [8, 3], [0, 1, 2, 4, 5, 6, 7], by simp only [wHQ, wHi, List.flatten_cons, List.flatten_nil, List.append_assoc, List.append_nil, List.nil_append, List.cons_append], by simp only [wQQ, List.flatten_cons, List.flatten_nil, List.append_assoc, List.append_nil, List.nil_append, List.cons_append], by simp only [wQQ, List.flatten_cons, List.flatten_nil, List.append_assoc, List.append_nil, List.nil_append, List.cons_append], by simp only [wHQ, wHi, List.flatten_cons, List.flatten_nil, List.append_assoc, List.append_nil, List.nil_append, List.cons_append], rfl, rfl, rfl, rfl, rfl⟩
theorem sg_HQ_Q1_2 (cI cS : ClassId) (hh ha : Nat) (z : Nat → Nat → Nat) (zn : Nat → Nat) (N : Hg × Sn) (Q : Sn × Sn) : Sg (wHQ cI cS hh ha z zn N) (wQQ cI (z 2) zn (N.1.2.2 2, N.2)) (wQQ cI (z 2) zn Q) (wHQ cI cS hh ha z zn ((N.1.1, N.1.2.1, updN N.1.2.2 2 Q.1), Q.2)) := ⟨[[(hh, .inr (1, [.ref ha, .int N.1.1]))], [(ha, .inl (cS, 6, .inr (.inr (.inr (.inr (fun i => some (z (N.1.2.1 i) 0)))))))], (wSt cI (z 0) (N.1.2.2 0)), (wSt cI (z 1) (N.1.2.2 1)), (wSt cI (z 2) (N.1.2.2 2)), (wSt cI (z 3) (N.1.2.2 3)), (wSt cI (z 4) (N.1.2.2 4)), (wSt cI (z 5) (N.1.2.2 5)), (wSt cI zn N.2)], [(wSt cI (z 2) (N.1.2.2 2, N.2).1), (wSt cI zn (N.1.2.2 2, N.2).2)], [(wSt cI (z 2) Q.1), (wSt cI zn Q.2)], [[(hh, .inr (1, [.ref ha, .int ((N.1.1, N.1.2.1, updN N.1.2.2 2 Q.1), Q.2).1.1]))], [(ha, .inl (cS, 6, .inr (.inr (.inr (.inr (fun i => some (z (((N.1.1, N.1.2.1, updN N.1.2.2 2 Q.1), Q.2).1.2.1 i) 0)))))))], (wSt cI (z 0) (((N.1.1, N.1.2.1, updN N.1.2.2 2 Q.1), Q.2).1.2.2 0)), (wSt cI (z 1) (((N.1.1, N.1.2.1, updN N.1.2.2 2 Q.1), Q.2).1.2.2 1)), (wSt cI (z 2) (((N.1.1, N.1.2.1, updN N.1.2.2 2 Q.1), Q.2).1.2.2 2)), (wSt cI (z 3) (((N.1.1, N.1.2.1, updN N.1.2.2 2 Q.1), Q.2).1.2.2 3)), (wSt cI (z 4) (((N.1.1, N.1.2.1, updN N.1.2.2 2 Q.1), Q.2).1.2.2 4)), (wSt cI (z 5) (((N.1.1, N.1.2.1, updN N.1.2.2 2 Q.1), Q.2).1.2.2 5)), (wSt cI zn ((N.1.1, N.1.2.1, updN N.1.2.2 2 Q.1), Q.2).2)], [4, 8], [0, 1, 2, 3, 5, 6, 7], by simp only [wHQ, wHi, List.flatten_cons, List.flatten_nil, List.append_assoc, List.append_nil, List.nil_append, List.cons_append], by simp only [wQQ, List.flatten_cons, List.flatten_nil, List.append_assoc, List.append_nil, List.nil_append, List.cons_append], by simp only [wQQ, List.flatten_cons, List.flatten_nil, List.append_assoc, List.append_nil, List.nil_append, List.cons_append], by simp only [wHQ, wHi, List.flatten_cons, List.flatten_nil, List.append_assoc, List.append_nil, List.nil_append, List.cons_append], rfl, rfl, rfl, rfl, rfl⟩
theorem sg_HQ_Q2_2 (cI cS : ClassId) (hh ha : Nat) (z : Nat → Nat → Nat) (zn : Nat → Nat) (N : Hg × Sn) (Q : Sn × Sn) : Sg (wHQ cI cS hh ha z zn N) (wQQ cI zn (z 2) (N.2, N.1.2.2 2)) (wQQ cI zn (z 2) Q) (wHQ cI cS hh ha z zn ((N.1.1, N.1.2.1, updN N.1.2.2 2 Q.2), Q.1)) := ⟨[[(hh, .inr (1, [.ref ha, .int N.1.1]))], [(ha, .inl (cS, 6, .inr (.inr (.inr (.inr (fun i => some (z (N.1.2.1 i) 0)))))))], (wSt cI (z 0) (N.1.2.2 0)), (wSt cI (z 1) (N.1.2.2 1)), (wSt cI (z 2) (N.1.2.2 2)), (wSt cI (z 3) (N.1.2.2 3)), (wSt cI (z 4) (N.1.2.2 4)), (wSt cI (z 5) (N.1.2.2 5)), (wSt cI zn N.2)], [(wSt cI zn (N.2, N.1.2.2 2).1), (wSt cI (z 2) (N.2, N.1.2.2 2).2)], [(wSt cI zn Q.1), (wSt cI (z 2) Q.2)], [[(hh, .inr (1, [.ref ha, .int ((N.1.1, N.1.2.1, updN N.1.2.2 2 Q.2), Q.1).1.1]))], [(ha, .inl (cS, 6, .inr (.inr (.inr (.inr (fun i => some (z (((N.1.1, N.1.2.1, updN N.1.2.2 2 Q.2), Q.1).1.2.1 i) 0)))))))], (wSt cI (z 0) (((N.1.1, N.1.2.1, updN N.1.2.2 2 Q.2), Q.1).1.2.2 0)), (wSt cI (z 1) (((N.1.1, N.1.2.1, updN N.1.2.2 2 Q.2), Q.1).1.2.2 1)), (wSt cI (z 2) (((N.1.1, N.1.2.1, updN N.1.2.2 2 Q.2), Q.1).1.2.2 2)), (wSt cI (z 3) (((N.1.1, N.1.2.1, updN N.1.2.2 2 Q.2), Q.1).1.2.2 3)), (wSt cI (z 4) (((N.1.1, N.1.2.1, updN N.1.2.2 2 Q.2), Q.1).1.2.2 4)), (wSt cI (z 5) (((N.1.1, N.1.2.1, updN N.1.2.2 2 Q.2), Q.1).1.2.2 5)), (wSt cI zn ((N.1.1, N.1.2.1, updN N.1.2.2 2 Q.2), Q.1).2)], [8, 4], [0, 1, 2, 3, 5, 6, 7], by simp only [wHQ, wHi, List.flatten_cons, List.flatten_nil, List.append_assoc, List.append_nil, List.nil_append, List.cons_append], by simp only [wQQ, List.flatten_cons, List.flatten_nil, List.append_assoc, List.append_nil, List.nil_append, List.cons_append], by simp only [wQQ, List.flatten_cons, List.flatten_nil, List.append_assoc, List.append_nil, List.nil_append, List.cons_append], by simp only [wHQ, wHi, List.flatten_cons, List.flatten_nil, List.append_assoc, List.append_nil, List.nil_append, List.cons_append], rfl, rfl, rfl, rfl, rfl⟩
theorem sg_HQ_Q1_3 (cI cS : ClassId) (hh ha : Nat) (z : Nat → Nat → Nat) (zn : Nat → Nat) (N : Hg × Sn) (Q : Sn × Sn) : Sg (wHQ cI cS hh ha z zn N) (wQQ cI (z 3) zn (N.1.2.2 3, N.2)) (wQQ cI (z 3) zn Q) (wHQ cI cS hh ha z zn ((N.1.1, N.1.2.1, updN N.1.2.2 3 Q.1), Q.2)) := ⟨[[(hh, .inr (1, [.ref ha, .int N.1.1]))], [(ha, .inl (cS, 6, .inr (.inr (.inr (.inr (fun i => some (z (N.1.2.1 i) 0)))))))], (wSt cI (z 0) (N.1.2.2 0)), (wSt cI (z 1) (N.1.2.2 1)), (wSt cI (z 2) (N.1.2.2 2)), (wSt cI (z 3) (N.1.2.2 3)), (wSt cI (z 4) (N.1.2.2 4)), (wSt cI (z 5) (N.1.2.2 5)), (wSt cI zn N.2)], [(wSt cI (z 3) (N.1.2.2 3, N.2).1), (wSt cI zn (N.1.2.2 3, N.2).2)], [(wSt cI (z 3) Q.1), (wSt cI zn Q.2)], [[(hh, .inr (1, [.ref ha, .int ((N.1.1, N.1.2.1, updN N.1.2.2 3 Q.1), Q.2).1.1]))], [(ha, .inl (cS, 6, .inr (.inr (.inr (.inr (fun i => some (z (((N.1.1, N.1.2.1, updN N.1.2.2 3 Q.1), Q.2).1.2.1 i) 0)))))))], (wSt cI (z 0) (((N.1.1, N.1.2.1, updN N.1.2.2 3 Q.1), Q.2).1.2.2 0)), (wSt cI (z 1) (((N.1.1, N.1.2.1, updN N.1.2.2 3 Q.1), Q.2).1.2.2 1)), (wSt cI (z 2) (((N.1.1, N.1.2.1, updN N.1.2.2 3 Q.1), Q.2).1.2.2 2)), (wSt cI (z 3) (((N.1.1, N.1.2.1, updN N.1.2.2 3 Q.1), Q.2).1.2.2 3)), (wSt cI (z 4) (((N.1.1, N.1.2.1, updN N.1.2.2 3 Q.1), Q.2).1.2.2 4)), (wSt cI (z 5) (((N.1.1, N.1.2.1, updN N.1.2.2 3 Q.1), Q.2).1.2.2 5)), (wSt cI zn ((N.1.1, N.1.2.1, updN N.1.2.2 3 Q.1), Q.2).2)], [5, 8], [0, 1, 2, 3, 4, 6, 7], by simp only [wHQ, wHi, List.flatten_cons, List.flatten_nil, List.append_assoc, List.append_nil, List.nil_append, List.cons_append], by simp only [wQQ, List.flatten_cons, List.flatten_nil, List.append_assoc, List.append_nil, List.nil_append, List.cons_append], by simp only [wQQ, List.flatten_cons, List.flatten_nil, List.append_assoc, List.append_nil, List.nil_append, List.cons_append], by simp only [wHQ, wHi, List.flatten_cons, List.flatten_nil, List.append_assoc, List.append_nil, List.nil_append, List.cons_append], rfl, rfl, rfl, rfl, rfl⟩
theorem sg_HQ_Q2_3 (cI cS : ClassId) (hh ha : Nat) (z : Nat → Nat → Nat) (zn : Nat → Nat) (N : Hg × Sn) (Q : Sn × Sn) : Sg (wHQ cI cS hh ha z zn N) (wQQ cI zn (z 3) (N.2, N.1.2.2 3)) (wQQ cI zn (z 3) Q) (wHQ cI cS hh ha z zn ((N.1.1, N.1.2.1, updN N.1.2.2 3 Q.2), Q.1)) := ⟨[[(hh, .inr (1, [.ref ha, .int N.1.1]))], [(ha, .inl (cS, 6, .inr (.inr (.inr (.inr (fun i => some (z (N.1.2.1 i) 0)))))))], (wSt cI (z 0) (N.1.2.2 0)), (wSt cI (z 1) (N.1.2.2 1)), (wSt cI (z 2) (N.1.2.2 2)), (wSt cI (z 3) (N.1.2.2 3)), (wSt cI (z 4) (N.1.2.2 4)), (wSt cI (z 5) (N.1.2.2 5)), (wSt cI zn N.2)], [(wSt cI zn (N.2, N.1.2.2 3).1), (wSt cI (z 3) (N.2, N.1.2.2 3).2)], [(wSt cI zn Q.1), (wSt cI (z 3) Q.2)], [[(hh, .inr (1, [.ref ha, .int ((N.1.1, N.1.2.1, updN N.1.2.2 3 Q.2), Q.1).1.1]))], [(ha, .inl (cS, 6, .inr (.inr (.inr (.inr (fun i => some (z (((N.1.1, N.1.2.1, updN N.1.2.2 3 Q.2), Q.1).1.2.1 i) 0)))))))], (wSt cI (z 0) (((N.1.1, N.1.2.1, updN N.1.2.2 3 Q.2), Q.1).1.2.2 0)), (wSt cI (z 1) (((N.1.1, N.1.2.1, updN N.1.2.2 3 Q.2), Q.1).1.2.2 1)), (wSt cI (z 2) (((N.1.1, N.1.2.1, updN N.1.2.2 3 Q.2), Q.1).1.2.2 2)), (wSt cI (z 3) (((N.1.1, N.1.2.1, updN N.1.2.2 3 Q.2), Q.1).1.2.2 3)), (wSt cI (z 4) (((N.1.1, N.1.2.1, updN N.1.2.2 3 Q.2), Q.1).1.2.2 4)), (wSt cI (z 5) (((N.1.1, N.1.2.1, updN N.1.2.2 3 Q.2), Q.1).1.2.2 5)), (wSt cI zn ((N.1.1, N.1.2.1, updN N.1.2.2 3 Q.2), Q.1).2)], [8, 5], [0, 1, 2, 3, 4, 6, 7], by simp only [wHQ, wHi, List.flatten_cons, List.flatten_nil, List.append_assoc, List.append_nil, List.nil_append, List.cons_append], by simp only [wQQ, List.flatten_cons, List.flatten_nil, List.append_assoc, List.append_nil, List.nil_append, List.cons_append], by simp only [wQQ, List.flatten_cons, List.flatten_nil, List.append_assoc, List.append_nil, List.nil_append, List.cons_append], by simp only [wHQ, wHi, List.flatten_cons, List.flatten_nil, List.append_assoc, List.append_nil, List.nil_append, List.cons_append], rfl, rfl, rfl, rfl, rfl⟩
theorem sg_HQ_Q1_4 (cI cS : ClassId) (hh ha : Nat) (z : Nat → Nat → Nat) (zn : Nat → Nat) (N : Hg × Sn) (Q : Sn × Sn) : Sg (wHQ cI cS hh ha z zn N) (wQQ cI (z 4) zn (N.1.2.2 4, N.2)) (wQQ cI (z 4) zn Q) (wHQ cI cS hh ha z zn ((N.1.1, N.1.2.1, updN N.1.2.2 4 Q.1), Q.2)) := ⟨[[(hh, .inr (1, [.ref ha, .int N.1.1]))], [(ha, .inl (cS, 6, .inr (.inr (.inr (.inr (fun i => some (z (N.1.2.1 i) 0)))))))], (wSt cI (z 0) (N.1.2.2 0)), (wSt cI (z 1) (N.1.2.2 1)), (wSt cI (z 2) (N.1.2.2 2)), (wSt cI (z 3) (N.1.2.2 3)), (wSt cI (z 4) (N.1.2.2 4)), (wSt cI (z 5) (N.1.2.2 5)), (wSt cI zn N.2)], [(wSt cI (z 4) (N.1.2.2 4, N.2).1), (wSt cI zn (N.1.2.2 4, N.2).2)], [(wSt cI (z 4) Q.1), (wSt cI zn Q.2)], [[(hh, .inr (1, [.ref ha, .int ((N.1.1, N.1.2.1, updN N.1.2.2 4 Q.1), Q.2).1.1]))], [(ha, .inl (cS, 6, .inr (.inr (.inr (.inr (fun i => some (z (((N.1.1, N.1.2.1, updN N.1.2.2 4 Q.1), Q.2).1.2.1 i) 0)))))))], (wSt cI (z 0) (((N.1.1, N.1.2.1, updN N.1.2.2 4 Q.1), Q.2).1.2.2 0)), (wSt cI (z 1) (((N.1.1, N.1.2.1, updN N.1.2.2 4 Q.1), Q.2).1.2.2 1)), (wSt cI (z 2) (((N.1.1, N.1.2.1, updN N.1.2.2 4 Q.1), Q.2).1.2.2 2)), (wSt cI (z 3) (((N.1.1, N.1.2.1, updN N.1.2.2 4 Q.1), Q.2).1.2.2 3)), (wSt cI (z 4) (((N.1.1, N.1.2.1, updN N.1.2.2 4 Q.1), Q.2).1.2.2 4)), (wSt cI (z 5) (((N.1.1, N.1.2.1, updN N.1.2.2 4 Q.1), Q.2).1.2.2 5)), (wSt cI zn ((N.1.1, N.1.2.1, updN N.1.2.2 4 Q.1), Q.2).2)], [6, 8], [0, 1, 2, 3, 4, 5, 7], by simp only [wHQ, wHi, List.flatten_cons, List.flatten_nil, List.append_assoc, List.append_nil, List.nil_append, List.cons_append], by simp only [wQQ, List.flatten_cons, List.flatten_nil, List.append_assoc, List.append_nil, List.nil_append, List.cons_append], by simp only [wQQ, List.flatten_cons, List.flatten_nil, List.append_assoc, List.append_nil, List.nil_append, List.cons_append], by simp only [wHQ, wHi, List.flatten_cons, List.flatten_nil, List.append_assoc, List.append_nil, List.nil_append, List.cons_append], rfl, rfl, rfl, rfl, rfl⟩
theorem sg_HQ_Q2_4 (cI cS : ClassId) (hh ha : Nat) (z : Nat → Nat → Nat) (zn : Nat → Nat) (N : Hg × Sn) (Q : Sn × Sn) : Sg (wHQ cI cS hh ha z zn N) (wQQ cI zn (z 4) (N.2, N.1.2.2 4)) (wQQ cI zn (z 4) Q) (wHQ cI cS hh ha z zn ((N.1.1, N.1.2.1, updN N.1.2.2 4 Q.2), Q.1)) := ⟨[[(hh, .inr (1, [.ref ha, .int N.1.1]))], [(ha, .inl (cS, 6, .inr (.inr (.inr (.inr (fun i => some (z (N.1.2.1 i) 0)))))))], (wSt cI (z 0) (N.1.2.2 0)), (wSt cI (z 1) (N.1.2.2 1)), (wSt cI (z 2) (N.1.2.2 2)), (wSt cI (z 3) (N.1.2.2 3)), (wSt cI (z 4) (N.1.2.2 4)), (wSt cI (z 5) (N.1.2.2 5)), (wSt cI zn N.2)], [(wSt cI zn (N.2, N.1.2.2 4).1), (wSt cI (z 4) (N.2, N.1.2.2 4).2)], [(wSt cI zn Q.1), (wSt cI (z 4) Q.2)], [[(hh, .inr (1, [.ref ha, .int ((N.1.1, N.1.2.1, updN N.1.2.2 4 Q.2), Q.1).1.1]))], [(ha, .inl (cS, 6, .inr (.inr (.inr (.inr (fun i => some (z (((N.1.1, N.1.2.1, updN N.1.2.2 4 Q.2), Q.1).1.2.1 i) 0)))))))], (wSt cI (z 0) (((N.1.1, N.1.2.1, updN N.1.2.2 4 Q.2), Q.1).1.2.2 0)), (wSt cI (z 1) (((N.1.1, N.1.2.1, updN N.1.2.2 4 Q.2), Q.1).1.2.2 1)), (wSt cI (z 2) (((N.1.1, N.1.2.1, updN N.1.2.2 4 Q.2), Q.1).1.2.2 2)), (wSt cI (z 3) (((N.1.1, N.1.2.1, updN N.1.2.2 4 Q.2), Q.1).1.2.2 3)), (wSt cI (z 4) (((N.1.1, N.1.2.1, updN N.1.2.2 4 Q.2), Q.1).1.2.2 4)), (wSt cI (z 5) (((N.1.1, N.1.2.1, updN N.1.2.2 4 Q.2), Q.1).1.2.2 5)), (wSt cI zn ((N.1.1, N.1.2.1, updN N.1.2.2 4 Q.2), Q.1).2)], [8, 6], [0, 1, 2, 3, 4, 5, 7], by simp only [wHQ, wHi, List.flatten_cons, List.flatten_nil, List.append_assoc, List.append_nil, List.nil_append, List.cons_append], by simp only [wQQ, List.flatten_cons, List.flatten_nil, List.append_assoc, List.append_nil, List.nil_append, List.cons_append], by simp only [wQQ, List.flatten_cons, List.flatten_nil, List.append_assoc, List.append_nil, List.nil_append, List.cons_append], by simp only [wHQ, wHi, List.flatten_cons, List.flatten_nil, List.append_assoc, List.append_nil, List.nil_append, List.cons_append], rfl, rfl, rfl, rfl, rfl⟩
theorem sg_HQ_Q1_5 (cI cS : ClassId) (hh ha : Nat) (z : Nat → Nat → Nat) (zn : Nat → Nat) (N : Hg × Sn) (Q : Sn × Sn) : Sg (wHQ cI cS hh ha z zn N) (wQQ cI (z 5) zn (N.1.2.2 5, N.2)) (wQQ cI (z 5) zn Q) (wHQ cI cS hh ha z zn ((N.1.1, N.1.2.1, updN N.1.2.2 5 Q.1), Q.2)) := ⟨[[(hh, .inr (1, [.ref ha, .int N.1.1]))], [(ha, .inl (cS, 6, .inr (.inr (.inr (.inr (fun i => some (z (N.1.2.1 i) 0)))))))], (wSt cI (z 0) (N.1.2.2 0)), (wSt cI (z 1) (N.1.2.2 1)), (wSt cI (z 2) (N.1.2.2 2)), (wSt cI (z 3) (N.1.2.2 3)), (wSt cI (z 4) (N.1.2.2 4)), (wSt cI (z 5) (N.1.2.2 5)), (wSt cI zn N.2)], [(wSt cI (z 5) (N.1.2.2 5, N.2).1), (wSt cI zn (N.1.2.2 5, N.2).2)], [(wSt cI (z 5) Q.1), (wSt cI zn Q.2)], [[(hh, .inr (1, [.ref ha, .int ((N.1.1, N.1.2.1, updN N.1.2.2 5 Q.1), Q.2).1.1]))], [(ha, .inl (cS, 6, .inr (.inr (.inr (.inr (fun i => some (z (((N.1.1, N.1.2.1, updN N.1.2.2 5 Q.1), Q.2).1.2.1 i) 0)))))))], (wSt cI (z 0) (((N.1.1, N.1.2.1, updN N.1.2.2 5 Q.1), Q.2).1.2.2 0)), (wSt cI (z 1) (((N.1.1, N.1.2.1, updN N.1.2.2 5 Q.1), Q.2).1.2.2 1)), (wSt cI (z 2) (((N.1.1, N.1.2.1, updN N.1.2.2 5 Q.1), Q.2).1.2.2 2)), (wSt cI (z 3) (((N.1.1, N.1.2.1, updN N.1.2.2 5 Q.1), Q.2).1.2.2 3)), (wSt cI (z 4) (((N.1.1, N.1.2.1, updN N.1.2.2 5 Q.1), Q.2).1.2.2 4)), (wSt cI (z 5) (((N.1.1, N.1.2.1, updN N.1.2.2 5 Q.1), Q.2).1.2.2 5)), (wSt cI zn ((N.1.1, N.1.2.1, updN N.1.2.2 5 Q.1), Q.2).2)], [7, 8], [0, 1, 2, 3, 4, 5, 6], by simp only [wHQ, wHi, List.flatten_cons, List.flatten_nil, List.append_assoc, List.append_nil, List.nil_append, List.cons_append], by simp only [wQQ, List.flatten_cons, List.flatten_nil, List.append_assoc, List.append_nil, List.nil_append, List.cons_append], by simp only [wQQ, List.flatten_cons, List.flatten_nil, List.append_assoc, List.append_nil, List.nil_append, List.cons_append], by simp only [wHQ, wHi, List.flatten_cons, List.flatten_nil, List.append_assoc, List.append_nil, List.nil_append, List.cons_append], rfl, rfl, rfl, rfl, rfl⟩
theorem sg_HQ_Q2_5 (cI cS : ClassId) (hh ha : Nat) (z : Nat → Nat → Nat) (zn : Nat → Nat) (N : Hg × Sn) (Q : Sn × Sn) : Sg (wHQ cI cS hh ha z zn N) (wQQ cI zn (z 5) (N.2, N.1.2.2 5)) (wQQ cI zn (z 5) Q) (wHQ cI cS hh ha z zn ((N.1.1, N.1.2.1, updN N.1.2.2 5 Q.2), Q.1)) := ⟨[[(hh, .inr (1, [.ref ha, .int N.1.1]))], [(ha, .inl (cS, 6, .inr (.inr (.inr (.inr (fun i => some (z (N.1.2.1 i) 0)))))))], (wSt cI (z 0) (N.1.2.2 0)), (wSt cI (z 1) (N.1.2.2 1)), (wSt cI (z 2) (N.1.2.2 2)), (wSt cI (z 3) (N.1.2.2 3)), (wSt cI (z 4) (N.1.2.2 4)), (wSt cI (z 5) (N.1.2.2 5)), (wSt cI zn N.2)], [(wSt cI zn (N.2, N.1.2.2 5).1), (wSt cI (z 5) (N.2, N.1.2.2 5).2)], [(wSt cI zn Q.1), (wSt cI (z 5) Q.2)], [[(hh, .inr (1, [.ref ha, .int ((N.1.1, N.1.2.1, updN N.1.2.2 5 Q.2), Q.1).1.1]))], [(ha, .inl (cS, 6, .inr (.inr (.inr (.inr (fun i => some (z (((N.1.1, N.1.2.1, updN N.1.2.2 5 Q.2), Q.1).1.2.1 i) 0)))))))], (wSt cI (z 0) (((N.1.1, N.1.2.1, updN N.1.2.2 5 Q.2), Q.1).1.2.2 0)), (wSt cI (z 1) (((N.1.1, N.1.2.1, updN N.1.2.2 5 Q.2), Q.1).1.2.2 1)), (wSt cI (z 2) (((N.1.1, N.1.2.1, updN N.1.2.2 5 Q.2), Q.1).1.2.2 2)), (wSt cI (z 3) (((N.1.1, N.1.2.1, updN N.1.2.2 5 Q.2), Q.1).1.2.2 3)), (wSt cI (z 4) (((N.1.1, N.1.2.1, updN N.1.2.2 5 Q.2), Q.1).1.2.2 4)), (wSt cI (z 5) (((N.1.1, N.1.2.1, updN N.1.2.2 5 Q.2), Q.1).1.2.2 5)), (wSt cI zn ((N.1.1, N.1.2.1, updN N.1.2.2 5 Q.2), Q.1).2)], [8, 7], [0, 1, 2, 3, 4, 5, 6], by simp only [wHQ, wHi, List.flatten_cons, List.flatten_nil, List.append_assoc, List.append_nil, List.nil_append, List.cons_append], by simp only [wQQ, List.flatten_cons, List.flatten_nil, List.append_assoc, List.append_nil, List.nil_append, List.cons_append], by simp only [wQQ, List.flatten_cons, List.flatten_nil, List.append_assoc, List.append_nil, List.nil_append, List.cons_append], by simp only [wHQ, wHi, List.flatten_cons, List.flatten_nil, List.append_assoc, List.append_nil, List.nil_append, List.cons_append], rfl, rfl, rfl, rfl, rfl⟩
theorem sg_HQ_Q1 (cI cS : ClassId) (hh ha : Nat) (z : Nat → Nat → Nat) (zn : Nat → Nat) (N : Hg × Sn) (Q : Sn × Sn) {j : Nat} (hj : j < 6) : Sg (wHQ cI cS hh ha z zn N) (wQQ cI (z j) zn (N.1.2.2 j, N.2)) (wQQ cI (z j) zn Q) (wHQ cI cS hh ha z zn ((N.1.1, N.1.2.1, updN N.1.2.2 j Q.1), Q.2)) := by
  rcases (show j = 0 ∨ j = 1 ∨ j = 2 ∨ j = 3 ∨ j = 4 ∨ j = 5 by omega) with rfl | rfl | rfl | rfl | rfl | rfl
  · exact sg_HQ_Q1_0 cI cS hh ha z zn N Q
  · exact sg_HQ_Q1_1 cI cS hh ha z zn N Q
  · exact sg_HQ_Q1_2 cI cS hh ha z zn N Q
  · exact sg_HQ_Q1_3 cI cS hh ha z zn N Q
  · exact sg_HQ_Q1_4 cI cS hh ha z zn N Q
  · exact sg_HQ_Q1_5 cI cS hh ha z zn N Q
theorem sg_HQ_Q2 (cI cS : ClassId) (hh ha : Nat) (z : Nat → Nat → Nat) (zn : Nat → Nat) (N : Hg × Sn) (Q : Sn × Sn) {j : Nat} (hj : j < 6) : Sg (wHQ cI cS hh ha z zn N) (wQQ cI zn (z j) (N.2, N.1.2.2 j)) (wQQ cI zn (z j) Q) (wHQ cI cS hh ha z zn ((N.1.1, N.1.2.1, updN N.1.2.2 j Q.2), Q.1)) := by
  rcases (show j = 0 ∨ j = 1 ∨ j = 2 ∨ j = 3 ∨ j = 4 ∨ j = 5 by omega) with rfl | rfl | rfl | rfl | rfl | rfl
  · exact sg_HQ_Q2_0 cI cS hh ha z zn N Q
  · exact sg_HQ_Q2_1 cI cS hh ha z zn N Q
  · exact sg_HQ_Q2_2 cI cS hh ha z zn N Q
  · exact sg_HQ_Q2_3 cI cS hh ha z zn N Q
  · exact sg_HQ_Q2_4 cI cS hh ha z zn N Q
  · exact sg_HQ_Q2_5 cI cS hh ha z zn N Q
def fX1_stateAt (M : Hg) (x : Int32) : Option Nat := if x < 0 then none else if 6 ≤ x then none else some (M.2.1 x.toNatClampNeg)
abbrev vX1_stateAt : List Cond := Cond.code yX1_stateAt cX1_stateAt 2 (Option.some (Jvm.ClassFile.FieldType.object "TeamRooms$State")) :: BIG
theorem gX1_stateAt {own : String} {idx : Nat} (h : (Cond.methodLink own idx yX1_stateAt) ∈ BIG) : GoodIn BIG (wsV own idx RX1 yX1_stateAt vX1_stateAt) := gdV h bw2_51 bs0 bw1_9 bw2_52
theorem hdX1_stateAt : yX1_stateAt.cls = RX1 ∧ yX1_stateAt.cls ≠ "java/lang/invoke/MethodHandle" ∧ yX1_stateAt.cls ≠ "java/lang/invoke/VarHandle" ∧ (parseMethodDescriptor yX1_stateAt.desc).map (fun d => d.parameters.length) = some 1 := by decide +kernel
def rmX1_stateAt : Room := { frames := 0, cells := 0, slots := 0, locals := 0 }
set_option maxHeartbeats 4000000 in
set_option maxRecDepth 100000 in
theorem kX1_stateAt (l : Launch) (D : va_G) (cS : ClassId) (g : Nat → Nat) (cI : ClassId) (hh ha : Nat) (z : Nat → Nat → Nat) (M : Hg) (x : Int32) (o : Option Nat) (ho : (fX1_stateAt M x).map (fun j => z j 0) = o) : mR l yX1_stateAt vX1_stateAt rmX1_stateAt D cI cS g [.ref hh, .int x] (wHi cI cS hh ha z M) o (wHi cI cS hh ha z M) := by
  refine st_R rfl (by decide) (Nat.le_of_ble_eq_true rfl) ?_
  intro p e s m args below meth c A ls hx hb hr hml hlocks hown hts hA hK hD0 hG hP hS hl
  have hown : s.vm.findClass RX1 = some m.cls := hown
  have htb : ∀ w ∈ BIG, w.before args s = true := fun w h => hts w (List.mem_cons_of_mem _ h)
  have hDa : ∀ N, va_D A (wHi cI cS hh ha z N) := fun N => hD0.adr (adr_Hi cI cS hh ha z _ _)
  have hl : lv_has ls 2 [(0, .ref hh), (1, .int x)] := hl
  have hnul : (fX1_stateAt M x) = none → ∀ (H : Heap) (locs : List Loc), va_P D vwCl (wHi cI cS hh ha z M) H → va_S A s.heap H locs → W p l e rmX1_stateAt s m args below meth c H locs 0 0 (MQ below (qR D o (wHi cI cS hh ha z M) A) args s 0 0 A) (F0 m 22 ls []) := by
    intro h0 H locs hP hS
    rw [h0] at ho
    refine lv_null hx hb dX1_stateAt_22 ?_
    exact rt_R (o := none) hx hb hr (Or.inl ⟨_, rfl⟩) hlocks hS hP ho dX1_stateAt_23
  refine lv_iload_n hx hb dX1_stateAt_0 rfl (lv_at hl 1 rfl) ?_
  refine lv_if_lt (tgt := 22) hx hb dX1_stateAt_1 (by decide) (fun c1 => ?_) (fun c1 => ?_)
  · exact hnul (if_pos c1) _ _ hP hS
  · refine lv_iload_n hx hb dX1_stateAt_4 rfl (lv_at hl 1 rfl) ?_
    refine lv_aload_n hx hb dX1_stateAt_5 rfl (lv_at hl 0 rfl) ?_
    refine va_get (ci := 1) (v := .ref ha) (C := RX1) (T := TX1) (N := 2) hx hb htb kin1 hown hK hP 0 (pHi_0 cI cS hh ha z _) rfl 0 (by decide) (htb _ bw1_176) (fun _ h9 => h9) rfl dX1_stateAt_6 ?_
    refine va_alen (v := 6) hx hb hK hP 1 1 (pHi_1 cI cS hh ha z M) rfl rfl dX1_stateAt_9 ?_
    refine lv_icmp_ge (tgt := 22) hx hb dX1_stateAt_10 (by decide) (fun c2 => ?_) (fun c2 => ?_)
    · exact hnul (by unfold fX1_stateAt; rw [if_neg c1, if_pos c2]) _ _ hP hS
    · have he : fX1_stateAt M x = some (M.2.1 x.toNatClampNeg) := by unfold fX1_stateAt; rw [if_neg c1, if_neg c2]
      have hin : vp_in x 6 := by
        rw [vp_in_iff]
        have a1 : ¬ x.toInt < (0 : Int32).toInt := fun h => c1 (Int32.lt_iff_toInt_lt.mpr h)
        have a2 : ¬ (6 : Int32).toInt ≤ x.toInt := fun h => c2 (Int32.le_iff_toInt_le.mpr h)
        have a3 : (0 : Int32).toInt = 0 := by decide
        have a4 : (6 : Int32).toInt = 6 := by decide
        omega
      refine lv_aload_n hx hb dX1_stateAt_13 rfl (lv_at hl 0 rfl) ?_
      refine va_get (ci := 1) (v := .ref ha) (C := RX1) (T := TX1) (N := 2) hx hb htb kin1 hown hK hP 0 (pHi_0 cI cS hh ha z _) rfl 0 (by decide) (htb _ bw1_176) (fun _ h9 => h9) rfl dX1_stateAt_14 ?_
      refine lv_iload_n hx hb dX1_stateAt_17 rfl (lv_at hl 1 rfl) ?_
      refine va_aldq hx hb hK hP 1 1 (pHi_1 cI cS hh ha z M) rfl hin dX1_stateAt_18 ?_
      refine lv_goto (tgt := 23) hx hb dX1_stateAt_19 (by decide) ?_
      exact rt_R (o := some (z (M.2.1 x.toNatClampNeg) 0)) hx hb hr (Or.inl ⟨_, rfl⟩) hlocks hS hP (by rw [← ho, he]; rfl) dX1_stateAt_23
def fX1_size (M : Hg) : Option Int32 := some M.1
abbrev vX1_size : List Cond := Cond.code yX1_size cX1_size 1 (some .int) :: BIG
theorem gX1_size {own : String} {idx : Nat} (h : (Cond.methodLink own idx yX1_size) ∈ BIG) : GoodIn BIG (wsV own idx RX1 yX1_size vX1_size) := gdV h bw2_13 bw2_14 bw1_9 bw2_15
theorem hdX1_size : yX1_size.cls = RX1 ∧ yX1_size.cls ≠ "java/lang/invoke/MethodHandle" ∧ yX1_size.cls ≠ "java/lang/invoke/VarHandle" ∧ (parseMethodDescriptor yX1_size.desc).map (fun d => d.parameters.length) = some 0 := by decide +kernel
def rmX1_size : Room := { frames := 0, cells := 0, slots := 0, locals := 0 }
set_option maxHeartbeats 4000000 in
set_option maxRecDepth 100000 in
theorem kX1_size (l : Launch) (D : va_G) (cS : ClassId) (g : Nat → Nat) (cI : ClassId) (hh ha : Nat) (z : Nat → Nat → Nat) (M : Hg) (r : Int32) (hF : fX1_size M = some r) : mI l yX1_size vX1_size rmX1_size D cI cS g [.ref hh] (wHi cI cS hh ha z M) r (wHi cI cS hh ha z M) := by
  refine st_I rfl (by decide) (Nat.le_of_ble_eq_true rfl) ?_
  intro p e s m args below meth c A ls hx hb hr hml hlocks hown hts hA hK hD0 hG hP hS hl
  have hown : s.vm.findClass RX1 = some m.cls := hown
  have htb : ∀ w ∈ BIG, w.before args s = true := fun w h => hts w (List.mem_cons_of_mem _ h)
  have hDa : ∀ N, va_D A (wHi cI cS hh ha z N) := fun N => hD0.adr (adr_Hi cI cS hh ha z _ _)
  have hl : lv_has ls 1 [(0, .ref hh)] := hl
  refine lv_aload_n hx hb dX1_size_0 rfl (lv_at hl 0 rfl) ?_
  refine va_get (ci := 1) (v := .int M.1) (C := RX1) (T := TX1) (N := 2) hx hb htb kin1 hown hK hP 0 (pHi_0 cI cS hh ha z _) rfl 1 (by decide) (htb _ bw1_177) (fun _ h9 => h9) rfl dX1_size_1 ?_
  exact rt_I hx hb hr hlocks hS hP (so_use hF) dX1_size_4
noncomputable def fX1_prepare (N : Hg × Sn) : Option (Hg × Sn) := match fX1_stateAt N.1 N.1.1 with
  | none => some N
  | some j => if j < 6 then (fX5_copyFrom (N.1.2.2 j, N.2)).bind fun Q => some ((N.1.1, N.1.2.1, updN N.1.2.2 j Q.1), Q.2) else none
abbrev vX1_prepare : List Cond := Cond.code yX1_prepare cX1_prepare 3 none :: BIG
theorem gX1_prepare {own : String} {idx : Nat} (h : (Cond.methodLink own idx yX1_prepare) ∈ BIG) : GoodIn BIG (wsV own idx RX1 yX1_prepare vX1_prepare) := gdV h bw2_46 bw2_47 bw1_9 bw2_48
theorem hdX1_prepare : yX1_prepare.cls = RX1 ∧ yX1_prepare.cls ≠ "java/lang/invoke/MethodHandle" ∧ yX1_prepare.cls ≠ "java/lang/invoke/VarHandle" ∧ (parseMethodDescriptor yX1_prepare.desc).map (fun d => d.parameters.length) = some 1 := by decide +kernel
def rmX1_prepare : Room := { frames := 6, cells := 0, slots := 0, locals := 125 }
set_option maxHeartbeats 4000000 in
set_option maxRecDepth 100000 in
theorem kX1_prepare (l : Launch) (D : va_G) (cS : ClassId) (g : Nat → Nat) (cI : ClassId) (hh ha : Nat) (z : Nat → Nat → Nat) (zn : Nat → Nat) (N N' : Hg × Sn) (hF : fX1_prepare N = some N') : mV l yX1_prepare vX1_prepare rmX1_prepare D cI cS g [.ref hh, .ref (zn 0)] (wHQ cI cS hh ha z zn N) (wHQ cI cS hh ha z zn N') := by
  refine st_V rfl (by decide) (Nat.le_of_ble_eq_true rfl) ?_
  intro p e s m args below meth c A ls hx hb hr hml hlocks hown hts hA hK hD0 hG hP hS hl
  have hown : s.vm.findClass RX1 = some m.cls := hown
  have htb : ∀ w ∈ BIG, w.before args s = true := fun w h => hts w (List.mem_cons_of_mem _ h)
  have hDa : ∀ N, va_D A (wHQ cI cS hh ha z zn N) := fun N => hD0.adr (adr_HQ cI cS hh ha z zn _ _)
  have hl : lv_has ls 3 [(0, .ref hh), (1, .ref (zn 0))] := hl
  refine lv_aload_n hx hb dX1_prepare_0 rfl (lv_at hl 0 rfl) ?_
  refine lv_aload_n hx hb dX1_prepare_1 rfl (lv_at hl 0 rfl) ?_
  refine va_get (ci := 1) (v := .int N.1.1) (C := RX1) (T := TX1) (N := 2) hx hb htb kin1 hown hK hP 0 (pHQ_0 cI cS hh ha z zn _) rfl 1 (by decide) (htb _ bw1_177) (fun _ h9 => h9) rfl dX1_prepare_2 ?_
  unfold fX1_prepare at hF
  cases hst : fX1_stateAt N.1 N.1.1 with
  | none =>
    rw [hst] at hF
    refine cl_VR (o := none) ⟨hx, hb, hml, hown, htb⟩ (kX1_stateAt l D cS g cI hh ha z N.1 N.1.1 none (by rw [hst]; rfl)) (cwV 1 htb (gX1_stateAt bw2_49) rfl rfl rfl hdX1_stateAt ⟨Nat.le_of_ble_eq_true rfl, Nat.le_of_ble_eq_true rfl⟩) hK (hDa _) hG hA hP hS (sr_HQ_Hi cI cS hh ha z zn N) hl.1 rfl 0 (pHi_0 cI cS hh ha z N.1) rfl rfl (Nat.le_of_ble_eq_true rfl) dX1_prepare_5 (fun H locs hP hS => ?_)
    refine lv_astore_nN (lv' := [(2, .null), (0, .ref hh), (1, .ref (zn 0))]) hx hb dX1_prepare_8 rfl hl (by decide) rfl (fun ls hl => ?_)
    refine lv_aload_nN hx hb dX1_prepare_9 rfl (lv_at hl 0 rfl) ?_
    refine lv_ifnullN (tgt := 18) hx hb dX1_prepare_10 (by decide) ?_
    exact rt_V hx hb hr hlocks hS (by rw [← so_use hF]; exact hP) dX1_prepare_18
  | some j =>
    rw [hst] at hF
    by_cases hj : j < 6
    · replace hF := (if_pos hj).symm.trans hF
      obtain ⟨Q, hQ, hF⟩ := bd_use hF
      refine cl_VR (o := some (z j 0)) ⟨hx, hb, hml, hown, htb⟩ (kX1_stateAt l D cS g cI hh ha z N.1 N.1.1 (some (z j 0)) (by rw [hst]; rfl)) (cwV 1 htb (gX1_stateAt bw2_49) rfl rfl rfl hdX1_stateAt ⟨Nat.le_of_ble_eq_true rfl, Nat.le_of_ble_eq_true rfl⟩) hK (hDa _) hG hA hP hS (sr_HQ_Hi cI cS hh ha z zn N) hl.1 rfl 0 (pHi_0 cI cS hh ha z N.1) rfl rfl (Nat.le_of_ble_eq_true rfl) dX1_prepare_5 (fun H locs hP hS => ?_)
      refine lv_astore_n (lv' := [(2, .ref (z j 0)), (0, .ref hh), (1, .ref (zn 0))]) hx hb dX1_prepare_8 rfl hl (by decide) rfl (fun ls hl => ?_)
      refine lv_aload_n hx hb dX1_prepare_9 rfl (lv_at hl 0 rfl) ?_
      refine lv_ifnull hx hb dX1_prepare_10 ?_
      refine lv_aload_n hx hb dX1_prepare_13 rfl (lv_at hl 0 rfl) ?_
      refine lv_aload_n hx hb dX1_prepare_14 rfl (lv_at hl 2 rfl) ?_
      refine cl_VV ⟨hx, hb, hml, hown, htb⟩ (kX5_copyFrom l D cS g cI (z j) zn _ _ hQ) (cwV 1 htb (gX5_copyFrom bw2_53) rfl rfl rfl hdX5_copyFrom ⟨Nat.le_of_ble_eq_true rfl, Nat.le_of_ble_eq_true rfl⟩) hK (hDa _) hG hA hP hS (sg_HQ_Q1 cI cS hh ha z zn N Q hj) hl.1 rfl 0 (pQQ_0 _ _ _ _) rfl rfl (Nat.le_of_ble_eq_true rfl) dX1_prepare_15 (fun H locs hP hS => ?_)
      exact rt_V hx hb hr hlocks hS (by rw [← so_use hF]; exact hP) dX1_prepare_18
    · replace hF := (if_neg hj).symm.trans hF
      exact nn_use hF
def rotN (f : Nat → Nat) : Nat → Nat := updN (updN (updN (updN (updN (updN f 0 (f 1)) 1 (f 2)) 2 (f 3)) 3 (f 4)) 4 (f 5)) 5 (f 0)
theorem up_updN {z : Nat → Nat → Nat} {f : Nat → Nat} {k v : Nat} : va_up (fun i => some (z (f i) 0)) k (some (z v 0)) = fun i => some (z (updN f k v i) 0) := by
  funext q
  simp only [va_up, updN]
  split <;> rfl
noncomputable def fX1_record (M : Hg) : Option Hg := if 5 ≤ M.1 then (if (M.2.1 0 < 6 ∧ M.2.1 1 < 6 ∧ M.2.1 2 < 6 ∧ M.2.1 3 < 6 ∧ M.2.1 4 < 6 ∧ M.2.1 5 < 6) then some (M.1, rotN M.2.1, M.2.2) else none) else some (M.1 + 1, M.2)
theorem hi_put (cI cS : ClassId) (hh ha : Nat) (z : Nat → Nat → Nat) (M : Hg) (k v : Nat) : (wHi cI cS hh ha z M).set 1 (ha, .inl (cS, 6, .inr (.inr (.inr (.inr (va_up (fun i => some (z (M.2.1 i) 0)) k (some (z v 0)))))))) = wHi cI cS hh ha z (M.1, updN M.2.1 k v, M.2.2) := by
  rw [up_updN]
  rfl
abbrev vX1_record : List Cond := Cond.code yX1_record cX1_record 3 none :: BIG
theorem gX1_record {own : String} {idx : Nat} (h : (Cond.methodLink own idx yX1_record) ∈ BIG) : GoodIn BIG (wsV own idx RX1 yX1_record vX1_record) := gdV h bw2_90 bs1 bw1_9 bw2_91
theorem hdX1_record : yX1_record.cls = RX1 ∧ yX1_record.cls ≠ "java/lang/invoke/MethodHandle" ∧ yX1_record.cls ≠ "java/lang/invoke/VarHandle" ∧ (parseMethodDescriptor yX1_record.desc).map (fun d => d.parameters.length) = some 0 := by decide +kernel
def rmX1_record : Room := { frames := 1, cells := 0, slots := 0, locals := 21 }
set_option maxHeartbeats 4000000 in
set_option maxRecDepth 100000 in
theorem kX1_record (l : Launch) (D : va_G) (cS : ClassId) (g : Nat → Nat) (cI : ClassId) (hh ha : Nat) (z : Nat → Nat → Nat) (M M' : Hg) (hF : fX1_record M = some M') : mV l yX1_record vX1_record rmX1_record D cI cS g [.ref hh] (wHi cI cS hh ha z M) (wHi cI cS hh ha z M') := by
  refine st_V rfl (by decide) (Nat.le_of_ble_eq_true rfl) ?_
  intro p e s m args below meth c A ls hx hb hr hml hlocks hown hts hA hK hD0 hG hP hS hl
  have hown : s.vm.findClass RX1 = some m.cls := hown
  have htb : ∀ w ∈ BIG, w.before args s = true := fun w h => hts w (List.mem_cons_of_mem _ h)
  have hDa : ∀ N, va_D A (wHi cI cS hh ha z N) := fun N => hD0.adr (adr_Hi cI cS hh ha z _ _)
  have hl : lv_has ls 3 [(0, .ref hh)] := hl
  refine lv_aload_n hx hb dX1_record_0 rfl (lv_at hl 0 rfl) ?_
  refine va_get (ci := 1) (v := .int M.1) (C := RX1) (T := TX1) (N := 2) hx hb htb kin1 hown hK hP 0 (pHi_0 cI cS hh ha z _) rfl 1 (by decide) (htb _ bw1_177) (fun _ h9 => h9) rfl dX1_record_1 ?_
  refine lv_iconst (v := 5) hx hb dX1_record_4 (by decide) ?_
  refine lv_icmp_ge (tgt := 19) hx hb dX1_record_5 (by decide) (fun c1 => ?_) (fun c1 => ?_)
  · replace hF := (if_pos c1).symm.trans hF
    by_cases h6 : M.2.1 0 < 6 ∧ M.2.1 1 < 6 ∧ M.2.1 2 < 6 ∧ M.2.1 3 < 6 ∧ M.2.1 4 < 6 ∧ M.2.1 5 < 6
    · replace hF := (if_pos h6).symm.trans hF
      obtain ⟨g0, g1, g2, g3, g4, g5⟩ := h6
      refine lv_aload_n hx hb dX1_record_19 rfl (lv_at hl 0 rfl) ?_
      refine lv_iconst (v := 0) hx hb dX1_record_20 (by decide) ?_
      refine cl_VR (o := some (z (M.2.1 0) 0)) ⟨hx, hb, hml, hown, htb⟩ (kX1_stateAt l D cS g cI hh ha z M 0 (some (z (M.2.1 0) 0)) rfl) (cwV 1 htb (gX1_stateAt bw2_49) rfl rfl rfl hdX1_stateAt ⟨Nat.le_of_ble_eq_true rfl, Nat.le_of_ble_eq_true rfl⟩) hK (hDa _) hG hA hP hS sg_all hl.1 rfl 0 (pHi_0 cI cS hh ha z M) rfl rfl (Nat.le_of_ble_eq_true rfl) dX1_record_21 (fun H locs hP hS => ?_)
      refine lv_astore_n (lv' := [(1, .ref (z (M.2.1 0) 0)), (0, .ref hh)]) hx hb dX1_record_24 rfl hl (by decide) rfl (fun ls hl => ?_)
      refine lv_iconst (v := 1) hx hb dX1_record_25 (by decide) ?_
      refine lv_istore_n (lv' := [(2, .int 1), (1, .ref (z (M.2.1 0) 0)), (0, .ref hh)]) hx hb dX1_record_26 rfl hl (by decide) rfl (fun ls hl => ?_)
      refine lv_iload_n hx hb dX1_record_27 rfl (lv_at hl 0 rfl) ?_
      refine lv_aload_n hx hb dX1_record_28 rfl (lv_at hl 2 rfl) ?_
      refine va_get (ci := 1) (v := .ref ha) (C := RX1) (T := TX1) (N := 2) hx hb htb kin1 hown hK hP 0 (pHi_0 cI cS hh ha z M) rfl 0 (by decide) (htb _ bw1_176) (fun _ h9 => h9) rfl dX1_record_29 ?_
      refine va_alen (v := 6) hx hb hK hP 1 1 (pHi_1 cI cS hh ha z M) rfl rfl dX1_record_32 ?_
      refine lv_icmp_ge (tgt := 56) hx hb dX1_record_33 (by decide) (fun c => absurd c (by decide)) (fun _ => ?_)
      refine lv_aload_n hx hb dX1_record_36 rfl (lv_at hl 2 rfl) ?_
      refine va_get (ci := 1) (v := .ref ha) (C := RX1) (T := TX1) (N := 2) hx hb htb kin1 hown hK hP 0 (pHi_0 cI cS hh ha z M) rfl 0 (by decide) (htb _ bw1_176) (fun _ h9 => h9) rfl dX1_record_37 ?_
      refine lv_iload_n hx hb dX1_record_40 rfl (lv_at hl 0 rfl) ?_
      refine lv_iconst (v := 1) hx hb dX1_record_41 (by decide) ?_
      refine lv_isub hx hb dX1_record_42 ?_
      refine lv_aload_n hx hb dX1_record_43 rfl (lv_at hl 2 rfl) ?_
      refine va_get (ci := 1) (v := .ref ha) (C := RX1) (T := TX1) (N := 2) hx hb htb kin1 hown hK hP 0 (pHi_0 cI cS hh ha z M) rfl 0 (by decide) (htb _ bw1_176) (fun _ h9 => h9) rfl dX1_record_44 ?_
      refine lv_iload_n hx hb dX1_record_47 rfl (lv_at hl 0 rfl) ?_
      refine va_aldq hx hb hK hP 1 1 (pHi_1 cI cS hh ha z M) rfl (by unfold vp_in; decide) dX1_record_48 ?_
      obtain ⟨qk, vs, hqk⟩ := pHi_st cI cS hh ha z M g1
      refine va_astq (r := (RX5, TX5, 3)) hx hb hK hP (hDa _) hS 1 1 qk 5 (pHi_1 cI cS hh ha z M) rfl hqk rfl (by unfold vp_in; decide) dX1_record_49 (fun H locs hP _ hS => ?_)
      have hP : va_P D vwCl (wHi cI cS hh ha z (M.1, (updN M.2.1 0 (M.2.1 1)), M.2.2)) H := by rw [← hi_put cI cS hh ha z M 0 (M.2.1 1)]; exact hP
      refine lv_iinc (v := 2) (lv' := [(2, .int 2), (1, .ref (z (M.2.1 0) 0)), (0, .ref hh)]) hx hb dX1_record_50 hl (k := 0) rfl (by decide) (by decide) rfl (fun ls hl => ?_)
      refine lv_goto (tgt := 27) hx hb dX1_record_53 (by decide) ?_
      refine lv_iload_n hx hb dX1_record_27 rfl (lv_at hl 0 rfl) ?_
      refine lv_aload_n hx hb dX1_record_28 rfl (lv_at hl 2 rfl) ?_
      refine va_get (ci := 1) (v := .ref ha) (C := RX1) (T := TX1) (N := 2) hx hb htb kin1 hown hK hP 0 (pHi_0 cI cS hh ha z (M.1, (updN M.2.1 0 (M.2.1 1)), M.2.2)) rfl 0 (by decide) (htb _ bw1_176) (fun _ h9 => h9) rfl dX1_record_29 ?_
      refine va_alen (v := 6) hx hb hK hP 1 1 (pHi_1 cI cS hh ha z (M.1, (updN M.2.1 0 (M.2.1 1)), M.2.2)) rfl rfl dX1_record_32 ?_
      refine lv_icmp_ge (tgt := 56) hx hb dX1_record_33 (by decide) (fun c => absurd c (by decide)) (fun _ => ?_)
      refine lv_aload_n hx hb dX1_record_36 rfl (lv_at hl 2 rfl) ?_
      refine va_get (ci := 1) (v := .ref ha) (C := RX1) (T := TX1) (N := 2) hx hb htb kin1 hown hK hP 0 (pHi_0 cI cS hh ha z (M.1, (updN M.2.1 0 (M.2.1 1)), M.2.2)) rfl 0 (by decide) (htb _ bw1_176) (fun _ h9 => h9) rfl dX1_record_37 ?_
      refine lv_iload_n hx hb dX1_record_40 rfl (lv_at hl 0 rfl) ?_
      refine lv_iconst (v := 1) hx hb dX1_record_41 (by decide) ?_
      refine lv_isub hx hb dX1_record_42 ?_
      refine lv_aload_n hx hb dX1_record_43 rfl (lv_at hl 2 rfl) ?_
      refine va_get (ci := 1) (v := .ref ha) (C := RX1) (T := TX1) (N := 2) hx hb htb kin1 hown hK hP 0 (pHi_0 cI cS hh ha z (M.1, (updN M.2.1 0 (M.2.1 1)), M.2.2)) rfl 0 (by decide) (htb _ bw1_176) (fun _ h9 => h9) rfl dX1_record_44 ?_
      refine lv_iload_n hx hb dX1_record_47 rfl (lv_at hl 0 rfl) ?_
      refine va_aldq hx hb hK hP 1 1 (pHi_1 cI cS hh ha z (M.1, (updN M.2.1 0 (M.2.1 1)), M.2.2)) rfl (by unfold vp_in; decide) dX1_record_48 ?_
      obtain ⟨qk, vs, hqk⟩ := pHi_st cI cS hh ha z (M.1, (updN M.2.1 0 (M.2.1 1)), M.2.2) g2
      refine va_astq (r := (RX5, TX5, 3)) hx hb hK hP (hDa _) hS 1 1 qk 5 (pHi_1 cI cS hh ha z (M.1, (updN M.2.1 0 (M.2.1 1)), M.2.2)) rfl hqk rfl (by unfold vp_in; decide) dX1_record_49 (fun H locs hP _ hS => ?_)
      have hP : va_P D vwCl (wHi cI cS hh ha z (M.1, (updN (updN M.2.1 0 (M.2.1 1)) 1 (M.2.1 2)), M.2.2)) H := by rw [← hi_put cI cS hh ha z (M.1, (updN M.2.1 0 (M.2.1 1)), M.2.2) 1 (M.2.1 2)]; exact hP
      refine lv_iinc (v := 3) (lv' := [(2, .int 3), (1, .ref (z (M.2.1 0) 0)), (0, .ref hh)]) hx hb dX1_record_50 hl (k := 0) rfl (by decide) (by decide) rfl (fun ls hl => ?_)
      refine lv_goto (tgt := 27) hx hb dX1_record_53 (by decide) ?_
      refine lv_iload_n hx hb dX1_record_27 rfl (lv_at hl 0 rfl) ?_
      refine lv_aload_n hx hb dX1_record_28 rfl (lv_at hl 2 rfl) ?_
      refine va_get (ci := 1) (v := .ref ha) (C := RX1) (T := TX1) (N := 2) hx hb htb kin1 hown hK hP 0 (pHi_0 cI cS hh ha z (M.1, (updN (updN M.2.1 0 (M.2.1 1)) 1 (M.2.1 2)), M.2.2)) rfl 0 (by decide) (htb _ bw1_176) (fun _ h9 => h9) rfl dX1_record_29 ?_
      refine va_alen (v := 6) hx hb hK hP 1 1 (pHi_1 cI cS hh ha z (M.1, (updN (updN M.2.1 0 (M.2.1 1)) 1 (M.2.1 2)), M.2.2)) rfl rfl dX1_record_32 ?_
      refine lv_icmp_ge (tgt := 56) hx hb dX1_record_33 (by decide) (fun c => absurd c (by decide)) (fun _ => ?_)
      refine lv_aload_n hx hb dX1_record_36 rfl (lv_at hl 2 rfl) ?_
      refine va_get (ci := 1) (v := .ref ha) (C := RX1) (T := TX1) (N := 2) hx hb htb kin1 hown hK hP 0 (pHi_0 cI cS hh ha z (M.1, (updN (updN M.2.1 0 (M.2.1 1)) 1 (M.2.1 2)), M.2.2)) rfl 0 (by decide) (htb _ bw1_176) (fun _ h9 => h9) rfl dX1_record_37 ?_
      refine lv_iload_n hx hb dX1_record_40 rfl (lv_at hl 0 rfl) ?_
      refine lv_iconst (v := 1) hx hb dX1_record_41 (by decide) ?_
      refine lv_isub hx hb dX1_record_42 ?_
      refine lv_aload_n hx hb dX1_record_43 rfl (lv_at hl 2 rfl) ?_
      refine va_get (ci := 1) (v := .ref ha) (C := RX1) (T := TX1) (N := 2) hx hb htb kin1 hown hK hP 0 (pHi_0 cI cS hh ha z (M.1, (updN (updN M.2.1 0 (M.2.1 1)) 1 (M.2.1 2)), M.2.2)) rfl 0 (by decide) (htb _ bw1_176) (fun _ h9 => h9) rfl dX1_record_44 ?_
      refine lv_iload_n hx hb dX1_record_47 rfl (lv_at hl 0 rfl) ?_
      refine va_aldq hx hb hK hP 1 1 (pHi_1 cI cS hh ha z (M.1, (updN (updN M.2.1 0 (M.2.1 1)) 1 (M.2.1 2)), M.2.2)) rfl (by unfold vp_in; decide) dX1_record_48 ?_
      obtain ⟨qk, vs, hqk⟩ := pHi_st cI cS hh ha z (M.1, (updN (updN M.2.1 0 (M.2.1 1)) 1 (M.2.1 2)), M.2.2) g3
      refine va_astq (r := (RX5, TX5, 3)) hx hb hK hP (hDa _) hS 1 1 qk 5 (pHi_1 cI cS hh ha z (M.1, (updN (updN M.2.1 0 (M.2.1 1)) 1 (M.2.1 2)), M.2.2)) rfl hqk rfl (by unfold vp_in; decide) dX1_record_49 (fun H locs hP _ hS => ?_)
      have hP : va_P D vwCl (wHi cI cS hh ha z (M.1, (updN (updN (updN M.2.1 0 (M.2.1 1)) 1 (M.2.1 2)) 2 (M.2.1 3)), M.2.2)) H := by rw [← hi_put cI cS hh ha z (M.1, (updN (updN M.2.1 0 (M.2.1 1)) 1 (M.2.1 2)), M.2.2) 2 (M.2.1 3)]; exact hP
      refine lv_iinc (v := 4) (lv' := [(2, .int 4), (1, .ref (z (M.2.1 0) 0)), (0, .ref hh)]) hx hb dX1_record_50 hl (k := 0) rfl (by decide) (by decide) rfl (fun ls hl => ?_)
      refine lv_goto (tgt := 27) hx hb dX1_record_53 (by decide) ?_
      refine lv_iload_n hx hb dX1_record_27 rfl (lv_at hl 0 rfl) ?_
      refine lv_aload_n hx hb dX1_record_28 rfl (lv_at hl 2 rfl) ?_
      refine va_get (ci := 1) (v := .ref ha) (C := RX1) (T := TX1) (N := 2) hx hb htb kin1 hown hK hP 0 (pHi_0 cI cS hh ha z (M.1, (updN (updN (updN M.2.1 0 (M.2.1 1)) 1 (M.2.1 2)) 2 (M.2.1 3)), M.2.2)) rfl 0 (by decide) (htb _ bw1_176) (fun _ h9 => h9) rfl dX1_record_29 ?_
      refine va_alen (v := 6) hx hb hK hP 1 1 (pHi_1 cI cS hh ha z (M.1, (updN (updN (updN M.2.1 0 (M.2.1 1)) 1 (M.2.1 2)) 2 (M.2.1 3)), M.2.2)) rfl rfl dX1_record_32 ?_
      refine lv_icmp_ge (tgt := 56) hx hb dX1_record_33 (by decide) (fun c => absurd c (by decide)) (fun _ => ?_)
      refine lv_aload_n hx hb dX1_record_36 rfl (lv_at hl 2 rfl) ?_
      refine va_get (ci := 1) (v := .ref ha) (C := RX1) (T := TX1) (N := 2) hx hb htb kin1 hown hK hP 0 (pHi_0 cI cS hh ha z (M.1, (updN (updN (updN M.2.1 0 (M.2.1 1)) 1 (M.2.1 2)) 2 (M.2.1 3)), M.2.2)) rfl 0 (by decide) (htb _ bw1_176) (fun _ h9 => h9) rfl dX1_record_37 ?_
      refine lv_iload_n hx hb dX1_record_40 rfl (lv_at hl 0 rfl) ?_
      refine lv_iconst (v := 1) hx hb dX1_record_41 (by decide) ?_
      refine lv_isub hx hb dX1_record_42 ?_
      refine lv_aload_n hx hb dX1_record_43 rfl (lv_at hl 2 rfl) ?_
      refine va_get (ci := 1) (v := .ref ha) (C := RX1) (T := TX1) (N := 2) hx hb htb kin1 hown hK hP 0 (pHi_0 cI cS hh ha z (M.1, (updN (updN (updN M.2.1 0 (M.2.1 1)) 1 (M.2.1 2)) 2 (M.2.1 3)), M.2.2)) rfl 0 (by decide) (htb _ bw1_176) (fun _ h9 => h9) rfl dX1_record_44 ?_
      refine lv_iload_n hx hb dX1_record_47 rfl (lv_at hl 0 rfl) ?_
      refine va_aldq hx hb hK hP 1 1 (pHi_1 cI cS hh ha z (M.1, (updN (updN (updN M.2.1 0 (M.2.1 1)) 1 (M.2.1 2)) 2 (M.2.1 3)), M.2.2)) rfl (by unfold vp_in; decide) dX1_record_48 ?_
      obtain ⟨qk, vs, hqk⟩ := pHi_st cI cS hh ha z (M.1, (updN (updN (updN M.2.1 0 (M.2.1 1)) 1 (M.2.1 2)) 2 (M.2.1 3)), M.2.2) g4
      refine va_astq (r := (RX5, TX5, 3)) hx hb hK hP (hDa _) hS 1 1 qk 5 (pHi_1 cI cS hh ha z (M.1, (updN (updN (updN M.2.1 0 (M.2.1 1)) 1 (M.2.1 2)) 2 (M.2.1 3)), M.2.2)) rfl hqk rfl (by unfold vp_in; decide) dX1_record_49 (fun H locs hP _ hS => ?_)
      have hP : va_P D vwCl (wHi cI cS hh ha z (M.1, (updN (updN (updN (updN M.2.1 0 (M.2.1 1)) 1 (M.2.1 2)) 2 (M.2.1 3)) 3 (M.2.1 4)), M.2.2)) H := by rw [← hi_put cI cS hh ha z (M.1, (updN (updN (updN M.2.1 0 (M.2.1 1)) 1 (M.2.1 2)) 2 (M.2.1 3)), M.2.2) 3 (M.2.1 4)]; exact hP
      refine lv_iinc (v := 5) (lv' := [(2, .int 5), (1, .ref (z (M.2.1 0) 0)), (0, .ref hh)]) hx hb dX1_record_50 hl (k := 0) rfl (by decide) (by decide) rfl (fun ls hl => ?_)
      refine lv_goto (tgt := 27) hx hb dX1_record_53 (by decide) ?_
      refine lv_iload_n hx hb dX1_record_27 rfl (lv_at hl 0 rfl) ?_
      refine lv_aload_n hx hb dX1_record_28 rfl (lv_at hl 2 rfl) ?_
      refine va_get (ci := 1) (v := .ref ha) (C := RX1) (T := TX1) (N := 2) hx hb htb kin1 hown hK hP 0 (pHi_0 cI cS hh ha z (M.1, (updN (updN (updN (updN M.2.1 0 (M.2.1 1)) 1 (M.2.1 2)) 2 (M.2.1 3)) 3 (M.2.1 4)), M.2.2)) rfl 0 (by decide) (htb _ bw1_176) (fun _ h9 => h9) rfl dX1_record_29 ?_
      refine va_alen (v := 6) hx hb hK hP 1 1 (pHi_1 cI cS hh ha z (M.1, (updN (updN (updN (updN M.2.1 0 (M.2.1 1)) 1 (M.2.1 2)) 2 (M.2.1 3)) 3 (M.2.1 4)), M.2.2)) rfl rfl dX1_record_32 ?_
      refine lv_icmp_ge (tgt := 56) hx hb dX1_record_33 (by decide) (fun c => absurd c (by decide)) (fun _ => ?_)
      refine lv_aload_n hx hb dX1_record_36 rfl (lv_at hl 2 rfl) ?_
      refine va_get (ci := 1) (v := .ref ha) (C := RX1) (T := TX1) (N := 2) hx hb htb kin1 hown hK hP 0 (pHi_0 cI cS hh ha z (M.1, (updN (updN (updN (updN M.2.1 0 (M.2.1 1)) 1 (M.2.1 2)) 2 (M.2.1 3)) 3 (M.2.1 4)), M.2.2)) rfl 0 (by decide) (htb _ bw1_176) (fun _ h9 => h9) rfl dX1_record_37 ?_
      refine lv_iload_n hx hb dX1_record_40 rfl (lv_at hl 0 rfl) ?_
      refine lv_iconst (v := 1) hx hb dX1_record_41 (by decide) ?_
      refine lv_isub hx hb dX1_record_42 ?_
      refine lv_aload_n hx hb dX1_record_43 rfl (lv_at hl 2 rfl) ?_
      refine va_get (ci := 1) (v := .ref ha) (C := RX1) (T := TX1) (N := 2) hx hb htb kin1 hown hK hP 0 (pHi_0 cI cS hh ha z (M.1, (updN (updN (updN (updN M.2.1 0 (M.2.1 1)) 1 (M.2.1 2)) 2 (M.2.1 3)) 3 (M.2.1 4)), M.2.2)) rfl 0 (by decide) (htb _ bw1_176) (fun _ h9 => h9) rfl dX1_record_44 ?_
      refine lv_iload_n hx hb dX1_record_47 rfl (lv_at hl 0 rfl) ?_
      refine va_aldq hx hb hK hP 1 1 (pHi_1 cI cS hh ha z (M.1, (updN (updN (updN (updN M.2.1 0 (M.2.1 1)) 1 (M.2.1 2)) 2 (M.2.1 3)) 3 (M.2.1 4)), M.2.2)) rfl (by unfold vp_in; decide) dX1_record_48 ?_
      obtain ⟨qk, vs, hqk⟩ := pHi_st cI cS hh ha z (M.1, (updN (updN (updN (updN M.2.1 0 (M.2.1 1)) 1 (M.2.1 2)) 2 (M.2.1 3)) 3 (M.2.1 4)), M.2.2) g5
      refine va_astq (r := (RX5, TX5, 3)) hx hb hK hP (hDa _) hS 1 1 qk 5 (pHi_1 cI cS hh ha z (M.1, (updN (updN (updN (updN M.2.1 0 (M.2.1 1)) 1 (M.2.1 2)) 2 (M.2.1 3)) 3 (M.2.1 4)), M.2.2)) rfl hqk rfl (by unfold vp_in; decide) dX1_record_49 (fun H locs hP _ hS => ?_)
      have hP : va_P D vwCl (wHi cI cS hh ha z (M.1, (updN (updN (updN (updN (updN M.2.1 0 (M.2.1 1)) 1 (M.2.1 2)) 2 (M.2.1 3)) 3 (M.2.1 4)) 4 (M.2.1 5)), M.2.2)) H := by rw [← hi_put cI cS hh ha z (M.1, (updN (updN (updN (updN M.2.1 0 (M.2.1 1)) 1 (M.2.1 2)) 2 (M.2.1 3)) 3 (M.2.1 4)), M.2.2) 4 (M.2.1 5)]; exact hP
      refine lv_iinc (v := 6) (lv' := [(2, .int 6), (1, .ref (z (M.2.1 0) 0)), (0, .ref hh)]) hx hb dX1_record_50 hl (k := 0) rfl (by decide) (by decide) rfl (fun ls hl => ?_)
      refine lv_goto (tgt := 27) hx hb dX1_record_53 (by decide) ?_
      refine lv_iload_n hx hb dX1_record_27 rfl (lv_at hl 0 rfl) ?_
      refine lv_aload_n hx hb dX1_record_28 rfl (lv_at hl 2 rfl) ?_
      refine va_get (ci := 1) (v := .ref ha) (C := RX1) (T := TX1) (N := 2) hx hb htb kin1 hown hK hP 0 (pHi_0 cI cS hh ha z (M.1, (updN (updN (updN (updN (updN M.2.1 0 (M.2.1 1)) 1 (M.2.1 2)) 2 (M.2.1 3)) 3 (M.2.1 4)) 4 (M.2.1 5)), M.2.2)) rfl 0 (by decide) (htb _ bw1_176) (fun _ h9 => h9) rfl dX1_record_29 ?_
      refine va_alen (v := 6) hx hb hK hP 1 1 (pHi_1 cI cS hh ha z (M.1, (updN (updN (updN (updN (updN M.2.1 0 (M.2.1 1)) 1 (M.2.1 2)) 2 (M.2.1 3)) 3 (M.2.1 4)) 4 (M.2.1 5)), M.2.2)) rfl rfl dX1_record_32 ?_
      refine lv_icmp_ge (tgt := 56) hx hb dX1_record_33 (by decide) (fun _ => ?_) (fun c => absurd (by decide) c)
      refine lv_aload_n hx hb dX1_record_56 rfl (lv_at hl 2 rfl) ?_
      refine va_get (ci := 1) (v := .ref ha) (C := RX1) (T := TX1) (N := 2) hx hb htb kin1 hown hK hP 0 (pHi_0 cI cS hh ha z (M.1, (updN (updN (updN (updN (updN M.2.1 0 (M.2.1 1)) 1 (M.2.1 2)) 2 (M.2.1 3)) 3 (M.2.1 4)) 4 (M.2.1 5)), M.2.2)) rfl 0 (by decide) (htb _ bw1_176) (fun _ h9 => h9) rfl dX1_record_57 ?_
      refine va_alen (v := 6) hx hb hK hP 1 1 (pHi_1 cI cS hh ha z (M.1, (updN (updN (updN (updN (updN M.2.1 0 (M.2.1 1)) 1 (M.2.1 2)) 2 (M.2.1 3)) 3 (M.2.1 4)) 4 (M.2.1 5)), M.2.2)) rfl rfl dX1_record_60 ?_
      refine lv_if_le (tgt := 77) hx hb dX1_record_61 (by decide) (fun c => absurd c (by decide)) (fun _ => ?_)
      refine lv_aload_n hx hb dX1_record_64 rfl (lv_at hl 2 rfl) ?_
      refine va_get (ci := 1) (v := .ref ha) (C := RX1) (T := TX1) (N := 2) hx hb htb kin1 hown hK hP 0 (pHi_0 cI cS hh ha z (M.1, (updN (updN (updN (updN (updN M.2.1 0 (M.2.1 1)) 1 (M.2.1 2)) 2 (M.2.1 3)) 3 (M.2.1 4)) 4 (M.2.1 5)), M.2.2)) rfl 0 (by decide) (htb _ bw1_176) (fun _ h9 => h9) rfl dX1_record_65 ?_
      refine lv_aload_n hx hb dX1_record_68 rfl (lv_at hl 2 rfl) ?_
      refine va_get (ci := 1) (v := .ref ha) (C := RX1) (T := TX1) (N := 2) hx hb htb kin1 hown hK hP 0 (pHi_0 cI cS hh ha z (M.1, (updN (updN (updN (updN (updN M.2.1 0 (M.2.1 1)) 1 (M.2.1 2)) 2 (M.2.1 3)) 3 (M.2.1 4)) 4 (M.2.1 5)), M.2.2)) rfl 0 (by decide) (htb _ bw1_176) (fun _ h9 => h9) rfl dX1_record_69 ?_
      refine va_alen (v := 6) hx hb hK hP 1 1 (pHi_1 cI cS hh ha z (M.1, (updN (updN (updN (updN (updN M.2.1 0 (M.2.1 1)) 1 (M.2.1 2)) 2 (M.2.1 3)) 3 (M.2.1 4)) 4 (M.2.1 5)), M.2.2)) rfl rfl dX1_record_72 ?_
      refine lv_iconst (v := 1) hx hb dX1_record_73 (by decide) ?_
      refine lv_isub hx hb dX1_record_74 ?_
      refine lv_aload_n hx hb dX1_record_75 rfl (lv_at hl 1 rfl) ?_
      obtain ⟨qk, vs, hqk⟩ := pHi_st cI cS hh ha z (M.1, (updN (updN (updN (updN (updN M.2.1 0 (M.2.1 1)) 1 (M.2.1 2)) 2 (M.2.1 3)) 3 (M.2.1 4)) 4 (M.2.1 5)), M.2.2) g0
      refine va_astq (r := (RX5, TX5, 3)) hx hb hK hP (hDa _) hS 1 1 qk 5 (pHi_1 cI cS hh ha z (M.1, (updN (updN (updN (updN (updN M.2.1 0 (M.2.1 1)) 1 (M.2.1 2)) 2 (M.2.1 3)) 3 (M.2.1 4)) 4 (M.2.1 5)), M.2.2)) rfl hqk rfl (by unfold vp_in; decide) dX1_record_76 (fun H locs hP _ hS => ?_)
      have hP : va_P D vwCl (wHi cI cS hh ha z (M.1, rotN M.2.1, M.2.2)) H := by rw [show (M.1, rotN M.2.1, M.2.2) = ((M.1, (updN (updN (updN (updN (updN M.2.1 0 (M.2.1 1)) 1 (M.2.1 2)) 2 (M.2.1 3)) 3 (M.2.1 4)) 4 (M.2.1 5)), M.2.2).1, updN (M.1, (updN (updN (updN (updN (updN M.2.1 0 (M.2.1 1)) 1 (M.2.1 2)) 2 (M.2.1 3)) 3 (M.2.1 4)) 4 (M.2.1 5)), M.2.2).2.1 5 (M.2.1 0), (M.1, (updN (updN (updN (updN (updN M.2.1 0 (M.2.1 1)) 1 (M.2.1 2)) 2 (M.2.1 3)) 3 (M.2.1 4)) 4 (M.2.1 5)), M.2.2).2.2) from rfl, ← hi_put cI cS hh ha z (M.1, (updN (updN (updN (updN (updN M.2.1 0 (M.2.1 1)) 1 (M.2.1 2)) 2 (M.2.1 3)) 3 (M.2.1 4)) 4 (M.2.1 5)), M.2.2) 5 (M.2.1 0)]; exact hP
      exact rt_V hx hb hr hlocks hS (by rw [← so_use hF]; exact hP) dX1_record_77
    · replace hF := (if_neg h6).symm.trans hF
      exact nn_use hF
  · replace hF := (if_neg c1).symm.trans hF
    refine lv_aload_n hx hb dX1_record_8 rfl (lv_at hl 0 rfl) ?_
    refine lv_dup hx hb dX1_record_9 rfl ?_
    refine va_get (ci := 1) (v := .int M.1) (C := RX1) (T := TX1) (N := 2) hx hb htb kin1 hown hK hP 0 (pHi_0 cI cS hh ha z _) rfl 1 (by decide) (htb _ bw1_177) (fun _ h9 => h9) rfl dX1_record_10 ?_
    refine lv_iconst (v := 1) hx hb dX1_record_13 (by decide) ?_
    refine lv_iadd hx hb dX1_record_14 ?_
    refine va_put (ci := 1) (v := .int (M.1 + 1)) (ty := .int) (C := RX1) (T := TX1) (N := 2) hx hb htb kin1 tyX1 tyX1_ok nmX1 hown hK hP (hDa _) hS 0 (pHi_0 cI cS hh ha z M) rfl 1 (by decide) (htb _ bw1_177) (fun _ h9 => h9) rfl (by decide +kernel) rfl rfl (Nat.le_of_ble_eq_true rfl) dX1_record_15 (fun H locs hP _ hS => ?_)
    have hP : va_P D vwCl (wHi cI cS hh ha z (M.1 + 1, M.2)) H := hP
    exact rt_V hx hb hr hlocks hS (by rw [← so_use hF]; exact hP) dX1_record_18
noncomputable def fX1_settle (M : Hg) (x : Int32) : Option (Int32 × Hg) := if x < 0 then some (x, M) else (fX1_record M).bind fun M' => some (x, M')
abbrev vX1_settle : List Cond := Cond.code yX1_settle cX1_settle 2 (some .int) :: BIG
theorem gX1_settle {own : String} {idx : Nat} (h : (Cond.methodLink own idx yX1_settle) ∈ BIG) : GoodIn BIG (wsV own idx RX1 yX1_settle vX1_settle) := gdV h bw2_85 bw2_86 bw1_9 bw2_87
theorem hdX1_settle : yX1_settle.cls = RX1 ∧ yX1_settle.cls ≠ "java/lang/invoke/MethodHandle" ∧ yX1_settle.cls ≠ "java/lang/invoke/VarHandle" ∧ (parseMethodDescriptor yX1_settle.desc).map (fun d => d.parameters.length) = some 1 := by decide +kernel
def rmX1_settle : Room := { frames := 2, cells := 0, slots := 0, locals := 45 }
set_option maxHeartbeats 4000000 in
set_option maxRecDepth 100000 in
theorem kX1_settle (l : Launch) (D : va_G) (cS : ClassId) (g : Nat → Nat) (cI : ClassId) (hh ha : Nat) (z : Nat → Nat → Nat) (M : Hg) (x r : Int32) (M' : Hg) (hF : fX1_settle M x = some (r, M')) : mI l yX1_settle vX1_settle rmX1_settle D cI cS g [.ref hh, .int x] (wHi cI cS hh ha z M) r (wHi cI cS hh ha z M') := by
  refine st_I rfl (by decide) (Nat.le_of_ble_eq_true rfl) ?_
  intro p e s m args below meth c A ls hx hb hr hml hlocks hown hts hA hK hD0 hG hP hS hl
  have hown : s.vm.findClass RX1 = some m.cls := hown
  have htb : ∀ w ∈ BIG, w.before args s = true := fun w h => hts w (List.mem_cons_of_mem _ h)
  have hDa : ∀ N, va_D A (wHi cI cS hh ha z N) := fun N => hD0.adr (adr_Hi cI cS hh ha z _ _)
  have hl : lv_has ls 2 [(0, .ref hh), (1, .int x)] := hl
  refine lv_iload_n hx hb dX1_settle_0 rfl (lv_at hl 1 rfl) ?_
  refine lv_if_lt (tgt := 8) hx hb dX1_settle_1 (by decide) (fun c1 => ?_) (fun c1 => ?_)
  · replace hF := (if_pos c1).symm.trans hF
    obtain ⟨er, eM⟩ := pr_use hF
    refine lv_iload_n hx hb dX1_settle_8 rfl (lv_at hl 1 rfl) ?_
    exact rt_I hx hb hr hlocks hS (by rw [← eM]; exact hP) er dX1_settle_9
  · replace hF := (if_neg c1).symm.trans hF
    obtain ⟨M1, hM1, hF⟩ := bd_use hF
    refine lv_aload_n hx hb dX1_settle_4 rfl (lv_at hl 0 rfl) ?_
    refine cl_VV ⟨hx, hb, hml, hown, htb⟩ (kX1_record l D cS g cI hh ha z M M1 hM1) (cwV 0 htb (gX1_record bw2_88) rfl rfl rfl hdX1_record ⟨Nat.le_of_ble_eq_true rfl, Nat.le_of_ble_eq_true rfl⟩) hK (hDa _) hG hA hP hS sg_all hl.1 rfl 0 (pHi_0 cI cS hh ha z M) rfl rfl (Nat.le_of_ble_eq_true rfl) dX1_settle_5 (fun H locs hP hS => ?_)
    obtain ⟨er, eM⟩ := pr_use hF
    refine lv_iload_n hx hb dX1_settle_8 rfl (lv_at hl 1 rfl) ?_
    exact rt_I hx hb hr hlocks hS (by rw [← eM]; exact hP) er dX1_settle_9

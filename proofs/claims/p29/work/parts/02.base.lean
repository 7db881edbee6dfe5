/-! My own layer over the kit: pure helpers, contracts of methods that make no cells, calls, returns. -/
abbrev Tb : Type := Int32 × (Nat → Int32)
def FU : Nat := 100000
def tI (cI cS : ClassId) : List (ClassId × FieldType) := [(cI, .int), (cS, .object "TeamRooms$State")]
-- pure functions: naming, reading, writing, dividing, booleans
def nm {α β : Type} (x : α) (k : α → β) : β := k x
theorem nm_use {α ρ : Type} {x y : α} {k : α → ρ} {o : ρ} (h : nm x k = o) (e : y = x) : k y = o := by subst e; exact h
theorem it_t {ρ : Type} {c : Prop} {i : Decidable c} {a b o : ρ} (h : (@ite _ c i a b) = o) (hc : c) : a = o := (if_pos hc).symm.trans h
theorem it_f {ρ : Type} {c : Prop} {i : Decidable c} {a b o : ρ} (h : (@ite _ c i a b) = o) (hc : ¬ c) : b = o := (if_neg hc).symm.trans h
theorem bd_use {α ρ : Type} {x : Option α} {k : α → Option ρ} {o : ρ} (h : x.bind k = some o) : ∃ a, x = some a ∧ k a = some o := by
  cases x with
  | none => exact absurd h (by simp)
  | some a => exact ⟨a, rfl, h⟩
theorem bd_use2 {α β ρ : Type} {x : Option (α × β)} {k : α × β → Option ρ} {o : ρ} (h : x.bind k = some o) : ∃ a b, x = some (a, b) ∧ k (a, b) = some o := by
  obtain ⟨⟨a, b⟩, h1, h2⟩ := bd_use h
  exact ⟨a, b, h1, h2⟩
def Rd {ρ : Type} (f : Nat → Int32) (n : Nat) (i : Int32) (k : Int32 → Option ρ) : Option ρ := if i < 0 ∨ n ≤ i.toNatClampNeg then none else k (f i.toNatClampNeg)
theorem rd_use {ρ : Type} {f : Nat → Int32} {n : Nat} {i : Int32} {k : Int32 → Option ρ} {o : ρ} (h : Rd f n i k = some o) : vp_in i n ∧ ∀ y, y = f i.toNatClampNeg → k y = some o := by
  unfold Rd at h
  by_cases c : i < 0 ∨ n ≤ i.toNatClampNeg
  · rw [if_pos c] at h; cases h
  · rw [if_neg c] at h; exact ⟨c, fun y e => by rw [e]; exact h⟩
def Wr {ρ : Type} (f : Nat → Int32) (n : Nat) (i x : Int32) (k : (Nat → Int32) → Option ρ) : Option ρ := if i < 0 ∨ n ≤ i.toNatClampNeg then none else k (upd f i.toNatClampNeg x)
theorem wr_use {ρ : Type} {f : Nat → Int32} {n : Nat} {i x : Int32} {k : (Nat → Int32) → Option ρ} {o : ρ} (h : Wr f n i x k = some o) : vp_in i n ∧ k (upd f i.toNatClampNeg x) = some o := by
  unfold Wr at h
  by_cases c : i < 0 ∨ n ≤ i.toNatClampNeg
  · rw [if_pos c] at h; cases h
  · rw [if_neg c] at h; exact ⟨c, h⟩
def Dv {ρ : Type} (x y : Int32) (k : Int32 → Option ρ) : Option ρ := if y = 0 then none else k (x / y)
theorem dv_use {ρ : Type} {x y : Int32} {k : Int32 → Option ρ} {o : ρ} (h : Dv x y k = some o) : ¬ y = 0 ∧ ∀ z, z = x / y → k z = some o := by
  unfold Dv at h
  by_cases c : y = 0
  · rw [if_pos c] at h; cases h
  · rw [if_neg c] at h; exact ⟨c, fun z e => by rw [e]; exact h⟩
/-- a boolean that is answered -/
def Zb {ρ : Type} (v : Int32) (k : Option ρ) : Option ρ := if v = 0 ∨ v = 1 then k else none
theorem zb_use {ρ : Type} {v : Int32} {k : Option ρ} {o : ρ} (h : Zb v k = some o) : narrow .boolean (.int v) = .int v ∧ k = some o := by
  unfold Zb at h
  by_cases c : v = 0 ∨ v = 1
  · rw [if_pos c] at h
    refine ⟨?_, h⟩
    rcases c with rfl | rfl <;> rfl
  · rw [if_neg c] at h; cases h
theorem nn_use {ρ : Type} {o : ρ} {P : Prop} (h : (none : Option ρ) = some o) : P := by cases h
theorem so_use {ρ : Type} {a o : ρ} (h : some a = some o) : a = o := Option.some.inj h
theorem pr_use {α β : Type} {a c : α} {b d : β} (h : some (a, b) = some (c, d)) : a = c ∧ b = d := by cases h; exact ⟨rfl, rfl⟩
-- worlds
theorem va_D.adr {A : Nat → Prop} {w w' : va_W} (h : va_D A w) (e : w'.map Prod.fst = w.map Prod.fst) : va_D A w' := by
  have key : ∀ (k : Nat) (q : Nat × va_E), w'[k]? = some q → ∃ q0, w[k]? = some q0 ∧ q0.1 = q.1 := by
    intro k q hq
    have h1 : (w'.map Prod.fst)[k]? = some q.1 := by rw [List.getElem?_map, hq]; rfl
    rw [e, List.getElem?_map] at h1
    cases hk : w[k]? with
    | none => rw [hk] at h1; cases h1
    | some q0 => rw [hk] at h1; exact ⟨q0, rfl, Option.some.inj h1⟩
  refine ⟨fun i j p q hi hj hpq => ?_, fun k q hq => ?_⟩
  · obtain ⟨p0, h1, h2⟩ := key i p hi
    obtain ⟨q0, h3, h4⟩ := key j q hj
    exact h.1 i j p0 q0 h1 h3 (by rw [h2, h4, hpq])
  · obtain ⟨q0, h1, h2⟩ := key k q hq
    rw [← h2]; exact h.2 k q0 h1
-- segments: a world is a row of pieces, a callee takes some of them
theorem va_P.mem {D : va_G} {cl : List vw_C} {W : va_W} {H : Heap} : va_P D cl W H ↔ ∀ q ∈ W, va_at D cl q H := by
  refine ⟨fun h q hq => ?_, fun h k q hq => h q (List.mem_of_getElem? hq)⟩
  obtain ⟨k, hk⟩ := List.getElem?_of_mem hq
  exact h k q hk
theorem va_A.mem {W : va_W} {sz q : Nat} : va_A W sz q ↔ (∃ z ∈ W, z.1 = q) ∨ sz ≤ q := by
  refine ⟨fun h => ?_, fun h => ?_⟩
  · rcases h with ⟨k, e, h⟩ | h
    · exact Or.inl ⟨(q, e), List.mem_of_getElem? h, rfl⟩
    · exact Or.inr h
  · rcases h with ⟨z, h, rfl⟩ | h
    · obtain ⟨k, hk⟩ := List.getElem?_of_mem h
      exact Or.inl ⟨k, z.2, hk⟩
    · exact Or.inr h
theorem va_D.pw {A : Nat → Prop} {W : va_W} : va_D A W ↔ W.Pairwise (fun p q => p.1 ≠ q.1) ∧ ∀ q ∈ W, A q.1 := by
  refine ⟨fun h => ⟨?_, fun q hq => ?_⟩, fun h => ⟨fun i j p q hi hj e => ?_, fun k q hq => h.2 q (List.mem_of_getElem? hq)⟩⟩
  · rw [List.pairwise_iff_getElem]
    intro i j hi hj hij e
    have := h.1 i j _ _ (List.getElem?_eq_getElem hi) (List.getElem?_eq_getElem hj) e
    omega
  · obtain ⟨k, hk⟩ := List.getElem?_of_mem hq
    exact h.2 k q hk
  · have hp := List.pairwise_iff_getElem.mp h.1
    obtain ⟨hi1, hi2⟩ := List.getElem?_eq_some_iff.mp hi
    obtain ⟨hj1, hj2⟩ := List.getElem?_eq_some_iff.mp hj
    rcases Nat.lt_trichotomy i j with q1 | q1 | q1
    · exact absurd (by rw [hi2, hj2]; exact e) (hp i j hi1 hj1 q1)
    · exact q1
    · exact absurd (by rw [hi2, hj2]; exact e.symm) (hp j i hj1 hi1 q1)
def Sg (W0 w w' W1 : va_W) : Prop := ∃ (S0 s s' S1 : List va_W) (is rest : List Nat), W0 = S0.flatten ∧ w = s.flatten ∧ w' = s'.flatten ∧ W1 = S1.flatten ∧ va_nd is = true ∧ is.map (fun i => S0[i]?) = s.map some ∧ is.map (fun i => S1[i]?) = s'.map some ∧ rest.map (fun i => S1[i]?) = rest.map (fun i => S0[i]?) ∧ (List.range S1.length).all (fun k => is.contains k || rest.contains k) = true
theorem mp_at {α : Type} {S s : List α} {is : List Nat} (h : is.map (fun i => S[i]?) = s.map some) {j : Nat} {g : α} (hj : s[j]? = some g) : ∃ i, is[j]? = some i ∧ S[i]? = some g := by
  have h1 : (is.map (fun i => S[i]?))[j]? = (s.map some)[j]? := by rw [h]
  rw [List.getElem?_map, List.getElem?_map, hj] at h1
  cases hi : is[j]? with
  | none => rw [hi] at h1; cases h1
  | some i => rw [hi] at h1; exact ⟨i, rfl, Option.some.inj h1⟩
theorem mp_at2 {α : Type} {S s : List α} {is : List Nat} (h : is.map (fun i => S[i]?) = s.map some) {j i : Nat} (hj : is[j]? = some i) {g : α} (hg : S[i]? = some g) : s[j]? = some g := by
  have h1 : (is.map (fun i => S[i]?))[j]? = (s.map some)[j]? := by rw [h]
  rw [List.getElem?_map, List.getElem?_map, hj] at h1
  cases hi : s[j]? with
  | none => rw [hi] at h1; cases h1
  | some x => rw [hi] at h1; have h2 : S[i]? = some x := Option.some.inj h1; rw [hg] at h2; exact h2.symm
theorem Sg.mem {W0 w w' W1 : va_W} (h : Sg W0 w w' W1) {q : Nat × va_E} (hq : q ∈ w) : q ∈ W0 := by
  obtain ⟨S0, s, s', S1, is, rest, rfl, rfl, rfl, rfl, hn, h1, h2, h3, h4⟩ := h
  obtain ⟨g, hg, hq⟩ := List.mem_flatten.mp hq
  obtain ⟨j, hj⟩ := List.getElem?_of_mem hg
  obtain ⟨i, -, hi⟩ := mp_at h1 hj
  exact List.mem_flatten.mpr ⟨g, List.mem_of_getElem? hi, hq⟩
theorem Sg.P {W0 w w' W1 : va_W} (h : Sg W0 w w' W1) {D : va_G} {cl : List vw_C} {H : Heap} (hP : va_P D cl W0 H) : va_P D cl w H := va_P.mem.mpr (fun q hq => va_P.mem.mp hP q (h.mem hq))
theorem Sg.D {W0 w w' W1 : va_W} (h : Sg W0 w w' W1) {A : Nat → Prop} (hD : va_D A W0) : va_D A w := by
  have hm : ∀ q ∈ w, A q.1 := fun q hq => (va_D.pw.mp hD).2 q (h.mem hq)
  have hp := (va_D.pw.mp hD).1
  refine va_D.pw.mpr ⟨?_, hm⟩
  obtain ⟨S0, s, s', S1, is, rest, rfl, rfl, rfl, rfl, hn, h1, h2, h3, h4⟩ := h
  obtain ⟨p1, p2⟩ := List.pairwise_flatten.mp hp
  refine List.pairwise_flatten.mpr ⟨fun g hg => ?_, ?_⟩
  · obtain ⟨j, hj⟩ := List.getElem?_of_mem hg
    obtain ⟨i, -, hi⟩ := mp_at h1 hj
    exact p1 g (List.mem_of_getElem? hi)
  · rw [List.pairwise_iff_getElem]
    intro i j hi hj hij x hx y hy
    obtain ⟨a, a1, a2⟩ := mp_at h1 (List.getElem?_eq_getElem hi)
    obtain ⟨b, b1, b2⟩ := mp_at h1 (List.getElem?_eq_getElem hj)
    have hab : a ≠ b := fun e => by
      subst e
      have := va_nd_inj is hn i j a a1 b1
      omega
    have p3 := List.pairwise_iff_getElem.mp p2
    obtain ⟨al, ae⟩ := List.getElem?_eq_some_iff.mp a2
    obtain ⟨bl, be⟩ := List.getElem?_eq_some_iff.mp b2
    rcases Nat.lt_or_gt_of_ne hab with q1 | q1
    · exact p3 a b al bl q1 x (by rw [ae]; exact hx) y (by rw [be]; exact hy)
    · exact fun e => p3 b a bl al q1 y (by rw [be]; exact hy) x (by rw [ae]; exact hx) e.symm
theorem Sg.F {W0 w w' W1 : va_W} (h : Sg W0 w w' W1) {A0 : Nat → Prop} {H0 H : Heap} {locs : List Loc} (hD : va_D A0 W0) (hS : va_S A0 H0 H locs) (hA : ∀ q, H0.size ≤ q → A0 q) : ∀ q, va_A w H.size q → A0 q := by
  intro q hq
  rcases va_A.mem.mp hq with ⟨z, hz, rfl⟩ | hq
  · exact (va_D.pw.mp (h.D hD)).2 z hz
  · exact hA q (Nat.le_trans hS.1 hq)
/-- behind a call that makes no cell: the callee's pieces are back in their places -/
theorem Sg.put {W0 w w' W1 : va_W} (h : Sg W0 w w' W1) {A : Nat → Prop} {D : va_G} {cl : List vw_C} {H H1 : Heap} (hP : va_P D cl W0 H) (hD : va_D A W0) (hk : ∀ q : Nat, q < H.size → ¬ va_A w H.size q → H1[q]? = H[q]?) (hP1 : va_P D cl w' H1) : va_P D cl W1 H1 := by
  obtain ⟨S0, s, s', S1, is, rest, rfl, rfl, rfl, rfl, hn, h1, h2, h3, h4⟩ := h
  refine va_P.mem.mpr (fun q hq => ?_)
  obtain ⟨g, hg, hq⟩ := List.mem_flatten.mp hq
  obtain ⟨k, hk1⟩ := List.getElem?_of_mem hg
  have hkl : k < S1.length := (List.getElem?_eq_some_iff.mp hk1).1
  by_cases hin : k ∈ is
  · obtain ⟨j, hj⟩ := List.getElem?_of_mem hin
    exact va_P.mem.mp hP1 q (List.mem_flatten.mpr ⟨g, List.mem_of_getElem? (mp_at2 h2 hj hk1), hq⟩)
  · have hr : k ∈ rest := by
      have := List.all_eq_true.mp h4 k (List.mem_range.mpr hkl)
      rw [Bool.or_eq_true] at this
      rcases this with c | c
      · exact absurd (List.contains_iff_mem.mp c) hin
      · exact List.contains_iff_mem.mp c
    obtain ⟨j, hj⟩ := List.getElem?_of_mem hr
    have h5 : (rest.map (fun i => S1[i]?))[j]? = (rest.map (fun i => S0[i]?))[j]? := by rw [h3]
    rw [List.getElem?_map, List.getElem?_map, hj] at h5
    have h6 : S1[k]? = S0[k]? := Option.some.inj h5
    rw [hk1] at h6
    have hq0 : q ∈ S0.flatten := List.mem_flatten.mpr ⟨g, List.mem_of_getElem? h6.symm, hq⟩
    have hat := va_P.mem.mp hP q hq0
    refine hat.kept (hk q.1 hat.lt (fun hva => ?_))
    rcases va_A.mem.mp hva with ⟨z, hz, e⟩ | hva
    · obtain ⟨g2, hg2, hz⟩ := List.mem_flatten.mp hz
      obtain ⟨j2, hj2⟩ := List.getElem?_of_mem hg2
      obtain ⟨i, hi1, hi2⟩ := mp_at h1 hj2
      have hne : i ≠ k := fun e2 => hin (by rw [← e2]; exact List.mem_of_getElem? hi1)
      have p2 := List.pairwise_iff_getElem.mp (List.pairwise_flatten.mp (va_D.pw.mp hD).1).2
      obtain ⟨al, ae⟩ := List.getElem?_eq_some_iff.mp hi2
      obtain ⟨bl, be⟩ := List.getElem?_eq_some_iff.mp h6.symm
      rcases Nat.lt_or_gt_of_ne hne with q1 | q1
      · exact p2 i k al bl q1 z (by rw [ae]; exact hz) q (by rw [be]; exact hq) e
      · exact p2 k i bl al q1 q (by rw [be]; exact hq) z (by rw [ae]; exact hz) e.symm
    · have := hat.lt
      omega
theorem sg_nil {W : va_W} : Sg W [] [] W := ⟨[W], [], [], [W], [], [0], by simp, rfl, rfl, by simp, rfl, rfl, rfl, rfl, rfl⟩
theorem sg_all {W W' : va_W} : Sg W W W' W' := ⟨[W], [W], [W'], [W'], [0], [], by simp, by simp, by simp, by simp, rfl, rfl, rfl, rfl, rfl⟩
-- what the launch's statics, the script and nest links are: they lie outside of what is changed
def fstS : List Int32 := [2, 10, 5, 15, 20]
def mstS : List Int32 := [10, 30, 20, 60, 50]
def tabS (l : List Int32) (j : Nat) : Value := .int (l.getD j 0)
def scX (g : Nat → Nat) (j : Nat) : Int32 := Int32.ofNat (g (10 + j))
def GG (g : Nat → Nat) (A : Nat → Prop) (U : State) (H : Heap) : Prop :=
  (va_Z RX8 "FIRST_SETTINGS" "[I" (.ref (g 0)) A U H ∧ va_T .int (g 0) 5 (tabS fstS) A U H) ∧
  (va_Z RX8 "MOST_SETTINGS" "[I" (.ref (g 1)) A U H ∧ va_T .int (g 1) 5 (tabS mstS) A U H) ∧
  va_T .int (g 2) (g 3) (fun j => .int (scX g j)) A U H ∧
  va_Nw (.methodLinkNest RX0 34 yX8_inRange RX8) U ∧ va_Nw (.fieldLinkNest RX0 60 RX8 "MOST_SETTINGS" "[I" RX8) U ∧ va_Nw (.fieldLinkNest RX7 29 RX8 "FIRST_SETTINGS" "[I" RX8) U
theorem GG.go {g : Nat → Nat} {A B : Nat → Prop} {s U : State} {H0 H : Heap} {locs : List Loc} (h : GG g A s H0) (hS : va_S A H0 H locs) (hAB : ∀ q, B q → A q) (hW : s.WarmedH U.vm) : GG g B U H := by
  obtain ⟨⟨a1, a2⟩, ⟨b1, b2⟩, c2, n1, m1, m3⟩ := h
  have hq : ∀ a : Nat, a < H0.size → ¬ A a → H[a]? = H0[a]? := hS.2.1
  exact ⟨⟨((a1.kept hq).narrow hAB).moved hW.alike, ((a2.kept hq).narrow hAB).moved hW.alike⟩, ⟨((b1.kept hq).narrow hAB).moved hW.alike, ((b2.kept hq).narrow hAB).moved hW.alike⟩, ((c2.kept hq).narrow hAB).moved hW.alike, va_Nw.warmM hW n1, va_Nw.warmF hW m1, va_Nw.warmF hW m3⟩
theorem GG.same {g : Nat → Nat} {A : Nat → Prop} {u U : State} {H : Heap} (h : GG g A u H) (hv : U.vm = u.vm) : GG g A U H := by
  obtain ⟨⟨a1, a2⟩, ⟨b1, b2⟩, c2, n1, m1, m3⟩ := h
  have ha : u.vm.Alike U.vm := by rw [hv]; exact Vm.Alike.refl _
  exact ⟨⟨a1.moved ha, a2.moved ha⟩, ⟨b1.moved ha, b2.moved ha⟩, c2.moved ha, va_Nw.same rfl hv.symm n1, va_Nw.same rfl hv.symm m1, va_Nw.same rfl hv.symm m3⟩
-- contracts of methods that make no cell
def qI (D : va_G) (r : Int32) (w' : va_W) (A : Nat → Prop) : Array Value → State → Outcome → State → Prop := va_Qi (fun (r' : Int32) (_ : Unit) => r' = r) (fun _ t => va_P D vwCl w' t.heap) A
def qV (D : va_G) (w' : va_W) (A : Nat → Prop) : Array Value → State → Outcome → State → Prop := va_Qv (fun (_ : Unit) => True) (fun _ t => va_P D vwCl w' t.heap) A
def qR (D : va_G) (r : Option Nat) (w' : va_W) (A : Nat → Prop) : Array Value → State → Outcome → State → Prop := va_Qq (fun (r' : Option Nat) (_ : Unit) => r' = r) (fun _ t => va_P D vwCl w' t.heap) A
def bP (D : va_G) (cI cS : ClassId) (g : Nat → Nat) (w : va_W) (sz : Nat) (U : State) : Prop := U.heap.size = sz ∧ va_P D vwCl w U.heap ∧ va_K D vwCl (tI cI cS) U ∧ va_D (fun _ => True) w ∧ GG g (va_A w sz) U U.heap
theorem bP_blind {D : va_G} {cI cS : ClassId} {g : Nat → Nat} {w : va_W} {sz : Nat} {av : List Value} : FrameBlind (va_Pc av (bP D cI cS g w sz)) := by
  intro a U gg mk q
  obtain ⟨q0, q1, qP, qK, qD, qG⟩ := q
  exact ⟨q0, q1, qP, va_K.moved (u := U) (U := U.calling gg mk a) (Vm.Alike.refl U.vm) qK, qD, GG.same (u := U) (U := U.calling gg mk a) qG rfl⟩
def mI (l : Launch) (y : MethodName) (ws : List Cond) (rm : Room) (D : va_G) (cI cS : ClassId) (g : Nat → Nat) (av : List Value) (w : va_W) (r : Int32) (w' : va_W) : Prop := ∀ sz : Nat, Met l y ws rm (va_Pc av (bP D cI cS g w sz)) (qI D r w' (va_A w sz)) 0 0 (va_A w sz)
def mV (l : Launch) (y : MethodName) (ws : List Cond) (rm : Room) (D : va_G) (cI cS : ClassId) (g : Nat → Nat) (av : List Value) (w : va_W) (w' : va_W) : Prop := ∀ sz : Nat, Met l y ws rm (va_Pc av (bP D cI cS g w sz)) (qV D w' (va_A w sz)) 0 0 (va_A w sz)
def mR (l : Launch) (y : MethodName) (ws : List Cond) (rm : Room) (D : va_G) (cI cS : ClassId) (g : Nat → Nat) (av : List Value) (w : va_W) (r : Option Nat) (w' : va_W) : Prop := ∀ sz : Nat, Met l y ws rm (va_Pc av (bP D cI cS g w sz)) (qR D r w' (va_A w sz)) 0 0 (va_A w sz)
/-- the walk that a contract asks -/
def wk (l : Launch) (y : MethodName) (ws : List Cond) (rm : Room) (D : va_G) (cI cS : ClassId) (g : Nat → Nat) (av : List Value) (w : va_W) (Qc : (Nat → Prop) → Array Value → State → Outcome → State → Prop) (cc : ByteArray) (maxL : Nat) (ret : Option FieldType) : Prop :=
  ∀ (p : Program) (e : Env) (s : State) (m : MethodId) (args : Array Value) (below : List Frame) (meth : Method) (c : Code) (A : Nat → Prop) (ls : Array Slot), p.tables.exec = Jvm.exec → c.code = cc → meth.sig.returnType = ret → c.maxLocals = maxL → meth.locks = false → s.vm.findClass y.cls = some m.cls → (∀ w ∈ ws, w.before args s = true) → (∀ q : Nat, s.heap.size ≤ q → A q) → va_K D vwCl (tI cI cS) s → va_D A w → GG g A s s.heap → va_P D vwCl w s.heap → va_S A s.heap s.heap [] → lv_has ls maxL (lv_args 0 av) → W p l e rm s m args below meth c s.heap [] 0 0 (MQ below (Qc A) args s 0 0 A) (F0 m 0 ls [])
theorem wk_met {l : Launch} {y : MethodName} {ws ws' : List Cond} {rm : Room} {D : va_G} {cI cS : ClassId} {g : Nat → Nat} {av : List Value} {w : va_W} {Qc : (Nat → Prop) → Array Value → State → Outcome → State → Prop} {cc : ByteArray} {maxL : Nat} {ret : Option FieldType} (hw : ws = Cond.code y cc maxL ret :: ws') (hy : plainName y.cls = true) (hn : (lg_sl av).length ≤ maxL)
    (k : wk l y ws rm D cI cS g av w Qc cc maxL ret) (sz : Nat) : Met l y ws rm (va_Pc av (bP D cI cS g w sz)) (Qc (va_A w sz)) 0 0 (va_A w sz) := by
  refine Met.ofW (cc := cc) (maxL := maxL) (ret := ret) hy hw ?_
  intro p e s m args below meth c s₁ B hml hv
  obtain ⟨rfl, hsz, hP, hK, hD0, hG⟩ := hv
  subst hsz
  rw [lg_entry_eq]
  exact k p e s m _ below meth c (va_A w s.heap.size) _ B.exec B.bytes B.returns hml B.notSynchronized (findClass_of_methodNamed B.named) (atoms_spec (ws := ws) B.pre) (fun q h => Or.inr h) hK hD0.self hG hP va_S.rf (lv_entry av hn)
theorem st_I {l : Launch} {y : MethodName} {ws ws' : List Cond} {rm : Room} {D : va_G} {cI cS : ClassId} {g : Nat → Nat} {av : List Value} {w w' : va_W} {r : Int32} {cc : ByteArray} {maxL : Nat} {ret : Option FieldType} (hw : ws = Cond.code y cc maxL ret :: ws') (hy : plainName y.cls = true) (hn : (lg_sl av).length ≤ maxL) (k : wk l y ws rm D cI cS g av w (qI D r w') cc maxL ret) : mI l y ws rm D cI cS g av w r w' := wk_met hw hy hn k
theorem st_V {l : Launch} {y : MethodName} {ws ws' : List Cond} {rm : Room} {D : va_G} {cI cS : ClassId} {g : Nat → Nat} {av : List Value} {w w' : va_W} {cc : ByteArray} {maxL : Nat} {ret : Option FieldType} (hw : ws = Cond.code y cc maxL ret :: ws') (hy : plainName y.cls = true) (hn : (lg_sl av).length ≤ maxL) (k : wk l y ws rm D cI cS g av w (qV D w') cc maxL ret) : mV l y ws rm D cI cS g av w w' := wk_met hw hy hn k
theorem st_R {l : Launch} {y : MethodName} {ws ws' : List Cond} {rm : Room} {D : va_G} {cI cS : ClassId} {g : Nat → Nat} {av : List Value} {w w' : va_W} {r : Option Nat} {cc : ByteArray} {maxL : Nat} {ret : Option FieldType} (hw : ws = Cond.code y cc maxL ret :: ws') (hy : plainName y.cls = true) (hn : (lg_sl av).length ≤ maxL) (k : wk l y ws rm D cI cS g av w (qR D r w') cc maxL ret) : mR l y ws rm D cI cS g av w r w' := wk_met hw hy hn k
section RT
variable {p : Program} {l : Launch} {e : Env} {R : Room} {s : State} {m : MethodId} {args : Array Value} {below : List Frame} {meth : Method} {c : Code} {H : Heap} {locs : List Loc} {cc : ByteArray} {pc : Nat} {ls : Array Slot} {A : Nat → Prop} {D : va_G} {w' : va_W}
theorem rt_I {v r : Int32} (hx : p.tables.exec = Jvm.exec) (hb : c.code = cc) (hr : meth.sig.returnType = some .int) (hlocks : meth.locks = false) (hS : va_S A s.heap H locs) (hP : va_P D vwCl w' H) (er : v = r) (hdg : decode cc pc = .ok (.ireturn, 1)) : W p l e R s m args below meth c H locs 0 0 (MQ below (qI D r w' A) args s 0 0 A) (F0 m pc ls [.int v]) :=
  W.iret (v := v) hx hb hr (fun t ht hW => ⟨⟨v, (), rfl, er, (congrArg (va_P D vwCl w') ht).mpr hP⟩, hS.F ht⟩) hS.2.2 hdg hlocks
theorem rt_Z {v r : Int32} (hx : p.tables.exec = Jvm.exec) (hb : c.code = cc) (hr : meth.sig.returnType = some .boolean) (hlocks : meth.locks = false) (hS : va_S A s.heap H locs) (hP : va_P D vwCl w' H) (hn : narrow .boolean (.int v) = .int v) (er : v = r) (hdg : decode cc pc = .ok (.ireturn, 1)) : W p l e R s m args below meth c H locs 0 0 (MQ below (qI D r w' A) args s 0 0 A) (F0 m pc ls [.int v]) :=
  W.zret (v := v) hx hb hr hn (fun t ht hW => ⟨⟨v, (), rfl, er, (congrArg (va_P D vwCl w') ht).mpr hP⟩, hS.F ht⟩) hS.2.2 hdg hlocks
theorem rt_T {v r : Int32} {ty : FieldType} (hx : p.tables.exec = Jvm.exec) (hb : c.code = cc) (hr : meth.sig.returnType = some ty) (hlocks : meth.locks = false) (hS : va_S A s.heap H locs) (hP : va_P D vwCl w' H) (hn : narrow ty (.int v) = .int v) (er : v = r) (hdg : decode cc pc = .ok (.ireturn, 1)) : W p l e R s m args below meth c H locs 0 0 (MQ below (qI D r w' A) args s 0 0 A) (F0 m pc ls [.int v]) :=
  W.zret (v := v) hx hb hr hn (fun t ht hW => ⟨⟨v, (), rfl, er, (congrArg (va_P D vwCl w') ht).mpr hP⟩, hS.F ht⟩) hS.2.2 hdg hlocks
theorem rt_R {o r : Option Nat} {rt : FieldType} (hx : p.tables.exec = Jvm.exec) (hb : c.code = cc) (hr : meth.sig.returnType = some rt) (hrt : (∃ n, rt = .object n) ∨ ∃ t, rt = .array t) (hlocks : meth.locks = false) (hS : va_S A s.heap H locs) (hP : va_P D vwCl w' H) (er : o = r) (hdg : decode cc pc = .ok (.areturn, 1)) : W p l e R s m args below meth c H locs 0 0 (MQ below (qR D r w' A) args s 0 0 A) (F0 m pc ls [va_rf o]) :=
  W.aret (v := va_rf o) hx hb hr hrt (va_rf_or o) (fun t ht hW => ⟨⟨o, (), rfl, er, (congrArg (va_P D vwCl w') ht).mpr hP⟩, hS.F ht⟩) hS.2.2 hdg hlocks
theorem rt_V (hx : p.tables.exec = Jvm.exec) (hb : c.code = cc) (hr : meth.sig.returnType = none) (hlocks : meth.locks = false) (hS : va_S A s.heap H locs) (hP : va_P D vwCl w' H) (hdg : decode cc pc = .ok (.return_, 1)) : W p l e R s m args below meth c H locs 0 0 (MQ below (qV D w' A) args s 0 0 A) (F0 m pc ls []) :=
  W.vret hx hb hr (fun t ht hW => ⟨⟨(), rfl, trivial, (congrArg (va_P D vwCl w') ht).mpr hP⟩, hS.F ht⟩) hS.2.2 hdg hlocks
end RT
section CLS
variable {p : Program} {l : Launch} {e : Env} {R : Room} {s : State} {m : MethodId} {args : Array Value} {below : List Frame} {meth : Method} {c : Code} {H : Heap} {locs : List Loc} {cc : ByteArray} {pc : Nat} {ls : Array Slot} {A : Nat → Prop} {D : va_G} {Q : State → Prop}
variable {y : MethodName} {ws Ts : List Cond} {rm : Room} {cI cS : ClassId} {g : Nat → Nat} {b : Nat} {As : List Value} {W0 w w' W1 : va_W} {r : Int32} {own C : String} {index maxL nL n : Nat} {bytes : ByteArray} {ret : Option FieldType} {st rest : List Value}
theorem cl_pre (hK : va_K D vwCl (tI cI cS) s) (hD : va_D A W0) (hG : GG g A s s.heap) (hA : ∀ q : Nat, s.heap.size ≤ q → A q) (hP : va_P D vwCl W0 H) (hS : va_S A s.heap H locs) (hsg : Sg W0 w w' W1) :
    (∀ q, va_A w H.size q → A q) ∧ va_P D vwCl w H ∧ ∀ U : State, U.heap = H → s.WarmedH U.vm → bP D cI cS g w H.size U := by
  have hF := hsg.F hD hS hA
  have hPc : va_P D vwCl w H := hsg.P hP
  refine ⟨hF, hPc, fun U hU hW => ⟨by rw [hU], by rw [hU]; exact hPc, va_K.moved hW.alike hK, (hsg.D hD).weaken (fun _ _ _ _ => trivial), by rw [hU]; exact hG.go hS hF hW⟩⟩
theorem cl_VI (S : CallFix p m c cc nL s args Ts own) (hM : mI l y ws rm D cI cS g (.ref b :: As) w r w') (cw : CallW R s args own C index y bytes maxL ret ws rm 0 0 n)
    (hK : va_K D vwCl (tI cI cS) s) (hD : va_D A W0) (hG : GG g A s s.heap) (hA : ∀ q : Nat, s.heap.size ≤ q → A q) (hP : va_P D vwCl W0 H) (hS : va_S A s.heap H locs) (hsg : Sg W0 w w' W1)
    (hsz : ls.size = nL) (hn : As.length = n) (q0 : Nat) {ci : Nat} {fs : List Value} {T : u_T} {N : Nat} (hrc : w[q0]? = some (b, .inr (ci, fs))) (hcl : vwCl[ci]? = some (C, T, N))
    (hst : st = As.reverse ++ .ref b :: rest) (hW : (rest.map fun v => v.category).sum ≤ 8) (hdg : decode cc pc = .ok (.invokevirtual index, 3))
    (kk : ∀ (H1 : Heap) (locs1 : List Loc), va_P D vwCl W1 H1 → va_S A s.heap H1 locs1 → W p l e R s m args below meth c H1 locs1 0 0 Q (F0 m (pc + 3) ls (.int r :: rest))) : W p l e R s m args below meth c H locs 0 0 Q (F0 m pc ls st) := by
  obtain ⟨hF, hPc, hB⟩ := cl_pre (w := w) hK hD hG hA hP hS hsg
  subst hst
  refine va_calli (va_runV (As := As) (rest := rest) S (hM H.size) cw ⟨bP_blind, va_recv hK hPc (ci := ci) (q0 := q0) hcl hrc, fun U hU hW => ⟨rfl, hB U hU hW⟩⟩ rfl hn hsz rfl (lv_room hW) hdg ⟨Nat.zero_le _, Nat.zero_le _⟩) hS (fun q _ h => hF q h) hF (fun r1 u t H1 locs1 ht hvm hw hb1 hz1 hk1 hS1 => ?_)
  subst hw
  rw [ht] at hb1
  exact kk H1 locs1 (hsg.put hP hD hk1 hb1) hS1
theorem cl_VV (S : CallFix p m c cc nL s args Ts own) (hM : mV l y ws rm D cI cS g (.ref b :: As) w w') (cw : CallW R s args own C index y bytes maxL ret ws rm 0 0 n)
    (hK : va_K D vwCl (tI cI cS) s) (hD : va_D A W0) (hG : GG g A s s.heap) (hA : ∀ q : Nat, s.heap.size ≤ q → A q) (hP : va_P D vwCl W0 H) (hS : va_S A s.heap H locs) (hsg : Sg W0 w w' W1)
    (hsz : ls.size = nL) (hn : As.length = n) (q0 : Nat) {ci : Nat} {fs : List Value} {T : u_T} {N : Nat} (hrc : w[q0]? = some (b, .inr (ci, fs))) (hcl : vwCl[ci]? = some (C, T, N))
    (hst : st = As.reverse ++ .ref b :: rest) (hW : (rest.map fun v => v.category).sum ≤ 8) (hdg : decode cc pc = .ok (.invokevirtual index, 3))
    (kk : ∀ (H1 : Heap) (locs1 : List Loc), va_P D vwCl W1 H1 → va_S A s.heap H1 locs1 → W p l e R s m args below meth c H1 locs1 0 0 Q (F0 m (pc + 3) ls (rest))) : W p l e R s m args below meth c H locs 0 0 Q (F0 m pc ls st) := by
  obtain ⟨hF, hPc, hB⟩ := cl_pre (w := w) hK hD hG hA hP hS hsg
  subst hst
  refine va_callv (va_runV (As := As) (rest := rest) S (hM H.size) cw ⟨bP_blind, va_recv hK hPc (ci := ci) (q0 := q0) hcl hrc, fun U hU hW => ⟨rfl, hB U hU hW⟩⟩ rfl hn hsz rfl (lv_room hW) hdg ⟨Nat.zero_le _, Nat.zero_le _⟩) hS (fun q _ h => hF q h) hF (fun u t H1 locs1 ht hvm hw hb1 hz1 hk1 hS1 => ?_)
  rw [ht] at hb1
  exact kk H1 locs1 (hsg.put hP hD hk1 hb1) hS1
theorem cl_VR {o : Option Nat} (S : CallFix p m c cc nL s args Ts own) (hM : mR l y ws rm D cI cS g (.ref b :: As) w o w') (cw : CallW R s args own C index y bytes maxL ret ws rm 0 0 n)
    (hK : va_K D vwCl (tI cI cS) s) (hD : va_D A W0) (hG : GG g A s s.heap) (hA : ∀ q : Nat, s.heap.size ≤ q → A q) (hP : va_P D vwCl W0 H) (hS : va_S A s.heap H locs) (hsg : Sg W0 w w' W1)
    (hsz : ls.size = nL) (hn : As.length = n) (q0 : Nat) {ci : Nat} {fs : List Value} {T : u_T} {N : Nat} (hrc : w[q0]? = some (b, .inr (ci, fs))) (hcl : vwCl[ci]? = some (C, T, N))
    (hst : st = As.reverse ++ .ref b :: rest) (hW : (rest.map fun v => v.category).sum ≤ 8) (hdg : decode cc pc = .ok (.invokevirtual index, 3))
    (kk : ∀ (H1 : Heap) (locs1 : List Loc), va_P D vwCl W1 H1 → va_S A s.heap H1 locs1 → W p l e R s m args below meth c H1 locs1 0 0 Q (F0 m (pc + 3) ls (va_rf o :: rest))) : W p l e R s m args below meth c H locs 0 0 Q (F0 m pc ls st) := by
  obtain ⟨hF, hPc, hB⟩ := cl_pre (w := w) hK hD hG hA hP hS hsg
  subst hst
  refine va_callq (va_runV (As := As) (rest := rest) S (hM H.size) cw ⟨bP_blind, va_recv hK hPc (ci := ci) (q0 := q0) hcl hrc, fun U hU hW => ⟨rfl, hB U hU hW⟩⟩ rfl hn hsz rfl (lv_room hW) hdg ⟨Nat.zero_le _, Nat.zero_le _⟩) hS (fun q _ h => hF q h) hF (fun r1 u t H1 locs1 ht hvm hw hb1 hz1 hk1 hS1 => ?_)
  subst hw
  rw [ht] at hb1
  exact kk H1 locs1 (hsg.put hP hD hk1 hb1) hS1
theorem cl_SI (S : CallFix p m c cc nL s args Ts own) (hM : mI l y ws rm D cI cS g As w r w') (cw : CallB R s args own index y bytes maxL ret ws rm 0 0 n ∧ (Cond.static y).before args s = true)
    (hK : va_K D vwCl (tI cI cS) s) (hD : va_D A W0) (hG : GG g A s s.heap) (hA : ∀ q : Nat, s.heap.size ≤ q → A q) (hP : va_P D vwCl W0 H) (hS : va_S A s.heap H locs) (hsg : Sg W0 w w' W1)
    (hsz : ls.size = nL) (hn : As.length = n) 
    (hst : st = As.reverse ++ rest) (hW : (rest.map fun v => v.category).sum ≤ 8) (hdg : decode cc pc = .ok (.invokestatic index, 3))
    (kk : ∀ (H1 : Heap) (locs1 : List Loc), va_P D vwCl W1 H1 → va_S A s.heap H1 locs1 → W p l e R s m args below meth c H1 locs1 0 0 Q (F0 m (pc + 3) ls (.int r :: rest))) : W p l e R s m args below meth c H locs 0 0 Q (F0 m pc ls st) := by
  obtain ⟨hF, hPc, hB⟩ := cl_pre (w := w) hK hD hG hA hP hS hsg
  subst hst
  refine va_calli (va_runS (As := As) (rest := rest) S (hM H.size) cw ⟨bP_blind, fun U hU hW => ⟨rfl, hB U hU hW⟩⟩ rfl hn hsz rfl (lv_room hW) hdg ⟨Nat.zero_le _, Nat.zero_le _⟩) hS (fun q _ h => hF q h) hF (fun r1 u t H1 locs1 ht hvm hw hb1 hz1 hk1 hS1 => ?_)
  subst hw
  rw [ht] at hb1
  exact kk H1 locs1 (hsg.put hP hD hk1 hb1) hS1
theorem cl_SNI {host : String} (S : CallFix p m c cc nL s args Ts own) (hM : mI l y ws rm D cI cS g As w r w') (cw : va_CN R s args own index y host bytes maxL ret ws rm 0 0 n ∧ (Cond.static y).before args s = true ∧ True)
    (hK : va_K D vwCl (tI cI cS) s) (hD : va_D A W0) (hG : GG g A s s.heap) (hA : ∀ q : Nat, s.heap.size ≤ q → A q) (hP : va_P D vwCl W0 H) (hS : va_S A s.heap H locs) (hsg : Sg W0 w w' W1)
    (hsz : ls.size = nL) (hn : As.length = n) 
    (hst : st = As.reverse ++ rest) (hW : (rest.map fun v => v.category).sum ≤ 8) (hdg : decode cc pc = .ok (.invokestatic index, 3))
    (kk : ∀ (H1 : Heap) (locs1 : List Loc), va_P D vwCl W1 H1 → va_S A s.heap H1 locs1 → W p l e R s m args below meth c H1 locs1 0 0 Q (F0 m (pc + 3) ls (.int r :: rest))) : W p l e R s m args below meth c H locs 0 0 Q (F0 m pc ls st) := by
  obtain ⟨hF, hPc, hB⟩ := cl_pre (w := w) hK hD hG hA hP hS hsg
  subst hst
  refine va_calli (va_runSN (As := As) (rest := rest) S (hM H.size) cw ⟨bP_blind, fun U hU hW => ⟨rfl, hB U hU hW⟩⟩ rfl hn hsz rfl (lv_room hW) hdg ⟨Nat.zero_le _, Nat.zero_le _⟩) hS (fun q _ h => hF q h) hF (fun r1 u t H1 locs1 ht hvm hw hb1 hz1 hk1 hS1 => ?_)
  subst hw
  rw [ht] at hb1
  exact kk H1 locs1 (hsg.put hP hD hk1 hb1) hS1
/-- a virtual call upon a receiver that is no cell of the world -/
theorem cl_KI (S : CallFix p m c cc nL s args Ts own) (hM : mI l y ws rm D cI cS g (.ref b :: As) [] r []) (cw : CallW R s args own C index y bytes maxL ret ws rm 0 0 n)
    (hK : va_K D vwCl (tI cI cS) s) (hD : va_D A W0) (hG : GG g A s s.heap) (hA : ∀ q : Nat, s.heap.size ≤ q → A q) (hP : va_P D vwCl W0 H) (hS : va_S A s.heap H locs)
    (hsz : ls.size = nL) (hn : As.length = n) (hrc : ∃ cell : Cell, H[b]? = some cell ∧ cell.vm.isStatics = false ∧ s.vm.findClass C = some cell.cls)
    (hst : st = As.reverse ++ .ref b :: rest) (hW : (rest.map fun v => v.category).sum ≤ 8) (hdg : decode cc pc = .ok (.invokevirtual index, 3))
    (kk : ∀ (H1 : Heap) (locs1 : List Loc), va_P D vwCl W0 H1 → va_S A s.heap H1 locs1 → W p l e R s m args below meth c H1 locs1 0 0 Q (F0 m (pc + 3) ls (.int r :: rest))) : W p l e R s m args below meth c H locs 0 0 Q (F0 m pc ls st) := by
  obtain ⟨hF, hPc, hB⟩ := cl_pre (w := []) hK hD hG hA hP hS sg_nil
  subst hst
  refine va_calli (va_runV (As := As) (rest := rest) S (hM H.size) cw ⟨bP_blind, hrc, fun U hU hW => ⟨rfl, hB U hU hW⟩⟩ rfl hn hsz rfl (lv_room hW) hdg ⟨Nat.zero_le _, Nat.zero_le _⟩) hS (fun q _ h => hF q h) hF (fun r1 u t H1 locs1 ht hvm hw hb1 hz1 hk1 hS1 => ?_)
  subst hw
  rw [ht] at hb1
  exact kk H1 locs1 (sg_nil.put hP hD hk1 hb1) hS1
theorem cl_SV (S : CallFix p m c cc nL s args Ts own) (hM : mV l y ws rm D cI cS g As [] []) (cw : CallB R s args own index y bytes maxL ret ws rm 0 0 n ∧ (Cond.static y).before args s = true)
    (hK : va_K D vwCl (tI cI cS) s) (hD : va_D A W0) (hG : GG g A s s.heap) (hA : ∀ q : Nat, s.heap.size ≤ q → A q) (hP : va_P D vwCl W0 H) (hS : va_S A s.heap H locs)
    (hsz : ls.size = nL) (hn : As.length = n) (hst : st = As.reverse ++ rest) (hW : (rest.map fun v => v.category).sum ≤ 8) (hdg : decode cc pc = .ok (.invokestatic index, 3))
    (kk : ∀ (H1 : Heap) (locs1 : List Loc), va_P D vwCl W0 H1 → va_S A s.heap H1 locs1 → W p l e R s m args below meth c H1 locs1 0 0 Q (F0 m (pc + 3) ls rest)) : W p l e R s m args below meth c H locs 0 0 Q (F0 m pc ls st) := by
  obtain ⟨hF, hPc, hB⟩ := cl_pre (w := []) hK hD hG hA hP hS sg_nil
  subst hst
  refine va_callv (va_runS (As := As) (rest := rest) S (hM H.size) cw ⟨bP_blind, fun U hU hW => ⟨rfl, hB U hU hW⟩⟩ rfl hn hsz rfl (lv_room hW) hdg ⟨Nat.zero_le _, Nat.zero_le _⟩) hS (fun q _ h => hF q h) hF (fun u t H1 locs1 ht hvm hw hb1 hz1 hk1 hS1 => ?_)
  rw [ht] at hb1
  exact kk H1 locs1 (sg_nil.put hP hD hk1 hb1) hS1
end CLS
abbrev jmax (x y : Int32) : Int32 := if x < y then y else x
abbrev jmin (x y : Int32) : Int32 := if y < x then y else x
abbrev jabs (x : Int32) : Int32 := if 0 ≤ x then x else 0 - x
def b2 {α β ρ : Type} (x : Option (α × β)) (k : α → β → Option ρ) : Option ρ := x.bind (fun q => k q.1 q.2)
theorem b2_use {α β ρ : Type} {x : Option (α × β)} {k : α → β → Option ρ} {o : ρ} (h : b2 x k = some o) : ∃ a b, x = some (a, b) ∧ k a b = some o := by
  obtain ⟨⟨a, b⟩, h1, h2⟩ := bd_use h
  exact ⟨a, b, h1, h2⟩
theorem sw_ne {x : Int32} {k : Int32} (h : ¬ x = k) : x.toInt ≠ k.toInt := fun e => h (Int32.toInt_inj.mp e)
theorem sw_out6 {x : Int32} (h0 : ¬ x = 0) (h1 : ¬ x = 1) (h2 : ¬ x = 2) (h3 : ¬ x = 3) (h4 : ¬ x = 4) (h5 : ¬ x = 5) : x.toInt < 0 ∨ 5 < x.toInt := by
  have a0 : x.toInt ≠ 0 := sw_ne h0
  have a1 : x.toInt ≠ 1 := sw_ne h1
  have a2 : x.toInt ≠ 2 := sw_ne h2
  have a3 : x.toInt ≠ 3 := sw_ne h3
  have a4 : x.toInt ≠ 4 := sw_ne h4
  have a5 : x.toInt ≠ 5 := sw_ne h5
  omega
theorem sw_out7 {x : Int32} (h0 : ¬ x = 0) (h1 : ¬ x = 1) (h2 : ¬ x = 2) (h3 : ¬ x = 3) (h4 : ¬ x = 4) (h5 : ¬ x = 5) (h6 : ¬ x = 6) : x.toInt < 0 ∨ 6 < x.toInt := by
  have := sw_out6 h0 h1 h2 h3 h4 h5
  have a6 : x.toInt ≠ 6 := sw_ne h6
  omega
theorem zb_use3 {ρ : Type} {v : Int32} {k : Option ρ} {o : ρ} (h : Zb v k = some o) : narrow .boolean (.int v) = .int v ∧ fits .boolean (.int v) = true ∧ k = some o := by
  unfold Zb at h
  by_cases c : v = 0 ∨ v = 1
  · rw [if_pos c] at h
    refine ⟨?_, ?_, h⟩
    · rcases c with rfl | rfl <;> rfl
    · rcases c with rfl | rfl <;> rfl
  · rw [if_neg c] at h; cases h
def Cp {ρ : Type} (f g : Nat → Int32) (n0 n1 : Nat) (n : Int32) (k : (Nat → Int32) → Option ρ) : Option ρ := if ¬ n < 0 ∧ n.toNatClampNeg ≤ n0 ∧ n.toNatClampNeg ≤ n1 then k (va_cpy f g (0 : Int32).toNatClampNeg (0 : Int32).toNatClampNeg n.toNatClampNeg) else none
theorem cp_use {ρ : Type} {f g : Nat → Int32} {n0 n1 : Nat} {n : Int32} {k : (Nat → Int32) → Option ρ} {o : ρ} (h : Cp f g n0 n1 n k = some o) : (¬ n < 0 ∧ (0 : Int32).toNatClampNeg + n.toNatClampNeg ≤ n0 ∧ (0 : Int32).toNatClampNeg + n.toNatClampNeg ≤ n1) ∧ k (va_cpy f g (0 : Int32).toNatClampNeg (0 : Int32).toNatClampNeg n.toNatClampNeg) = some o := by
  unfold Cp at h
  by_cases c : ¬ n < 0 ∧ n.toNatClampNeg ≤ n0 ∧ n.toNatClampNeg ≤ n1
  · rw [if_pos c] at h
    have e : (0 : Int32).toNatClampNeg = 0 := sb_cl0
    exact ⟨⟨c.1, by rw [e]; omega, by rw [e]; omega⟩, h⟩
  · rw [if_neg c] at h; cases h
-- words of BIG
theorem gdAll {ws : List Cond} (h : ∀ w ∈ ws, w ∈ BIG) : GoodIn BIG ws := fun w hw => ⟨h w hw, good_of_word (big_good w (h w hw))⟩
theorem gdV {own : String} {idx : Nat} {C : String} {y : MethodName} {c : ByteArray} {n : Nat} {ret : Option FieldType} (h1 : Cond.methodLink own idx y ∈ BIG) (h2 : Cond.instanceMethod y ∈ BIG) (h3 : Cond.selects C y y ∈ BIG) (h4 : Cond.initialized C ∈ BIG) (h5 : Cond.code y c n ret ∈ BIG) : GoodIn BIG (wsV own idx C y (Cond.code y c n ret :: BIG)) := by
  refine gdAll (fun w hw => ?_)
  unfold wsV at hw
  simp only [List.cons_append, List.nil_append, List.mem_cons] at hw
  rcases hw with rfl | rfl | rfl | rfl | rfl | h
  · exact h1
  · exact h2
  · exact h3
  · exact h4
  · exact h5
  · exact h
theorem gdS {own : String} {idx : Nat} {y : MethodName} {c : ByteArray} {n : Nat} {ret : Option FieldType} (h1 : Cond.methodLink own idx y ∈ BIG) (h2 : Cond.static y ∈ BIG) (h4 : Cond.initialized y.cls ∈ BIG) (h5 : Cond.code y c n ret ∈ BIG) : GoodIn BIG (va_wsS own idx y (Cond.code y c n ret :: BIG)) := by
  refine gdAll (fun w hw => ?_)
  unfold va_wsS at hw
  simp only [List.cons_append, List.nil_append, List.mem_cons] at hw
  rcases hw with rfl | rfl | rfl | rfl | h
  · exact h1
  · exact h2
  · exact h4
  · exact h5
  · exact h
theorem gdN {y : MethodName} {c : ByteArray} {n : Nat} {ret : Option FieldType} (h5 : Cond.code y c n ret ∈ BIG) : GoodIn BIG (Cond.code y c n ret :: BIG) := by
  refine gdAll (fun w hw => ?_)
  rcases List.mem_cons.mp hw with rfl | h
  · exact h5
  · exact h
theorem kin_of {C : String} {T : u_T} {N : Nat} (h : ∀ k, k < N → u_lay C T k ∈ BIG) : ∀ w ∈ u_ws C T N, w ∈ BIG := by
  intro w hw
  obtain ⟨k, hk, rfl⟩ := List.mem_map.mp hw
  exact h k (List.mem_range.mp hk)
theorem sw_lk2 {a o b q d : Int} {x A B : Int32} (ha : A.toInt = a) (hb : B.toInt = b) (h1 : ¬ x = A) (h2 : ¬ x = B) : Op.lookupswitch.offset [(a, o), (b, q)] d x.toInt = d := by
  have e1 : ¬ a = x.toInt := fun e => h1 (Int32.toInt_inj.mp (by rw [ha, e]))
  have e2 : ¬ b = x.toInt := fun e => h2 (Int32.toInt_inj.mp (by rw [hb, e]))
  rw [Op.lookupswitch.offset_cons, if_neg e1, Op.lookupswitch.offset_cons, if_neg e2, Op.lookupswitch.offset_nil]
theorem kin0 : ∀ w ∈ u_ws RX0 TX0 5, w ∈ BIG := kin_of (fun k hk => match k, hk with | 0, _ => bw1_140 | 1, _ => bw1_142 | 2, _ => bw1_144 | 3, _ => bw1_146 | 4, _ => bw1_148 | k + 5, h => absurd h (by omega))
theorem kin1 : ∀ w ∈ u_ws RX1 TX1 2, w ∈ BIG := kin_of (fun k hk => match k, hk with | 0, _ => bw1_178 | 1, _ => bw1_180 | k + 2, h => absurd h (by omega))
theorem kin2 : ∀ w ∈ u_ws RX2 TX2 3, w ∈ BIG := kin_of (fun k hk => match k, hk with | 0, _ => bw1_160 | 1, _ => bw1_162 | 2, _ => bw1_164 | k + 3, h => absurd h (by omega))
theorem kin3 : ∀ w ∈ u_ws RX3 TX3 6, w ∈ BIG := kin_of (fun k hk => match k, hk with | 0, _ => bw1_192 | 1, _ => bw1_194 | 2, _ => bw1_196 | 3, _ => bw1_198 | 4, _ => bw1_200 | 5, _ => bw1_202 | k + 6, h => absurd h (by omega))
theorem kin4 : ∀ w ∈ u_ws RX4 TX4 2, w ∈ BIG := kin_of (fun k hk => match k, hk with | 0, _ => bw1_113 | 1, _ => bw1_115 | k + 2, h => absurd h (by omega))
theorem kin5 : ∀ w ∈ u_ws RX5 TX5 3, w ∈ BIG := kin_of (fun k hk => match k, hk with | 0, _ => bw1_122 | 1, _ => bw1_124 | 2, _ => bw1_126 | k + 3, h => absurd h (by omega))
theorem kin6 : ∀ w ∈ u_ws RX6 TX6 4, w ∈ BIG := kin_of (fun k hk => match k, hk with | 0, _ => bw1_45 | 1, _ => bw1_47 | 2, _ => bw1_49 | 3, _ => bw1_51 | k + 4, h => absurd h (by omega))
theorem kin7 : ∀ w ∈ u_ws RX7 TX7 6, w ∈ BIG := kin_of (fun k hk => match k, hk with | 0, _ => bw1_89 | 1, _ => bw1_91 | 2, _ => bw1_93 | 3, _ => bw1_95 | 4, _ => bw1_97 | 5, _ => bw1_99 | k + 6, h => absurd h (by omega))
theorem kin8 : ∀ w ∈ u_ws RX8 TX8 6, w ∈ BIG := kin_of (fun k hk => match k, hk with | 0, _ => bw1_211 | 1, _ => bw1_213 | 2, _ => bw1_215 | 3, _ => bw1_217 | 4, _ => bw1_219 | 5, _ => bw1_221 | k + 6, h => absurd h (by omega))

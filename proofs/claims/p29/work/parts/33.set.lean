/-! Setting one number of a venue, on both sides. -/
def up1 {α : Type} (f : Int → α) (k : Int) (v : α) : Int → α := fun i => if i = k then v else f i
def up2 (f : Int → Int → Int) (r c v : Int) : Int → Int → Int := fun i k => if i = r ∧ k = c then v else f i k
def Ab.setR (A : Ab) (r c v : Int) : Ab := mkA (up2 A.R r c v) A.B A.V A.S A.rows A.F A.U A.nR A.nB A.nV A.t
def Ab.setB (A : Ab) (i c v : Int) : Ab := mkA A.R (up2 A.B i c v) A.V A.S A.rows A.F A.U A.nR A.nB A.nV A.t
def Ab.setV (A : Ab) (i c v : Int) : Ab := mkA A.R A.B (up2 A.V i c v) A.S A.rows A.F A.U A.nR A.nB A.nV A.t
def Ab.setS (A : Ab) (k v : Int) : Ab := mkA A.R A.B A.V (up1 A.S k v) A.rows A.F A.U A.nR A.nB A.nV A.t
def Ab.setL (A : Ab) (i : Int) (l : List Int) : Ab := mkA A.R A.B A.V A.S (up1 A.rows i l) A.F A.U A.nR A.nB A.nV A.t
def Ab.setF (A : Ab) (p v : Int) : Ab := mkA A.R A.B A.V A.S A.rows (up1 A.F p v) A.U A.nR A.nB A.nV A.t
def Ab.setU (A : Ab) (p v : Int) : Ab := mkA A.R A.B A.V A.S A.rows A.F (up1 A.U p v) A.nR A.nB A.nV A.t
def Ab.setT (A : Ab) (v : Int) : Ab := mkA A.R A.B A.V A.S A.rows A.F A.U A.nR A.nB A.nV (v)
theorem pj_setR_R (A : Ab) (r c v : Int) : (A.setR r c v).R = up2 A.R r c v := rfl
theorem pj_setR_B (A : Ab) (r c v : Int) : (A.setR r c v).B = A.B := rfl
theorem pj_setR_V (A : Ab) (r c v : Int) : (A.setR r c v).V = A.V := rfl
theorem pj_setR_S (A : Ab) (r c v : Int) : (A.setR r c v).S = A.S := rfl
theorem pj_setR_rows (A : Ab) (r c v : Int) : (A.setR r c v).rows = A.rows := rfl
theorem pj_setR_F (A : Ab) (r c v : Int) : (A.setR r c v).F = A.F := rfl
theorem pj_setR_U (A : Ab) (r c v : Int) : (A.setR r c v).U = A.U := rfl
theorem pj_setR_nR (A : Ab) (r c v : Int) : (A.setR r c v).nR = A.nR := rfl
theorem pj_setR_nB (A : Ab) (r c v : Int) : (A.setR r c v).nB = A.nB := rfl
theorem pj_setR_nV (A : Ab) (r c v : Int) : (A.setR r c v).nV = A.nV := rfl
theorem pj_setR_t (A : Ab) (r c v : Int) : (A.setR r c v).t = A.t := rfl
theorem pj_setB_R (A : Ab) (i c v : Int) : (A.setB i c v).R = A.R := rfl
theorem pj_setB_B (A : Ab) (i c v : Int) : (A.setB i c v).B = up2 A.B i c v := rfl
theorem pj_setB_V (A : Ab) (i c v : Int) : (A.setB i c v).V = A.V := rfl
theorem pj_setB_S (A : Ab) (i c v : Int) : (A.setB i c v).S = A.S := rfl
theorem pj_setB_rows (A : Ab) (i c v : Int) : (A.setB i c v).rows = A.rows := rfl
theorem pj_setB_F (A : Ab) (i c v : Int) : (A.setB i c v).F = A.F := rfl
theorem pj_setB_U (A : Ab) (i c v : Int) : (A.setB i c v).U = A.U := rfl
theorem pj_setB_nR (A : Ab) (i c v : Int) : (A.setB i c v).nR = A.nR := rfl
theorem pj_setB_nB (A : Ab) (i c v : Int) : (A.setB i c v).nB = A.nB := rfl
theorem pj_setB_nV (A : Ab) (i c v : Int) : (A.setB i c v).nV = A.nV := rfl
theorem pj_setB_t (A : Ab) (i c v : Int) : (A.setB i c v).t = A.t := rfl
theorem pj_setV_R (A : Ab) (i c v : Int) : (A.setV i c v).R = A.R := rfl
theorem pj_setV_B (A : Ab) (i c v : Int) : (A.setV i c v).B = A.B := rfl
theorem pj_setV_V (A : Ab) (i c v : Int) : (A.setV i c v).V = up2 A.V i c v := rfl
theorem pj_setV_S (A : Ab) (i c v : Int) : (A.setV i c v).S = A.S := rfl
theorem pj_setV_rows (A : Ab) (i c v : Int) : (A.setV i c v).rows = A.rows := rfl
theorem pj_setV_F (A : Ab) (i c v : Int) : (A.setV i c v).F = A.F := rfl
theorem pj_setV_U (A : Ab) (i c v : Int) : (A.setV i c v).U = A.U := rfl
theorem pj_setV_nR (A : Ab) (i c v : Int) : (A.setV i c v).nR = A.nR := rfl
theorem pj_setV_nB (A : Ab) (i c v : Int) : (A.setV i c v).nB = A.nB := rfl
theorem pj_setV_nV (A : Ab) (i c v : Int) : (A.setV i c v).nV = A.nV := rfl
theorem pj_setV_t (A : Ab) (i c v : Int) : (A.setV i c v).t = A.t := rfl
theorem pj_setS_R (A : Ab) (k v : Int) : (A.setS k v).R = A.R := rfl
theorem pj_setS_B (A : Ab) (k v : Int) : (A.setS k v).B = A.B := rfl
theorem pj_setS_V (A : Ab) (k v : Int) : (A.setS k v).V = A.V := rfl
theorem pj_setS_S (A : Ab) (k v : Int) : (A.setS k v).S = up1 A.S k v := rfl
theorem pj_setS_rows (A : Ab) (k v : Int) : (A.setS k v).rows = A.rows := rfl
theorem pj_setS_F (A : Ab) (k v : Int) : (A.setS k v).F = A.F := rfl
theorem pj_setS_U (A : Ab) (k v : Int) : (A.setS k v).U = A.U := rfl
theorem pj_setS_nR (A : Ab) (k v : Int) : (A.setS k v).nR = A.nR := rfl
theorem pj_setS_nB (A : Ab) (k v : Int) : (A.setS k v).nB = A.nB := rfl
theorem pj_setS_nV (A : Ab) (k v : Int) : (A.setS k v).nV = A.nV := rfl
theorem pj_setS_t (A : Ab) (k v : Int) : (A.setS k v).t = A.t := rfl
theorem pj_setL_R (A : Ab) (i : Int) (l : List Int) : (A.setL i l).R = A.R := rfl
theorem pj_setL_B (A : Ab) (i : Int) (l : List Int) : (A.setL i l).B = A.B := rfl
theorem pj_setL_V (A : Ab) (i : Int) (l : List Int) : (A.setL i l).V = A.V := rfl
theorem pj_setL_S (A : Ab) (i : Int) (l : List Int) : (A.setL i l).S = A.S := rfl
theorem pj_setL_rows (A : Ab) (i : Int) (l : List Int) : (A.setL i l).rows = up1 A.rows i l := rfl
theorem pj_setL_F (A : Ab) (i : Int) (l : List Int) : (A.setL i l).F = A.F := rfl
theorem pj_setL_U (A : Ab) (i : Int) (l : List Int) : (A.setL i l).U = A.U := rfl
theorem pj_setL_nR (A : Ab) (i : Int) (l : List Int) : (A.setL i l).nR = A.nR := rfl
theorem pj_setL_nB (A : Ab) (i : Int) (l : List Int) : (A.setL i l).nB = A.nB := rfl
theorem pj_setL_nV (A : Ab) (i : Int) (l : List Int) : (A.setL i l).nV = A.nV := rfl
theorem pj_setL_t (A : Ab) (i : Int) (l : List Int) : (A.setL i l).t = A.t := rfl
theorem pj_setF_R (A : Ab) (p v : Int) : (A.setF p v).R = A.R := rfl
theorem pj_setF_B (A : Ab) (p v : Int) : (A.setF p v).B = A.B := rfl
theorem pj_setF_V (A : Ab) (p v : Int) : (A.setF p v).V = A.V := rfl
theorem pj_setF_S (A : Ab) (p v : Int) : (A.setF p v).S = A.S := rfl
theorem pj_setF_rows (A : Ab) (p v : Int) : (A.setF p v).rows = A.rows := rfl
theorem pj_setF_F (A : Ab) (p v : Int) : (A.setF p v).F = up1 A.F p v := rfl
theorem pj_setF_U (A : Ab) (p v : Int) : (A.setF p v).U = A.U := rfl
theorem pj_setF_nR (A : Ab) (p v : Int) : (A.setF p v).nR = A.nR := rfl
theorem pj_setF_nB (A : Ab) (p v : Int) : (A.setF p v).nB = A.nB := rfl
theorem pj_setF_nV (A : Ab) (p v : Int) : (A.setF p v).nV = A.nV := rfl
theorem pj_setF_t (A : Ab) (p v : Int) : (A.setF p v).t = A.t := rfl
theorem pj_setU_R (A : Ab) (p v : Int) : (A.setU p v).R = A.R := rfl
theorem pj_setU_B (A : Ab) (p v : Int) : (A.setU p v).B = A.B := rfl
theorem pj_setU_V (A : Ab) (p v : Int) : (A.setU p v).V = A.V := rfl
theorem pj_setU_S (A : Ab) (p v : Int) : (A.setU p v).S = A.S := rfl
theorem pj_setU_rows (A : Ab) (p v : Int) : (A.setU p v).rows = A.rows := rfl
theorem pj_setU_F (A : Ab) (p v : Int) : (A.setU p v).F = A.F := rfl
theorem pj_setU_U (A : Ab) (p v : Int) : (A.setU p v).U = up1 A.U p v := rfl
theorem pj_setU_nR (A : Ab) (p v : Int) : (A.setU p v).nR = A.nR := rfl
theorem pj_setU_nB (A : Ab) (p v : Int) : (A.setU p v).nB = A.nB := rfl
theorem pj_setU_nV (A : Ab) (p v : Int) : (A.setU p v).nV = A.nV := rfl
theorem pj_setU_t (A : Ab) (p v : Int) : (A.setU p v).t = A.t := rfl
theorem pj_setT_R (A : Ab) (v : Int) : (A.setT v).R = A.R := rfl
theorem pj_setT_B (A : Ab) (v : Int) : (A.setT v).B = A.B := rfl
theorem pj_setT_V (A : Ab) (v : Int) : (A.setT v).V = A.V := rfl
theorem pj_setT_S (A : Ab) (v : Int) : (A.setT v).S = A.S := rfl
theorem pj_setT_rows (A : Ab) (v : Int) : (A.setT v).rows = A.rows := rfl
theorem pj_setT_F (A : Ab) (v : Int) : (A.setT v).F = A.F := rfl
theorem pj_setT_U (A : Ab) (v : Int) : (A.setT v).U = A.U := rfl
theorem pj_setT_nR (A : Ab) (v : Int) : (A.setT v).nR = A.nR := rfl
theorem pj_setT_nB (A : Ab) (v : Int) : (A.setT v).nB = A.nB := rfl
theorem pj_setT_nV (A : Ab) (v : Int) : (A.setT v).nV = A.nV := rfl
theorem pj_setT_t (A : Ab) (v : Int) : (A.setT v).t = v := rfl
theorem up1_s {α : Type} (f : Int → α) (k : Int) (v : α) : up1 f k v k = v := if_pos rfl
theorem up1_n {α : Type} (f : Int → α) {k i : Int} (v : α) (h : i < k ∨ k < i) : up1 f k v i = f i := if_neg (by omega)
theorem up2_s (f : Int → Int → Int) (r c v : Int) : up2 f r c v r c = v := if_pos ⟨rfl, rfl⟩
theorem up2_n (f : Int → Int → Int) {r c i k : Int} (v : Int) (h : (i < r ∨ r < i) ∨ (k < c ∨ c < k)) : up2 f r c v i k = f i k := if_neg (fun q => by omega)
theorem ud_n {f : Nat → Int32} {a b : Nat} {v : Int32} (h : b < a ∨ a < b) : upd f a v b = f b := if_neg (by omega)
theorem ud_s {f : Nat → Int32} {a : Nat} {v : Int32} : upd f a v a = v := if_pos rfl
theorem ud_e {f : Nat → Int32} {a b : Nat} {v : Int32} (h : b = a) : upd f a v b = v := if_pos h
-- the reference's row
theorem RepX.setR {V : Vn} {A : Ab} (h : RepX V A) {r c v : Int} (a1 : 0 ≤ r) (a2 : r < A.nR) (a3 : 0 ≤ c) (a4 : c < 11) : RepX ((V.1.1, upd V.1.2 (r * 11 + c).toNat (iI v)), V.2) (A.setR r c v) := by
  obtain ⟨h1, h2, h3, h4, h5, hR, hB, hV, hS, hP⟩ := h
  refine ⟨h1, h2, h3, h4, h5, fun x y q1 q2 q3 q4 => ?_, hB, hV, hS, hP⟩
  show upd V.1.2 (r * 11 + c).toNat (iI v) (x * 11 + y).toNat = iI (up2 A.R r c v x y)
  by_cases e : x = r ∧ y = c
  · obtain ⟨rfl, rfl⟩ := e
    rw [ud_s, up2_s]
  · rw [ud_n (by omega), hR x y q1 q2 q3 q4]
    exact congrArg iI (if_neg e).symm
theorem RepX.setB {V : Vn} {A : Ab} (h : RepX V A) {i c v : Int} (a1 : 0 ≤ i) (a2 : i < A.nB) (a3 : 0 ≤ c) (a4 : c < 10) (a5 : c ≠ 6) : RepX (V.1, (V.2.1.1, upd V.2.1.2 (i * 10 + c).toNat (iI v)), V.2.2) (A.setB i (clm c) v) := by
  obtain ⟨h1, h2, h3, h4, h5, hR, hB, hV, hS, hP⟩ := h
  refine ⟨h1, h2, h3, h4, h5, hR, fun x y q1 q2 q3 q4 q5 => ?_, hV, hS, hP⟩
  show upd V.2.1.2 (i * 10 + c).toNat (iI v) (x * 10 + y).toNat = iI (up2 A.B i (clm c) v x (clm y))
  have hc : clm y = clm c ↔ y = c := by unfold clm; split <;> split <;> omega
  by_cases e : x = i ∧ y = c
  · obtain ⟨rfl, rfl⟩ := e
    rw [ud_s, up2_s]
  · rw [ud_n (by omega), hB x y q1 q2 q3 q4 q5]
    exact congrArg iI (if_neg (fun q => e ⟨q.1, hc.mp q.2⟩)).symm
theorem RepX.setV {V : Vn} {A : Ab} (h : RepX V A) {i c v : Int} (a1 : 0 ≤ i) (a2 : i < A.nV) (a3 : 0 ≤ c) (a4 : c < 2) : RepX (V.1, V.2.1, (V.2.2.1.1, upd V.2.2.1.2 (i * 2 + c).toNat (iI v)), V.2.2.2) (A.setV i c v) := by
  obtain ⟨h1, h2, h3, h4, h5, hR, hB, hV, hS, hP⟩ := h
  refine ⟨h1, h2, h3, h4, h5, hR, hB, fun x y q1 q2 q3 q4 => ?_, hS, hP⟩
  show upd V.2.2.1.2 (i * 2 + c).toNat (iI v) (x * 2 + y).toNat = iI (up2 A.V i c v x y)
  by_cases e : x = i ∧ y = c
  · obtain ⟨rfl, rfl⟩ := e
    rw [ud_s, up2_s]
  · rw [ud_n (by omega), hV x y q1 q2 q3 q4]
    exact congrArg iI (if_neg e).symm
theorem RepX.setS {V : Vn} {A : Ab} (h : RepX V A) {k v : Int} (a1 : 0 ≤ k) (a2 : k < 5) : RepX (V.1, V.2.1, V.2.2.1, V.2.2.2.1, (V.2.2.2.2.1.1, upd V.2.2.2.2.1.2 (k * 1 + 0).toNat (iI v)), V.2.2.2.2.2) (A.setS k v) := by
  obtain ⟨h1, h2, h3, h4, h5, hR, hB, hV, hS, hP⟩ := h
  refine ⟨h1, h2, h3, h4, h5, hR, hB, hV, fun x q1 q2 => ?_, hP⟩
  show upd V.2.2.2.2.1.2 (k * 1 + 0).toNat (iI v) (x * 1 + 0).toNat = iI (up1 A.S k v x)
  by_cases e : x = k
  · subst e
    rw [ud_s, up1_s]
  · rw [ud_n (by omega), hS x q1 q2]
    exact congrArg iI (if_neg e).symm
theorem RepX.setT {V : Vn} {A : Ab} (h : RepX V A) {v : Int} : RepX (V.1, V.2.1, V.2.2.1, V.2.2.2.1, V.2.2.2.2.1, iI v) (A.setT v) := by
  obtain ⟨h1, h2, h3, h4, h5, hR, hB, hV, hS, hP⟩ := h
  exact ⟨h1, h2, h3, h4, rfl, hR, hB, hV, hS, hP⟩
theorem WF.mono {A : Ab} {K K' : Int} (h : WF K A) (h1 : K ≤ K') (h2 : K' ≤ 80000) : WF K' A := by
  obtain ⟨a, b, c, d, e, f⟩ := h
  refine ⟨by omega, b, fun r r1 r2 => ?_, d, fun v v1 v2 => ?_, f⟩
  · obtain ⟨c1, c2, c3, c4, c5⟩ := c r r1 r2
    refine ⟨c1, c2, c3, c4, fun k k1 k2 => ?_⟩
    have := c5 k k1 k2
    omega
  · have := e v v1 v2
    omega
theorem WF.l16 {A : Ab} {K : Int} (hW : WF K A) : A.nB ≤ 16 ∧ ∀ i : Int, 0 ≤ i → i < A.nB → len (A.rows i) ≤ 16 := ⟨hW.n.2.2.2.1, fun _ h1 h2 => (hW.ln h1 h2).2⟩

/-! Numbers: every Int32 is written iI of an Int; what the pure functions do with such. -/
abbrev iI (z : Int) : Int32 := Int32.ofInt z
theorem lit32 (n : Nat) : (no_index (OfNat.ofNat n : Int32)) = iI (OfNat.ofNat n) := (Int32.ofInt_eq_ofNat (n := n)).symm
theorem iA (a b : Int) : iI a + iI b = iI (a + b) := (Int32.ofInt_add a b).symm
theorem iS (a b : Int) : iI a - iI b = iI (a - b) := (Int32.ofInt_sub a b).symm
theorem iM (a b : Int) : iI a * iI b = iI (a * b) := (Int32.ofInt_mul a b).symm
theorem iN (a : Int) : -iI a = iI (-a) := (Int32.ofInt_neg a).symm
theorem iT {a : Int} (h1 : -2147483648 ≤ a) (h2 : a < 2147483648) : (iI a).toInt = a := Int32.toInt_ofInt_of_le h1 h2
theorem iX (x : Int32) : ∃ a : Int, x = iI a ∧ -2147483648 ≤ a ∧ a < 2147483648 := ⟨x.toInt, (Int32.ofInt_toInt x).symm, by have := Int32.minValue_le_toInt x; exact this, by have := Int32.toInt_lt x; omega⟩
theorem iLt {a b : Int} (h1 : -2147483648 ≤ a) (h2 : a < 2147483648) (h3 : -2147483648 ≤ b) (h4 : b < 2147483648) : (iI a < iI b) ↔ a < b := by
  rw [Int32.lt_iff_toInt_lt, iT h1 h2, iT h3 h4]
theorem iLe {a b : Int} (h1 : -2147483648 ≤ a) (h2 : a < 2147483648) (h3 : -2147483648 ≤ b) (h4 : b < 2147483648) : (iI a ≤ iI b) ↔ a ≤ b := by
  rw [Int32.le_iff_toInt_le, iT h1 h2, iT h3 h4]
theorem iE {a b : Int} (h1 : -2147483648 ≤ a) (h2 : a < 2147483648) (h3 : -2147483648 ≤ b) (h4 : b < 2147483648) : (iI a = iI b) ↔ a = b := by
  rw [← Int32.toInt_inj, iT h1 h2, iT h3 h4]
theorem iNat {a : Int} (h1 : 0 ≤ a) (h2 : a < 2147483648) : (iI a).toNatClampNeg = a.toNat := by
  show (iI a).toInt.toNat = a.toNat
  rw [iT (by omega) h2]
theorem iD {a b : Int} (h1 : 0 ≤ a) (h2 : a < 2147483648) (h3 : 0 < b) (h4 : b < 2147483648) : iI a / iI b = iI (a / b) := by
  rw [← Int32.toInt_inj, Int32.toInt_div_of_ne_right _ _ (fun e => by rw [← Int32.toInt_inj, iT (by omega) h4] at e; have : (-1 : Int32).toInt = -1 := by decide
                                                                      omega), iT (by omega) h2, iT (by omega) h4, Int.tdiv_eq_ediv_of_nonneg h1]
  have h5 : 0 ≤ a / b := Int.ediv_nonneg h1 (by omega)
  have h6 : a / b ≤ a := Int.ediv_le_self b h1
  rw [iT (by omega) (by omega)]
theorem nI_iI (n : Nat) : nI n = iI n := (Int32.ofInt_eq_ofNat (n := n)).symm
theorem jmaxI {a b : Int} (h1 : -2147483648 ≤ a) (h2 : a < 2147483648) (h3 : -2147483648 ≤ b) (h4 : b < 2147483648) : jmax (iI a) (iI b) = iI (max a b) := by
  unfold jmax
  by_cases h : a < b
  · rw [if_pos ((iLt h1 h2 h3 h4).mpr h), show max a b = b by omega]
  · rw [if_neg (fun q => h ((iLt h1 h2 h3 h4).mp q)), show max a b = a by omega]
theorem jminI {a b : Int} (h1 : -2147483648 ≤ a) (h2 : a < 2147483648) (h3 : -2147483648 ≤ b) (h4 : b < 2147483648) : jmin (iI a) (iI b) = iI (min a b) := by
  unfold jmin
  by_cases h : b < a
  · rw [if_pos ((iLt h3 h4 h1 h2).mpr h), show min a b = b by omega]
  · rw [if_neg (fun q => h ((iLt h3 h4 h1 h2).mp q)), show min a b = a by omega]
def iabs (a : Int) : Int := if 0 ≤ a then a else -a
theorem jabsI {a : Int} (h1 : -2147483647 ≤ a) (h2 : a < 2147483648) : jabs (iI a) = iI (iabs a) := by
  unfold jabs iabs
  have e : (0 : Int32) = iI 0 := rfl
  by_cases h : 0 ≤ a
  · rw [if_pos (by rw [e]; exact (iLe (by omega) (by omega) (by omega) h2).mpr h), if_pos h]
  · rw [if_neg (fun q => by rw [e] at q; exact h ((iLe (by omega) (by omega) (by omega) h2).mp q)), if_neg h, e, iS]
    congr 1
    omega
-- the pure functions' words
theorem nmD {α β : Type} (x : α) (k : α → β) : nm x k = k x := (rfl)
theorem b2S {α β ρ : Type} (a : α) (b : β) (k : α → β → Option ρ) : b2 (some (a, b)) k = k a b := (rfl)
theorem bdS {α ρ : Type} (a : α) (k : α → Option ρ) : (some a).bind k = k a := (rfl)
theorem RdI {ρ : Type} {f : Nat → Int32} {n : Nat} {a : Int} {k : Int32 → Option ρ} (h1 : 0 ≤ a) (h2 : a < n) (h3 : n < 2147483648) : Rd f n (iI a) k = k (f a.toNat) := by
  unfold Rd
  rw [iNat h1 (by omega), if_neg]
  rintro (h | h)
  · rw [show (0 : Int32) = iI 0 from rfl, iLt (by omega) (by omega) (by omega) (by omega)] at h
    omega
  · omega
theorem WrI {ρ : Type} {f : Nat → Int32} {n : Nat} {a : Int} {x : Int32} {k : (Nat → Int32) → Option ρ} (h1 : 0 ≤ a) (h2 : a < n) (h3 : n < 2147483648) : Wr f n (iI a) x k = k (upd f a.toNat x) := by
  unfold Wr
  rw [iNat h1 (by omega), if_neg]
  rintro (h | h)
  · rw [show (0 : Int32) = iI 0 from rfl, iLt (by omega) (by omega) (by omega) (by omega)] at h
    omega
  · omega
theorem DvI {ρ : Type} {a b : Int} {k : Int32 → Option ρ} (h1 : 0 ≤ a) (h2 : a < 2147483648) (h3 : 0 < b) (h4 : b < 2147483648) : Dv (iI a) (iI b) k = k (iI (a / b)) := by
  unfold Dv
  rw [if_neg, iD h1 h2 h3 h4]
  rw [show (0 : Int32) = iI 0 from rfl, iE (by omega) h4 (by omega) (by omega)]
  omega
def bI (p : Prop) [Decidable p] : Int32 := if p then iI 1 else iI 0
theorem bI0 (p : Prop) [Decidable p] : (bI p = iI 0) ↔ ¬ p := by
  unfold bI
  by_cases h : p
  · rw [if_pos h]; exact ⟨fun e => absurd e (by decide), fun e => absurd h e⟩
  · rw [if_neg h]; exact ⟨fun _ => h, fun _ => rfl⟩
theorem bIt {p : Prop} [Decidable p] (h : p) : bI p = iI 1 := if_pos h
theorem bIf {p : Prop} [Decidable p] (h : ¬ p) : bI p = iI 0 := if_neg h
theorem Zb0 {ρ : Type} (k : Option ρ) : Zb (iI 0) k = k := (rfl)
theorem Zb1 {ρ : Type} (k : Option ρ) : Zb (iI 1) k = k := (rfl)
theorem ZbI {ρ : Type} (p : Prop) [Decidable p] (k : Option ρ) : Zb (bI p) k = k := by
  by_cases h : p
  · rw [bIt h]; rfl
  · rw [bIf h]; rfl
theorem updI {f : Nat → Int32} {a b : Nat} {v : Int32} : upd f a v b = if b = a then v else f b := (rfl)
/-- a loop from i on, k times -/
def lp {α : Type} (f : Int → α → α) : Nat → Int → α → α
  | 0, _, a => a
  | k + 1, i, a => lp f k (i + 1) (f i a)
-- tests of the rows above
theorem t_num1 (x : Int) (h : 0 ≤ x) (h2 : x < 700) : (if (5 : Int32) ≤ iI x + 3 then (1 : Int) else 2) = if 5 ≤ x + 3 then 1 else 2 := by
  simp (disch := omega) only [lit32, iA, iLe]
theorem t_num2 (x y : Int) (f : Nat → Int32) (h : 0 ≤ x) (h2 : x < 16) : Rd f 1553 ((53 + (9 * iI x)) + 3) (fun v => some v) = some (f (53 + 9 * x + 3).toNat) := by
  simp (disch := omega) only [lit32, iA, iM, RdI]

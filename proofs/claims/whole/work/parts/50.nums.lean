-- NUMBERS: places as Nat, their Int32; loops
theorem jclamp {k : Nat} (h : k < 2147483648) : (Int32.ofNat k).toNatClampNeg = k := Int32.toNatClampNeg_ofNat_of_lt (by omega)
theorem jtoInt {k : Nat} (h : k < 2147483648) : (Int32.ofNat k).toInt = k := Int32.toInt_ofNat_of_lt (by omega)
theorem jnonneg {k : Nat} (h : k < 2147483648) : ¬ Int32.ofNat k < 0 := by
  rw [Int32.lt_iff_toInt_lt, jtoInt h]
  have : (0 : Int32).toInt = 0 := rfl
  rw [this]; omega
theorem jneg_f {k : Nat} (h : k < 2147483648) : (Int32.ofNat k < 0) = False := eq_false (jnonneg h)
theorem jout_f {k n : Nat} (h : k < n) (hn : n ≤ 2147483648) : jout (Int32.ofNat k) n = False := by
  apply eq_false
  rintro (h1 | h1)
  · exact jnonneg (by omega) h1
  · rw [jclamp (by omega)] at h1
    omega
theorem jsucc {k : Nat} : Int32.ofNat k + 1 = Int32.ofNat (k + 1) := by rw [Int32.ofNat_add]; rfl
theorem jofadd {a b : Nat} : Int32.ofNat a + Int32.ofNat b = Int32.ofNat (a + b) := (Int32.ofNat_add a b).symm
theorem jofmul {a b : Nat} : Int32.ofNat a * Int32.ofNat b = Int32.ofNat (a * b) := (Int32.ofNat_mul a b).symm
theorem jofmull {a b : Nat} : Int32.ofNat a * (no_index (OfNat.ofNat b)) = Int32.ofNat (a * b) := (Int32.ofNat_mul a b).symm
theorem jofmullr {a b : Nat} : (no_index (OfNat.ofNat b)) * Int32.ofNat a = Int32.ofNat (b * a) := (Int32.ofNat_mul b a).symm
theorem jofaddl {a b : Nat} : Int32.ofNat a + (no_index (OfNat.ofNat b)) = Int32.ofNat (a + b) := (Int32.ofNat_add a b).symm
theorem jltn {a b : Nat} (ha : a < 2147483648) (hb : b < 2147483648) : (Int32.ofNat a < Int32.ofNat b) = (a < b) := propext (Int32.ofNat_lt_iff_lt (by omega) (by omega))
theorem jlen {a b : Nat} (ha : a < 2147483648) (hb : b < 2147483648) : (Int32.ofNat a ≤ Int32.ofNat b) = (a ≤ b) := propext (Int32.ofNat_le_iff_le (by omega) (by omega))
theorem jltl {a b : Nat} (ha : a < 2147483648) (hb : b < 2147483648) : (Int32.ofNat a < (no_index (OfNat.ofNat b))) = (a < b) := jltn ha hb
theorem jltlr {a b : Nat} (ha : a < 2147483648) (hb : b < 2147483648) : ((no_index (OfNat.ofNat a)) < Int32.ofNat b) = (a < b) := jltn ha hb
theorem jeqn {a b : Nat} (ha : a < 2147483648) (hb : b < 2147483648) : (Int32.ofNat a = Int32.ofNat b) = (a = b) := by
  apply propext
  constructor
  · intro h
    have h2 := congrArg Int32.toInt h
    rw [jtoInt ha, jtoInt hb] at h2
    omega
  · intro h; rw [h]
theorem jeql {a b : Nat} (ha : a < 2147483648) (hb : b < 2147483648) : (Int32.ofNat a = (no_index (OfNat.ofNat b))) = (a = b) := jeqn ha hb
theorem jnot_one {a : Nat} (ha : a < 2147483648) : (Int32.ofNat a = -1) = False := by
  apply eq_false
  intro h
  have h2 := congrArg Int32.toInt h
  rw [jtoInt ha] at h2
  have : (-1 : Int32).toInt = -1 := rfl
  omega
theorem jofclamp {x : Int32} (h : ¬ x < 0) : Int32.ofNat x.toNatClampNeg = x := by
  apply Int32.ofNat_toNatClampNeg
  exact Int32.not_lt.mp h
/-- an int is below 0 or some number's -/
theorem jcases (x : Int32) : x < 0 ∨ ∃ k : Nat, k < 2147483648 ∧ x = Int32.ofNat k := by
  by_cases h : x < 0
  · exact Or.inl h
  · refine Or.inr ⟨x.toNatClampNeg, ?_, (jofclamp h).symm⟩
    have := Int32.toNatClampNeg_lt x
    omega
theorem jout_t {x : Int32} {n : Nat} (h : ¬ jout x n) : ∃ k : Nat, k < n ∧ x = Int32.ofNat k := by
  refine ⟨x.toNatClampNeg, ?_, (jofclamp (fun q => h (Or.inl q))).symm⟩
  apply Nat.lt_of_not_le
  intro q
  exact h (Or.inr q)
theorem jup_same {α : Type} {f : Nat → α} {k : Nat} {x : α} : jup f k x k = x := by simp [jup]
theorem jup_ne {α : Type} {f : Nat → α} {k j : Nat} {x : α} (h : j ≠ k) : jup f k x j = f j := by simp [jup, h]
theorem jup_jup {α : Type} {f : Nat → α} {k : Nat} {x y : α} : jup (jup f k x) k y = jup f k y := by
  funext j
  by_cases h : j = k <;> simp [jup, h]
theorem jup_self {α : Type} {f : Nat → α} {k : Nat} : jup f k (f k) = f := by
  funext j
  by_cases h : j = k
  · subst h; simp [jup]
  · simp [jup, h]
theorem jup_comm {α : Type} {f : Nat → α} {k l : Nat} {x y : α} (h : k ≠ l) : jup (jup f k x) l y = jup (jup f l y) k x := by
  funext j
  by_cases h1 : j = k
  · subst h1; simp [jup, h]
  · simp [jup, h1]
theorem jcpy_at {f g : Nat → Int32} {n i : Nat} (h : i < n) : jcpy f g 0 0 n i = f i := by
  unfold jcpy
  rw [if_pos (by omega)]
  congr 1
  omega
theorem jcpy_out {f g : Nat → Int32} {n i : Nat} (h : ¬ i < n) : jcpy f g 0 0 n i = g i := by
  unfold jcpy
  rw [if_neg (by omega)]
theorem jb10 {q : Prop} {_ : Decidable q} : ((if q then (1 : Int32) else 0) = 0) = ¬ q := by
  by_cases h : q <;> simp [h]
theorem jb01 {q : Prop} {_ : Decidable q} : ((if q then (0 : Int32) else 1) = 0) = q := by
  by_cases h : q <;> simp [h]
theorem jb11 {q : Prop} {_ : Decidable q} : ((if q then (1 : Int32) else 0) = 1) = q := by
  by_cases h : q <;> simp [h]
theorem jb1or {q : Prop} {_ : Decidable q} : (((if q then (1 : Int32) else 0) = 0) ∨ ((if q then (1 : Int32) else 0) = 1)) = True := by
  by_cases h : q <;> simp [h]

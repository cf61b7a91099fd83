-- KEEPING: the bits of twelve hours, counted
def jsw1 (x : Int32) : Int32 := x - (((Int32.toUInt32 x >>> (Int32.toUInt32 1 &&& Int32.toUInt32 31)).toInt32) &&& 1431655765)
def jsw2 (x : Int32) : Int32 := (x &&& 858993459) + (((Int32.toUInt32 x >>> (Int32.toUInt32 2 &&& Int32.toUInt32 31)).toInt32) &&& 858993459)
def jsw4 (x : Int32) : Int32 := (x + ((Int32.toUInt32 x >>> (Int32.toUInt32 4 &&& Int32.toUInt32 31)).toInt32)) &&& 252645135
def jsw8 (x : Int32) : Int32 := x + ((Int32.toUInt32 x >>> (Int32.toUInt32 8 &&& Int32.toUInt32 31)).toInt32)
def jsw16 (x : Int32) : Int32 := x + ((Int32.toUInt32 x >>> (Int32.toUInt32 16 &&& Int32.toUInt32 31)).toInt32)
/-- how many of the first twelve -/
def jpcn (k : Nat) : Nat → Nat
  | 0 => 0
  | n + 1 => jpcn k n + (if k.testBit n then 1 else 0)
theorem jpcn_le {k : Nat} : ∀ {n : Nat}, jpcn k n ≤ n
  | 0 => Nat.le_refl 0
  | n + 1 => by rw [jpcn]; have := jpcn_le (k := k) (n := n); split <;> omega
theorem jsw_pc : ∀ a, a < 64 → ∀ c, c < 64 → jsw16 (jsw8 (jsw4 (jsw2 (jsw1 (Int32.ofNat (64 * a + c)))))) &&& 63 = Int32.ofNat (jpcn (64 * a + c) 12) := by decide +kernel
theorem jpop_pc {k : Nat} (hk : k < 4096) : jpop (Int32.ofNat k) 30 = Int32.ofNat (jpcn k 12) := by
  have hst : ∀ n, n ≤ 12 → jpop (Int32.ofNat k) n = Int32.ofNat (jpcn k n) := by
    intro n
    induction n with
    | zero => intro _; rfl
    | succ n ih =>
      intro hn
      rw [jpop, jpcn, ih (by omega), jbit1 (by omega), bt_of (by omega)]
      cases k.testBit n
      · simp
      · simp only [if_true]; rw [jsucc]
  have hhi : ∀ n, n ≤ 18 → jpop (Int32.ofNat k) (12 + n) = Int32.ofNat (jpcn k 12) := by
    intro n
    induction n with
    | zero => intro _; exact hst 12 (Nat.le_refl 12)
    | succ n ih =>
      intro hn
      have hb : k.testBit (12 + n) = false := by
        apply Nat.testBit_lt_two_pow
        have : 2 ^ 12 ≤ 2 ^ (12 + n) := Nat.pow_le_pow_right (by omega) (by omega)
        omega
      rw [show 12 + (n + 1) = (12 + n) + 1 by omega, jpop, ih (by omega), jbit1 (by omega), bt_of (by omega), hb]
      simp
  exact hhi 18 (by omega)
theorem S_bitCount12 {D k : Nat} {f : Nat → Int32} {g : Nat → Nat → Int32} {n2 : Nat → Nat → Int64} {p : Nat → Nat → Int32} {pa : Nat → Nat → Nat → Int32} {s : Nat → Nat → Int32} {sa : Nat → Nat → Nat → Int32} {sw : Bool} {rp : Value} {t : List jE} {z : Nat × Nat × Nat × (Nat → Int32)} (hk : k < 4096) : K_j_bitCount D (Int32.ofNat k) f g n2 p pa s sa sw rp t z = some (.inl (some (.int (Int32.ofNat (jpcn k 12)))), (jX f g n2 p pa s sa sw rp t, z)) := by
  have h := jsw_pc (k / 64) (by omega) (k % 64) (by omega)
  rw [show 64 * (k / 64) + k % 64 = k by omega] at h
  rw [E_j_bitCount, ← h]
  rfl
theorem M_bits12 {D k : Nat} {cx : jCX} {f : Nat → Int32} {g : Nat → Nat → Int32} {n : Nat → Nat → Int64} {b : Nat → Nat → Int32} {l : Nat → Int64} {t : List jE} {z : Nat × Nat × Nat × (Nat → Int32)} (hk : k < 4096) : K_m_bitsOf D (Int32.ofNat k) cx f g n b l t z = some (.inl (some (.int (Int32.ofNat (jpcn k 12)))), (jXt cx (jY f g n b l t), z)) := by
  rw [M_bitsOf, jpop_pc hk]

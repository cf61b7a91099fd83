-- TOKENS: runs on the tape, packed letters
def jrn (P : Int32 → Bool) (v : Nat → Int32) (N : Nat) : Nat → Nat → Nat
  | 0, i => i
  | k + 1, i => if i < N ∧ P (v i) = true then jrn P v N k (i + 1) else i
theorem jrn_ge {P : Int32 → Bool} {v : Nat → Int32} {N : Nat} : ∀ {k i : Nat}, i ≤ jrn P v N k i
  | 0, i => Nat.le_refl i
  | k + 1, i => by
    rw [jrn]; split
    · exact Nat.le_trans (Nat.le_succ i) jrn_ge
    · exact Nat.le_refl i
theorem jrn_le {P : Int32 → Bool} {v : Nat → Int32} {N : Nat} : ∀ {k i : Nat}, i ≤ N → jrn P v N k i ≤ N
  | 0, i, h => h
  | k + 1, i, h => by
    rw [jrn]; split
    · rename_i hc; exact jrn_le (by omega)
    · exact h
theorem jrn_in {P : Int32 → Bool} {v : Nat → Int32} {N : Nat} : ∀ {k i j : Nat}, i ≤ j → j < jrn P v N k i → P (v j) = true
  | 0, i, j, h1, h2 => by rw [jrn] at h2; omega
  | k + 1, i, j, h1, h2 => by
    rw [jrn] at h2; split at h2
    · rename_i hc
      by_cases hij : j = i
      · subst hij; exact hc.2
      · exact jrn_in (i := i + 1) (k := k) (by omega) h2
    · omega
theorem jrn_out {P : Int32 → Bool} {v : Nat → Int32} {N : Nat} : ∀ {k i : Nat}, N - i ≤ k → jrn P v N k i < N → P (v (jrn P v N k i)) = false
  | 0, i, h1, h2 => by rw [jrn] at h2; omega
  | k + 1, i, h1, h2 => by
    rw [jrn] at h2 ⊢; split
    · rename_i hc
      rw [if_pos hc] at h2
      exact jrn_out (by omega) h2
    · rename_i hc
      rw [if_neg hc] at h2
      cases hp : P (v i)
      · rfl
      · exact absurd ⟨h2, hp⟩ hc
theorem jrn_congr {P : Int32 → Bool} {v v' : Nat → Int32} {N : Nat} (h : ∀ i, i < N → v' i = v i) : ∀ {k i : Nat}, jrn P v' N k i = jrn P v N k i
  | 0, i => rfl
  | k + 1, i => by
    rw [jrn, jrn, jrn_congr h]
    by_cases hi : i < N
    · rw [h i hi]
    · rw [if_neg (fun q => hi q.1), if_neg (fun q => hi q.1)]
def jblk (x : Int32) : Bool := decide (x = 10) || decide (x = 32)
def jlet (x : Int32) : Bool := !decide (x < 97) && !decide (122 < x)
def jdgt (x : Int32) : Bool := !decide (x < 48) && !decide (57 < x)
theorem jlet_b {b : Nat} (hb : b < 256) : jlet (Int32.ofNat b) = decide (97 ≤ b ∧ b ≤ 122) := by
  have h1 : (Int32.ofNat b < 97) = (b < 97) := jltn (b := 97) (by omega) (by omega)
  have h2 : ((122 : Int32) < Int32.ofNat b) = (122 < b) := jltn (a := 122) (by omega) (by omega)
  simp only [jlet, h1, h2]
  by_cases a1 : b < 97 <;> by_cases a2 : 122 < b <;> simp [a1, a2] <;> omega
theorem jdgt_b {b : Nat} (hb : b < 256) : jdgt (Int32.ofNat b) = decide (48 ≤ b ∧ b ≤ 57) := by
  have h1 : (Int32.ofNat b < 48) = (b < 48) := jltn (b := 48) (by omega) (by omega)
  have h2 : ((57 : Int32) < Int32.ofNat b) = (57 < b) := jltn (a := 57) (by omega) (by omega)
  simp only [jdgt, h1, h2]
  by_cases a1 : b < 48 <;> by_cases a2 : 57 < b <;> simp [a1, a2] <;> omega
theorem jor32 {a b : Nat} : Int32.ofNat a ||| Int32.ofNat b = Int32.ofNat (a ||| b) := by
  apply b_ext; intro i hi
  rw [b_or, bt_of hi, bt_of hi, bt_of hi, Nat.testBit_or]
theorem jshl32 {a s : Nat} (hs : s < 32) : Int32.ofNat a <<< (Int32.ofNat s &&& 31) = Int32.ofNat (a * 2 ^ s) := by
  apply b_ext; intro i hi
  rw [b_shl s hs _ hi, bt_of hi, ← Nat.shiftLeft_eq, Nat.testBit_shiftLeft]
  by_cases h : s ≤ i
  · rw [bt_of (by omega)]
  · simp [h]
/-- six letters, five bits each -/
def jlp (l : Nat → Nat) : Nat := l 0 * 33554432 + l 1 * 1048576 + l 2 * 32768 + l 3 * 1024 + l 4 * 32 + l 5
theorem jlp_inj {l l' : Nat → Nat} (h : ∀ j, j < 6 → l j < 32) (h' : ∀ j, j < 6 → l' j < 32) (e : jlp l = jlp l') : ∀ j, j < 6 → l j = l' j := by
  unfold jlp at e
  have a0 := h 0 (by omega); have a1 := h 1 (by omega); have a2 := h 2 (by omega); have a3 := h 3 (by omega); have a4 := h 4 (by omega); have a5 := h 5 (by omega)
  have b0 := h' 0 (by omega); have b1 := h' 1 (by omega); have b2 := h' 2 (by omega); have b3 := h' 3 (by omega); have b4 := h' 4 (by omega); have b5 := h' 5 (by omega)
  intro j hj
  rcases (show j = 0 ∨ j = 1 ∨ j = 2 ∨ j = 3 ∨ j = 4 ∨ j = 5 by omega) with rfl | rfl | rfl | rfl | rfl | rfl <;> omega
theorem jlp_lt {l : Nat → Nat} (h : ∀ j, j < 6 → l j < 32) : jlp l < 1073741824 := by
  unfold jlp
  have a0 := h 0 (by omega); have a1 := h 1 (by omega); have a2 := h 2 (by omega); have a3 := h 3 (by omega); have a4 := h 4 (by omega); have a5 := h 5 (by omega)
  omega
theorem jlp_congr {l l' : Nat → Nat} (h : ∀ j, j < 6 → l j = l' j) : jlp l = jlp l' := by
  unfold jlp; rw [h 0 (by omega), h 1 (by omega), h 2 (by omega), h 3 (by omega), h 4 (by omega), h 5 (by omega)]
theorem jorl {y b s : Nat} (hb : b < 2 ^ s) : (y * 2 ^ s) ||| b = y * 2 ^ s + b := by
  rw [Nat.mul_comm]; exact (Nat.two_pow_add_eq_or_of_lt hb y).symm
/-- the letters from a, m of them -/
def jlv (v : Nat → Int32) (a m j : Nat) : Nat := if j < m then (v (a + j)).toNatClampNeg - 96 else 0
/-- m letters from a, packed as the class does -/
def jpw (v : Nat → Int32) (a : Nat) : Nat → Int32
  | 0 => 0
  | m + 1 => if m < 6 then jpw v a m ||| (((v (a + m) - 97) + 1) <<< ((5 * (5 - Int32.ofNat m)) &&& 31)) else jpw v a m
theorem jlet1 {b : Nat} (h : 97 ≤ b) (hb : b < 256) : (Int32.ofNat b - 97) + 1 = Int32.ofNat (b - 96) := by
  rw [show (97 : Int32) = Int32.ofNat 97 from rfl, ← Int32.ofNat_sub b 97 h, jsucc]
  congr 1; omega
theorem jpw_eq {v : Nat → Int32} {a : Nat} : ∀ {m : Nat}, (∀ j, j < m → ∃ b, 97 ≤ b ∧ b ≤ 122 ∧ v (a + j) = Int32.ofNat b) → jpw v a m = Int32.ofNat (jlp (jlv v a m))
  | 0, _ => by
    rw [jpw]; unfold jlp jlv; simp
  | m + 1, h => by
    have ih := jpw_eq (v := v) (a := a) (m := m) (fun j hj => h j (by omega))
    have hl : ∀ j, j < m → jlv v a (m + 1) j = jlv v a m j := by
      intro j hj; unfold jlv; rw [if_pos hj, if_pos (by omega)]
    have hz : ∀ j, m ≤ j → jlv v a m j = 0 := by intro j hj; unfold jlv; rw [if_neg (by omega)]
    have hz1 : ∀ j, m + 1 ≤ j → jlv v a (m + 1) j = 0 := by intro j hj; unfold jlv; rw [if_neg (by omega)]
    obtain ⟨b, hb1, hb2, hb⟩ := h m (by omega)
    have hlm : jlv v a (m + 1) m = b - 96 := by unfold jlv; rw [if_pos (by omega), hb, jclamp (by omega)]
    have hlt : ∀ j, j < m → jlv v a m j < 32 := by
      intro j hj; obtain ⟨b', h1, h2, h3⟩ := h j (by omega)
      unfold jlv; rw [if_pos hj, h3, jclamp (by omega)]; omega
    rw [jpw, ih]
    by_cases hm : m < 6
    · rw [if_pos hm, hb, jlet1 hb1 (by omega)]
      rcases (show m = 0 ∨ m = 1 ∨ m = 2 ∨ m = 3 ∨ m = 4 ∨ m = 5 by omega) with rfl | rfl | rfl | rfl | rfl | rfl
      · rw [show (5 * (5 - Int32.ofNat 0) &&& 31 : Int32) = Int32.ofNat 25 &&& 31 by decide, jshl32 (by omega), jor32]
        apply congrArg Int32.ofNat
        unfold jlp
        rw [hlm, hz 0 (by omega), hz 1 (by omega), hz 2 (by omega), hz 3 (by omega), hz 4 (by omega), hz 5 (by omega), hz1 1 (by omega), hz1 2 (by omega), hz1 3 (by omega), hz1 4 (by omega), hz1 5 (by omega)]
        simp
      · rw [show (5 * (5 - Int32.ofNat 1) &&& 31 : Int32) = Int32.ofNat 20 &&& 31 by decide, jshl32 (by omega), jor32]
        apply congrArg Int32.ofNat
        unfold jlp
        rw [hlm, hl 0 (by omega), hz 1 (by omega), hz 2 (by omega), hz 3 (by omega), hz 4 (by omega), hz 5 (by omega), hz1 2 (by omega), hz1 3 (by omega), hz1 4 (by omega), hz1 5 (by omega)]
        have := jorl (y := jlv v a 1 0) (b := (b - 96) * 2 ^ 20) (s := 25) (by omega)
        rw [show jlv v a 1 0 * 2 ^ 25 = jlv v a 1 0 * 33554432 + 0 * 1048576 + 0 * 32768 + 0 * 1024 + 0 * 32 + 0 by omega] at this
        rw [this]
        omega
      · rw [show (5 * (5 - Int32.ofNat 2) &&& 31 : Int32) = Int32.ofNat 15 &&& 31 by decide, jshl32 (by omega), jor32]
        apply congrArg Int32.ofNat
        unfold jlp
        rw [hlm, hl 0 (by omega), hl 1 (by omega), hz 2 (by omega), hz 3 (by omega), hz 4 (by omega), hz 5 (by omega), hz1 3 (by omega), hz1 4 (by omega), hz1 5 (by omega)]
        have := jorl (y := jlv v a 2 0 * 32 + jlv v a 2 1) (b := (b - 96) * 2 ^ 15) (s := 20) (by omega)
        rw [show (jlv v a 2 0 * 32 + jlv v a 2 1) * 2 ^ 20 = jlv v a 2 0 * 33554432 + jlv v a 2 1 * 1048576 + 0 * 32768 + 0 * 1024 + 0 * 32 + 0 by omega] at this
        rw [this]
        omega
      · rw [show (5 * (5 - Int32.ofNat 3) &&& 31 : Int32) = Int32.ofNat 10 &&& 31 by decide, jshl32 (by omega), jor32]
        apply congrArg Int32.ofNat
        unfold jlp
        rw [hlm, hl 0 (by omega), hl 1 (by omega), hl 2 (by omega), hz 3 (by omega), hz 4 (by omega), hz 5 (by omega), hz1 4 (by omega), hz1 5 (by omega)]
        have := jorl (y := jlv v a 3 0 * 1024 + jlv v a 3 1 * 32 + jlv v a 3 2) (b := (b - 96) * 2 ^ 10) (s := 15) (by omega)
        rw [show (jlv v a 3 0 * 1024 + jlv v a 3 1 * 32 + jlv v a 3 2) * 2 ^ 15 = jlv v a 3 0 * 33554432 + jlv v a 3 1 * 1048576 + jlv v a 3 2 * 32768 + 0 * 1024 + 0 * 32 + 0 by omega] at this
        rw [this]
        omega
      · rw [show (5 * (5 - Int32.ofNat 4) &&& 31 : Int32) = Int32.ofNat 5 &&& 31 by decide, jshl32 (by omega), jor32]
        apply congrArg Int32.ofNat
        unfold jlp
        rw [hlm, hl 0 (by omega), hl 1 (by omega), hl 2 (by omega), hl 3 (by omega), hz 4 (by omega), hz 5 (by omega), hz1 5 (by omega)]
        have := jorl (y := jlv v a 4 0 * 32768 + jlv v a 4 1 * 1024 + jlv v a 4 2 * 32 + jlv v a 4 3) (b := (b - 96) * 2 ^ 5) (s := 10) (by omega)
        rw [show (jlv v a 4 0 * 32768 + jlv v a 4 1 * 1024 + jlv v a 4 2 * 32 + jlv v a 4 3) * 2 ^ 10 = jlv v a 4 0 * 33554432 + jlv v a 4 1 * 1048576 + jlv v a 4 2 * 32768 + jlv v a 4 3 * 1024 + 0 * 32 + 0 by omega] at this
        rw [this]
        omega
      · rw [show (5 * (5 - Int32.ofNat 5) &&& 31 : Int32) = Int32.ofNat 0 &&& 31 by decide, jshl32 (by omega), jor32]
        apply congrArg Int32.ofNat
        unfold jlp
        rw [hlm, hl 0 (by omega), hl 1 (by omega), hl 2 (by omega), hl 3 (by omega), hl 4 (by omega), hz 5 (by omega)]
        have := jorl (y := jlv v a 5 0 * 1048576 + jlv v a 5 1 * 32768 + jlv v a 5 2 * 1024 + jlv v a 5 3 * 32 + jlv v a 5 4) (b := (b - 96) * 2 ^ 0) (s := 5) (by omega)
        rw [show (jlv v a 5 0 * 1048576 + jlv v a 5 1 * 32768 + jlv v a 5 2 * 1024 + jlv v a 5 3 * 32 + jlv v a 5 4) * 2 ^ 5 = jlv v a 5 0 * 33554432 + jlv v a 5 1 * 1048576 + jlv v a 5 2 * 32768 + jlv v a 5 3 * 1024 + jlv v a 5 4 * 32 + 0 by omega] at this
        rw [this]
        omega
    · rw [if_neg hm]
      apply congrArg Int32.ofNat
      exact jlp_congr (fun j hj => (hl j (by omega)).symm)

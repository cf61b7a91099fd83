-- BITS (the first rows begun from the kit's family 'Int32 by its bits', given for pasting), sets of places as bits
def bt (x : Int32) (i : Nat) : Bool := x.toBitVec.getLsbD i
theorem b_ext {x y : Int32} (h : ∀ i, i < 32 → bt x i = bt y i) : x = y := Int32.toBitVec_inj.mp (BitVec.eq_of_getLsbD_eq (fun i hi => h i hi))
theorem b_or (x y : Int32) (i : Nat) : bt (x ||| y) i = (bt x i || bt y i) := by unfold bt; rw [Int32.toBitVec_or, BitVec.getLsbD_or]
theorem b_and (x y : Int32) (i : Nat) : bt (x &&& y) i = (bt x i && bt y i) := by unfold bt; rw [Int32.toBitVec_and, BitVec.getLsbD_and]
theorem b_xor (x y : Int32) (i : Nat) : bt (x ^^^ y) i = (bt x i ^^ bt y i) := by unfold bt; rw [Int32.toBitVec_xor, BitVec.getLsbD_xor]
theorem b_big {x : Int32} {i : Nat} (h : 32 ≤ i) : bt x i = false := BitVec.getLsbD_of_ge _ _ h
theorem b_m1 : ∀ i, i < 32 → bt (-1) i = true := by decide +kernel
theorem b_0 (i : Nat) : bt 0 i = false := BitVec.getLsbD_zero
theorem s_l : ∀ n, n < 32 → ((Int32.ofNat n &&& 31).toBitVec.smod 32).toNat = n := by decide +kernel
theorem b_shl (n : Nat) (hn : n < 32) (x : Int32) {i : Nat} (hi : i < 32) : bt (x <<< (Int32.ofNat n &&& 31)) i = (decide (n ≤ i) && bt x (i - n)) := by
  unfold bt
  rw [Int32.toBitVec_shiftLeft]
  show (x.toBitVec <<< ((Int32.ofNat n &&& 31).toBitVec.smod 32).toNat).getLsbD i = _
  rw [s_l n hn, BitVec.getLsbD_shiftLeft]
  rcases Nat.lt_or_ge i n with h | h
  · simp [h, Nat.not_le.mpr h]
  · simp [hi, h, Nat.not_lt.mpr h]
theorem b_sshr (n : Nat) (hn : n < 32) (x : Int32) {i : Nat} (hi : i < 32) : bt (x >>> (Int32.ofNat n &&& 31)) i = if n + i < 32 then bt x (n + i) else bt x 31 := by
  unfold bt
  rw [Int32.toBitVec_shiftRight]
  show (x.toBitVec.sshiftRight ((Int32.ofNat n &&& 31).toBitVec.smod 32).toNat).getLsbD i = _
  rw [s_l n hn, BitVec.getLsbD_sshiftRight, BitVec.msb_eq_getLsbD_last]
  simp [hi]
theorem b_not (x : Int32) {i : Nat} (hi : i < 32) : bt (~~~x) i = !bt x i := by unfold bt; rw [Int32.toBitVec_not, BitVec.getLsbD_not]; simp [hi]
theorem b_1 : ∀ i, i < 32 → bt 1 i = decide (i = 0) := by decide +kernel
theorem jbit1 {x : Int32} {c : Nat} (hc : c < 32) : ((x >>> (Int32.ofNat c &&& 31)) &&& 1) = if bt x c then 1 else 0 := by
  apply b_ext
  intro i hi
  rw [b_and, b_sshr c hc x hi, b_1 i hi]
  by_cases h0 : i = 0
  · subst h0
    rw [if_pos (by omega)]
    cases hb : bt x (c + 0) with
    | true => simp only [Nat.add_zero] at hb; simp [hb, b_1]
    | false => simp only [Nat.add_zero] at hb; simp [hb, b_0]
  · simp only [h0, decide_false, Bool.and_false]
    cases hb : bt x c with
    | true => simp [b_1 i hi, h0]
    | false => simp [b_0]
theorem jbit0 {x : Int32} {c : Nat} (hc : c < 32) : (((x >>> (Int32.ofNat c &&& 31)) &&& 1) = 0) = (bt x c = false) := by
  rw [jbit1 hc]
  cases bt x c <;> simp
theorem jbit10 {x : Int32} {c : Nat} (hc : c < 32) : (((x >>> (Int32.ofNat c &&& 31)) &&& 1) = 1) = (bt x c = true) := by
  rw [jbit1 hc]
  cases bt x c <;> simp
/-- the places below n that P takes, as bits -/
def jset (P : Nat → Bool) : Nat → Int32
  | 0 => 0
  | n + 1 => if P n then jset P n ||| (1 <<< (Int32.ofNat n &&& 31)) else jset P n
theorem b_one (c : Nat) (hc : c < 32) {i : Nat} (hi : i < 32) : bt ((1 : Int32) <<< (Int32.ofNat c &&& 31)) i = decide (i = c) := by
  rw [b_shl c hc 1 hi]
  by_cases h : c ≤ i
  · rw [b_1 (i - c) (by omega)]
    by_cases h2 : i = c
    · subst h2; simp
    · simp [h, h2]; omega
  · simp [h]; omega
theorem bt_jset {P : Nat → Bool} : ∀ {n : Nat}, n ≤ 32 → ∀ {i : Nat}, i < 32 → bt (jset P n) i = (decide (i < n) && P i)
  | 0, _, i, hi => by simp [jset, b_0]
  | n + 1, hn, i, hi => by
    unfold jset
    by_cases hp : P n = true
    · rw [if_pos hp, b_or, bt_jset (by omega) hi, b_one n (by omega) hi]
      by_cases h : i = n
      · subst h; simp [hp]
      · simp only [h, decide_false, Bool.or_false]
        by_cases h2 : i < n
        · simp [h2, show i < n + 1 by omega]
        · simp [h2, show ¬ i < n + 1 by omega]
    · rw [if_neg hp, bt_jset (by omega) hi]
      by_cases h : i = n
      · subst h
        have : P i = false := by simpa using hp
        simp [this]
      · by_cases h2 : i < n
        · simp [h2, show i < n + 1 by omega]
        · simp [h2, show ¬ i < n + 1 by omega]
theorem jset_congr {P Q : Nat → Bool} : ∀ {n : Nat}, (∀ i, i < n → P i = Q i) → jset P n = jset Q n
  | 0, _ => rfl
  | n + 1, h => by
    unfold jset
    rw [jset_congr (fun i hi => h i (by omega)), h n (by omega)]

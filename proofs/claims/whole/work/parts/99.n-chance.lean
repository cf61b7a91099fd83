-- CALL BY CALL: chance
def jlcg (v : Nat) : Nat := (v * 1103515245 + 12345) % 2147483648
theorem jlcg_lt {v : Nat} : jlcg v < 2147483648 := Nat.mod_lt _ (by omega)
theorem bt_of {v i : Nat} (hi : i < 32) : bt (Int32.ofNat v) i = v.testBit i := by
  unfold bt
  rw [show (Int32.ofNat v).toBitVec = BitVec.ofNat 32 v from rfl, BitVec.getLsbD_ofNat]
  simp [hi]
theorem jmask31 : ∀ i, i < 32 → bt 2147483647 i = decide (i < 31) := by decide +kernel
theorem jand31 {m : Nat} : Int32.ofNat m &&& 2147483647 = Int32.ofNat (m % 2147483648) := by
  apply b_ext
  intro i hi
  rw [b_and, bt_of hi, bt_of hi, jmask31 i hi, show (2147483648 : Nat) = 2 ^ 31 by decide, Nat.testBit_mod_two_pow]
  rw [Bool.and_comm]
theorem jlcg32 {v : Nat} : (((Int32.ofNat v * 1103515245) + 12345) &&& 2147483647) = Int32.ofNat (jlcg v) := by
  rw [jofmull, jofaddl, jand31]
  rfl
theorem jmask63 : ∀ i, i < 64 → (2147483647 : Int64).toBitVec.getLsbD i = decide (i < 31) := by decide +kernel
theorem jlcg64 {v : Nat} : (((Int64.ofNat v * 1103515245) + 12345) &&& 2147483647) = Int64.ofNat (jlcg v) := by
  have h1 : Int64.ofNat v * 1103515245 + 12345 = Int64.ofNat (v * 1103515245 + 12345) := by
    rw [Int64.ofNat_add, Int64.ofNat_mul]; rfl
  rw [h1]
  show Int64.ofNat (v * 1103515245 + 12345) &&& 2147483647 = Int64.ofNat ((v * 1103515245 + 12345) % 2147483648)
  generalize v * 1103515245 + 12345 = m
  apply Int64.toBitVec_inj.mp
  apply BitVec.eq_of_getLsbD_eq
  intro i hi
  rw [Int64.toBitVec_and, BitVec.getLsbD_and, jmask63 i hi, show (Int64.ofNat m).toBitVec = BitVec.ofNat 64 m from rfl, show (Int64.ofNat (m % 2147483648)).toBitVec = BitVec.ofNat 64 (m % 2147483648) from rfl, BitVec.getLsbD_ofNat, BitVec.getLsbD_ofNat, show (2147483648 : Nat) = 2 ^ 31 by decide, Nat.testBit_mod_two_pow]
  cases decide (i < 64) <;> simp [Bool.and_comm]
theorem jdraw32 {v : Nat} (hv : v < 2147483648) : (Int32.ofNat v >>> ((16 : Int32) &&& 31)) = Int32.ofNat (v / 65536) := by
  apply b_ext
  intro i hi
  rw [show (16 : Int32) = Int32.ofNat 16 from rfl, b_sshr 16 (by omega) _ hi]
  split
  · rw [bt_of (by omega), bt_of hi, show (65536 : Nat) = 2 ^ 16 by decide, Nat.testBit_div_two_pow, Nat.add_comm]
  · rw [bt_of (by omega), bt_of hi, show (65536 : Nat) = 2 ^ 16 by decide, Nat.testBit_div_two_pow]
    rw [Nat.testBit_lt_two_pow (show v < 2 ^ 31 by omega), Nat.testBit_lt_two_pow]
    have : 2 ^ 31 ≤ 2 ^ (i + 16) := Nat.pow_le_pow_right (by omega) (by omega)
    omega
theorem jmod10 {m : Nat} (hm : m < 2147483648) : Int32.ofNat m - Int32.ofNat m / 10 * 10 = Int32.ofNat (m % 10) := jofmod (b := 10) hm (by omega)
theorem jdraw64 {v : Nat} (hv : v < 2147483648) : ((Int64.ofNat v / 65536) - (Int64.ofNat v / 65536) / 10 * 10).toInt32 = Int32.ofNat (v / 65536 % 10) := by
  have hd : ∀ a b : Nat, a < 2147483648 → b < 2147483648 → Int64.ofNat a / Int64.ofNat b = Int64.ofNat (a / b) := by
    intro a b ha hb
    apply Int64.toInt_inj.mp
    have hd : a / b ≤ a := Nat.div_le_self a b
    rw [Int64.toInt_div, Int64.toInt_ofNat_of_lt (by omega), Int64.toInt_ofNat_of_lt (by omega), Int64.toInt_ofNat_of_lt (by omega), ← Int.ofNat_tdiv]
    apply Int.bmod_eq_of_le
    · have : (0 : Int) ≤ ((a / b : Nat) : Int) := Int.natCast_nonneg _
      omega
    · have : ((a / b : Nat) : Int) ≤ (a : Int) := by exact_mod_cast hd
      omega
  have h1 : v / 65536 ≤ v := Nat.div_le_self _ _
  have h2 : v / 65536 / 10 * 10 ≤ v / 65536 := Nat.div_mul_le_self _ _
  rw [show (65536 : Int64) = Int64.ofNat 65536 from rfl, show (10 : Int64) = Int64.ofNat 10 from rfl, hd v 65536 hv (by omega), hd _ 10 (by omega) (by omega), ← Int64.ofNat_mul, ← Int64.ofNat_sub _ _ h2]
  have h3 : v / 65536 - v / 65536 / 10 * 10 = v / 65536 % 10 := by omega
  rw [h3]
  have h4 : v / 65536 % 10 < 10 := Nat.mod_lt _ (by omega)
  generalize v / 65536 % 10 = k at h4
  apply Int32.toInt_inj.mp
  rw [Int64.toInt_toInt32, Int64.toInt_ofNat_of_lt (by omega), jtoInt (by omega)]
  apply Int.bmod_eq_of_le <;> omega
theorem jto64 {v : Nat} (hv : v < 2147483648) : (Int32.ofNat v).toInt64 = Int64.ofNat v := by
  apply Int64.toInt_inj.mp
  rw [Int32.toInt_toInt64, jtoInt hv, Int64.toInt_ofNat_of_lt (by omega)]
def jseed (v : Nat) : Nat → Nat
  | 0 => v
  | k + 1 => jlcg (jseed v k)
theorem jseed_lt {v : Nat} (hv : v < 2147483648) : ∀ {k : Nat}, jseed v k < 2147483648
  | 0 => hv
  | _ + 1 => jlcg_lt
def jdw (v k : Nat) : Int32 := Int32.ofNat (jseed v (k + 1) / 65536 % 10)
def jdrw (v : Nat) (W : Nat → Int32) : Nat → Nat → Int32
  | 0 => W
  | k + 1 => jup (jdrw v W k) k (jdw v k)
theorem jdrw_at {v : Nat} {W : Nat → Int32} : ∀ {n k : Nat}, k < n → jdrw v W n k = jdw v k
  | 0, k, h => absurd h (by omega)
  | n + 1, k, h => by
    unfold jdrw
    by_cases hk : k = n
    · subst hk; rw [jup_same]
    · rw [jup_ne hk]; exact jdrw_at (by omega)
/-- one round of chance: the seed, what was drawn, the state tried, the count -/
abbrev jRd : Type := Nat × (Nat → Int32) × jS × Nat
def jrd (f1 q : Nat → Int32) (qa : Nat → Nat → Int32) (C Sc : Nat) (S : jS) (n L : Nat) (lim : Int32) (x : jRd) : jRd :=
  let W' := jdrw x.1 x.2.1 n
  let r' := cN f1 W' q qa C Sc (jtry x.2.2.1 S) L
  ⟨jseed x.1 n, W', r', if r'.1 3 < lim then x.2.2.2 else x.2.2.2 + 1⟩
def jrds (f1 q : Nat → Int32) (qa : Nat → Nat → Int32) (C Sc : Nat) (S : jS) (n L : Nat) (lim : Int32) (x : jRd) : Nat → jRd
  | 0 => x
  | k + 1 => jrd f1 q qa C Sc S n L lim (jrds f1 q qa C Sc S n L lim x k)
theorem jrds_v {f1 q : Nat → Int32} {qa : Nat → Nat → Int32} {C Sc : Nat} {S : jS} {n L : Nat} {lim : Int32} {x : jRd} (hv : x.1 < 2147483648) : ∀ {k : Nat}, (jrds f1 q qa C Sc S n L lim x k).1 < 2147483648
  | 0 => hv
  | k + 1 => jseed_lt (jrds_v (k := k) hv)
theorem S_chance_39 {D n : Nat} {x : jRd} {lim x7 x8 : Int32} {d1 : Option Value} {f : Nat → Int32} {g : Nat → Nat → Int32} {n2 : Nat → Nat → Int64} {p : Nat → Nat → Int32} {pa : Nat → Nat → Nat → Int32} {s : Nat → Nat → Int32} {sa : Nat → Nat → Nat → Int32} {sw : Bool} {rp : Value} {t : List jE} {z : Nat × Nat × Nat × (Nat → Int32)} (hv : x.1 < 2147483648) (hn : n ≤ 9) (hW : g 2 = x.2.1) :
    K_c_chance_39 D d1 (Int32.ofNat n) lim (Int64.ofNat x.1) x7 x8 0 f g n2 p pa s sa sw rp t z = K_c_chance_39 D d1 (Int32.ofNat n) lim (Int64.ofNat (jseed x.1 n)) x7 x8 (Int32.ofNat n) f (jup g 2 (jdrw x.1 x.2.1 n)) n2 p pa s sa sw rp t z := by
  have key : ∀ k, k ≤ n → K_c_chance_39 D d1 (Int32.ofNat n) lim (Int64.ofNat x.1) x7 x8 0 f g n2 p pa s sa sw rp t z = K_c_chance_39 D d1 (Int32.ofNat n) lim (Int64.ofNat (jseed x.1 k)) x7 x8 (Int32.ofNat k) f (jup g 2 (jdrw x.1 x.2.1 k)) n2 p pa s sa sw rp t z := by
    intro k
    induction k with
    | zero => intro _; rw [show jdrw x.1 x.2.1 0 = g 2 from hW.symm, jup_self]; rfl
    | succ k ih =>
      intro hk
      rw [ih (by omega), L_c_chance_39, if_pos (jlt_t (by omega) (by omega))]
      simp (disch := omega) only [jout_f, if_false, jclamp, jlcg64, jsucc, jup_same, jup_jup]
      rw [jdraw64 jlcg_lt]
      rfl
  exact key n (Nat.le_refl n)
theorem S_chance_34 {D T n : Nat} {C Sc : Nat} {x : jRd} {lim : Int32} {d1 d9 : Option Value} {f : Nat → Int32} {g : Nat → Nat → Int32} {n2 : Nat → Nat → Int64} {p : Nat → Nat → Int32} {pa : Nat → Nat → Nat → Int32} {s : Nat → Nat → Int32} {sa : Nat → Nat → Nat → Int32} {sw : Bool} {rp : Value} {t : List jE} {z : Nat × Nat × Nat × (Nat → Int32)} (hv : x.1 < 2147483648) (hn1 : 1 ≤ n) (hn : n ≤ 9) (hW : g 2 = x.2.1) (hx : x.2.2.1 = (s 2, sa 2)) (hc : x.2.2.2 = 0) (hT : jtm (s 0, sa 0) T) (hPl : jPl (p (jq sw)) (pa (jq sw)) C Sc) (hm : f 15 < 0) :
    ∃ n2' d9', K_c_chance_34 D d1 (Int32.ofNat n) lim (Int64.ofNat x.1) 0 0 d9 f g n2 p pa s sa sw rp t z = K_c_chance_34 D d1 (Int32.ofNat n) lim (Int64.ofNat (jrds f (p (jq sw)) (pa (jq sw)) C Sc (s 0, sa 0) n ((n + 1) * 12 - T % 12) lim x 10).1) (Int32.ofNat (jrds f (p (jq sw)) (pa (jq sw)) C Sc (s 0, sa 0) n ((n + 1) * 12 - T % 12) lim x 10).2.2.2) (Int32.ofNat 10) d9' f (jup g 2 (jrds f (p (jq sw)) (pa (jq sw)) C Sc (s 0, sa 0) n ((n + 1) * 12 - T % 12) lim x 10).2.1) n2' p pa (jup s 2 (jrds f (p (jq sw)) (pa (jq sw)) C Sc (s 0, sa 0) n ((n + 1) * 12 - T % 12) lim x 10).2.2.1.1) (jup sa 2 (jrds f (p (jq sw)) (pa (jq sw)) C Sc (s 0, sa 0) n ((n + 1) * 12 - T % 12) lim x 10).2.2.1.2) sw rp t z := by
  have key : ∀ k, k ≤ 10 → ∃ n2' d9', K_c_chance_34 D d1 (Int32.ofNat n) lim (Int64.ofNat x.1) 0 0 d9 f g n2 p pa s sa sw rp t z = K_c_chance_34 D d1 (Int32.ofNat n) lim (Int64.ofNat (jrds f (p (jq sw)) (pa (jq sw)) C Sc (s 0, sa 0) n ((n + 1) * 12 - T % 12) lim x k).1) (Int32.ofNat (jrds f (p (jq sw)) (pa (jq sw)) C Sc (s 0, sa 0) n ((n + 1) * 12 - T % 12) lim x k).2.2.2) (Int32.ofNat k) d9' f (jup g 2 (jrds f (p (jq sw)) (pa (jq sw)) C Sc (s 0, sa 0) n ((n + 1) * 12 - T % 12) lim x k).2.1) n2' p pa (jup s 2 (jrds f (p (jq sw)) (pa (jq sw)) C Sc (s 0, sa 0) n ((n + 1) * 12 - T % 12) lim x k).2.2.1.1) (jup sa 2 (jrds f (p (jq sw)) (pa (jq sw)) C Sc (s 0, sa 0) n ((n + 1) * 12 - T % 12) lim x k).2.2.1.2) sw rp t z := by
    intro k
    induction k with
    | zero =>
      intro _
      refine ⟨n2, d9, ?_⟩
      simp only [jrds, hc, hx, ← hW, jup_self]
      rfl
    | succ k ih =>
      intro hk
      obtain ⟨n2', d9', he⟩ := ih (by omega)
      generalize hX : jrds f (p (jq sw)) (pa (jq sw)) C Sc (s 0, sa 0) n ((n + 1) * 12 - T % 12) lim x k = X at he
      have hXv : X.1 < 2147483648 := by rw [← hX]; exact jrds_v hv
      have hnext : jrds f (p (jq sw)) (pa (jq sw)) C Sc (s 0, sa 0) n ((n + 1) * 12 - T % 12) lim x (k + 1) = jrd f (p (jq sw)) (pa (jq sw)) C Sc (s 0, sa 0) n ((n + 1) * 12 - T % 12) lim X := by rw [← hX]; rfl
      rw [hnext]
      generalize hTS : jtry X.2.2.1 (s 0, sa 0) = TS
      have hT' : jtm TS T := by rw [← hTS]; exact jtry_tm hT
      obtain ⟨n3, hcl⟩ := S_h_passDays (D := D) (j := 2) (T := T) (nd := n + 1) (f := f) (g := jup g 2 (jdrw X.1 X.2.1 n)) (n2 := n2') (p := p) (pa := pa) (s := jup s 2 TS.1) (sa := jup sa 2 TS.2) (sw := sw) (rp := rp) (t := t) (z := z) (by omega) (by rw [jup_same, jup_same]; exact hT') hPl hm (by omega) (by omega)
      rw [jup_same, jup_same, jup_same, jup_jup, jup_jup, show ((TS.1, TS.2) : jS) = TS from rfl] at hcl
      have hf2 : K_s_follow20 D f (jup g 2 (jdrw X.1 X.2.1 n)) n2' p pa (jup s 2 X.2.2.1.1) (jup sa 2 X.2.2.1.2) sw rp t z = some (.inl none, (jX f (jup g 2 (jdrw X.1 X.2.1 n)) n2' p pa (jup s 2 (jtry X.2.2.1 (s 0, sa 0)).1) (jup sa 2 (jtry X.2.2.1 (s 0, sa 0)).2) sw rp t, z)) := by
        rw [S_s_follow20]
        simp (disch := omega) only [jup_same, jup_jup, jup_ne]
      rw [hTS] at hf2
      refine ⟨n3, some (.int (Int32.ofNat n)), ?_⟩
      have hlt : Int32.ofNat k < 10 := jlt_t (b := 10) (by omega) (by omega)
      rw [he, L_c_chance_34, if_pos hlt, S_chance_39 hXv hn jup_same, L_c_chance_39, if_neg (jlt_n (by omega) (by omega)), jup_jup, hf2]
      have hjr : jrd f (p (jq sw)) (pa (jq sw)) C Sc (s 0, sa 0) n ((n + 1) * 12 - T % 12) lim X = (jseed X.1 n, jdrw X.1 X.2.1 n, cN f (jdrw X.1 X.2.1 n) (p (jq sw)) (pa (jq sw)) C Sc TS ((n + 1) * 12 - T % 12), if (cN f (jdrw X.1 X.2.1 n) (p (jq sw)) (pa (jq sw)) C Sc TS ((n + 1) * 12 - T % 12)).1 3 < lim then X.2.2.2 else X.2.2.2 + 1) := by
        unfold jrd; dsimp only; rw [hTS]
      rw [hjr]
      generalize cN f (jdrw X.1 X.2.1 n) (p (jq sw)) (pa (jq sw)) C Sc TS ((n + 1) * 12 - T % 12) = RES at hcl
      simp only [jbO_some, jbO_none, jbO_ite, jk_some, jk_none, E_c_chance_67, jsucc, hcl, E_c_chance_75, jup_same, E_c_chance_81]
      split <;> rfl
  exact key 10 (Nat.le_refl 10)

-- CALL BY CALL: share
def jnsum (v : Nat → Nat) : Nat → Nat
  | 0 => 0
  | n + 1 => jnsum v n + v n
def jcnt (P : Nat → Bool) : Nat → Nat
  | 0 => 0
  | n + 1 => jcnt P n + (if P n then 1 else 0)
theorem jcnt_le {P : Nat → Bool} : ∀ {n : Nat}, jcnt P n ≤ n
  | 0 => Nat.le_refl 0
  | n + 1 => by have := jcnt_le (P := P) (n := n); unfold jcnt; split <;> omega
theorem jcnt_0 {P : Nat → Bool} : ∀ {n : Nat}, (∀ k, k < n → P k = false) → jcnt P n = 0
  | 0, _ => rfl
  | n + 1, h => by unfold jcnt; rw [jcnt_0 (fun k hk => h k (by omega)), h n (by omega)]; rfl
theorem jcnt_congr {P Q : Nat → Bool} : ∀ {n : Nat}, (∀ k, k < n → P k = Q k) → jcnt P n = jcnt Q n
  | 0, _ => rfl
  | n + 1, h => by unfold jcnt; rw [jcnt_congr (fun k hk => h k (by omega)), h n (by omega)]
theorem jcnt_rm {P Q : Nat → Bool} {x : Nat} : ∀ {n : Nat}, x < n → P x = true → Q x = false → (∀ k, k < n → k ≠ x → P k = Q k) → jcnt P n = jcnt Q n + 1
  | 0, h, _, _, _ => absurd h (by omega)
  | n + 1, h, h1, h2, h3 => by
    unfold jcnt
    by_cases hx : x = n
    · subst hx
      rw [jcnt_congr (fun k hk => h3 k (by omega) (by omega)), h1, h2]; rfl
    · rw [jcnt_rm (n := n) (by omega) h1 h2 (fun k hk hk2 => h3 k (by omega) hk2), h3 n (by omega) (by omega)]
      omega
theorem jcnt_ex {P : Nat → Bool} : ∀ {n : Nat}, 1 ≤ jcnt P n → ∃ k, k < n ∧ P k = true
  | 0, h => absurd h (by unfold jcnt; omega)
  | n + 1, h => by
    by_cases hp : P n = true
    · exact ⟨n, by omega, hp⟩
    · unfold jcnt at h
      rw [if_neg hp] at h
      obtain ⟨k, hk, hk2⟩ := jcnt_ex (n := n) (by omega)
      exact ⟨k, by omega, hk2⟩
def jahead (r : Nat → Nat) (i k : Nat) : Bool := decide (r i < r k) || (decide (r k = r i) && decide (k < i))
theorem jcnt_true : ∀ {n : Nat}, jcnt (fun _ => true) n = n
  | 0 => rfl
  | n + 1 => by unfold jcnt; rw [jcnt_true]; rfl
theorem jofmod {a b : Nat} (ha : a < 2147483648) (hb : b < 2147483648) : Int32.ofNat a - Int32.ofNat a / Int32.ofNat b * Int32.ofNat b = Int32.ofNat (a % b) := by
  have h1 : a / b * b ≤ a := Nat.div_mul_le_self a b
  rw [jofdiv ha hb, jofmul, ← Int32.ofNat_sub _ _ h1]
  congr 1
  have := Nat.div_add_mod a b
  rw [Nat.mul_comm] at this
  omega
theorem jshare_left {w : Nat → Nat} {a tot : Nat} : ∀ {n : Nat}, jnsum (fun k => a * w k / tot) n * tot + jnsum (fun k => a * w k % tot) n = a * jnsum w n
  | 0 => by simp [jnsum]
  | n + 1 => by
    have ih := jshare_left (w := w) (a := a) (tot := tot) (n := n)
    unfold jnsum
    have h1 := Nat.div_add_mod (a * w n) tot
    rw [Nat.add_mul, Nat.mul_add, ← ih]
    rw [Nat.mul_comm] at h1
    omega
theorem jnsum_lt {v : Nat → Nat} {b : Nat} : ∀ {n : Nat}, (∀ k, k < n → v k < b) → jnsum v n + n ≤ n * b
  | 0, _ => by simp [jnsum]
  | n + 1, h => by
    have ih := jnsum_lt (n := n) (fun k hk => h k (by omega))
    have := h n (by omega)
    unfold jnsum
    rw [Nat.succ_mul]
    omega
theorem jshare_bd {w : Nat → Nat} {a n : Nat} (hn : 1 ≤ n) (ht : 1 ≤ jnsum w n) : jnsum (fun k => a * w k / jnsum w n) n ≤ a ∧ a - jnsum (fun k => a * w k / jnsum w n) n ≤ n := by
  have h1 := jshare_left (w := w) (a := a) (tot := jnsum w n) (n := n)
  have h2 := jnsum_lt (v := fun k => a * w k % jnsum w n) (b := jnsum w n) (n := n) (fun k hk => Nat.mod_lt _ (by omega))
  generalize jnsum w n = t at *
  generalize jnsum (fun k => a * w k / t) n = Q at *
  generalize jnsum (fun k => a * w k % t) n = R at *
  have hQ : Q ≤ a := by
    by_cases h : Q ≤ a
    · exact h
    · have : (a + 1) * t ≤ Q * t := Nat.mul_le_mul_right t (by omega)
      rw [Nat.succ_mul] at this
      omega
  refine ⟨hQ, ?_⟩
  by_cases h : a - Q ≤ n
  · exact h
  · have h3 : (n + 1) * t ≤ (a - Q) * t := Nat.mul_le_mul_right t (by omega)
    rw [Nat.sub_mul, Nat.succ_mul] at h3
    have : Q * t ≤ a * t := Nat.mul_le_mul_right t hQ
    omega
theorem jnsum_bd {v : Nat → Nat} {b : Nat} : ∀ {n : Nat}, (∀ k, k < n → v k ≤ b) → jnsum v n ≤ n * b
  | 0, _ => by simp [jnsum]
  | n + 1, h => by
    have ih := jnsum_bd (n := n) (fun k hk => h k (by omega))
    have := h n (by omega)
    unfold jnsum
    rw [Nat.succ_mul]
    omega
theorem jnsum_mono {v : Nat → Nat} {m : Nat} : ∀ {n : Nat}, m ≤ n → jnsum v m ≤ jnsum v n
  | 0, h => by rw [show m = 0 by omega]; exact Nat.le_refl _
  | n + 1, h => by
    by_cases hm : m = n + 1
    · rw [hm]; exact Nat.le_refl _
    · have := jnsum_mono (v := v) (m := m) (n := n) (by omega)
      show _ ≤ jnsum v n + v n
      omega
/-- the largest remainders, one after another -/
theorem M_share_82 {D i Sc : Nat} {r : Nat → Nat} (hi : i < Sc) (hS6 : Sc ≤ 6) (hr : ∀ k, r k < 1000) : ∀ (L : Nat) (U : Nat → Bool) (Q : Nat) {d1 d3 d5 d6 : Option Value} {cx : jCX} {f : Nat → Int32} {g : Nat → Nat → Int32} {n : Nat → Nat → Int64} {b : Nat → Nat → Int32} {l : Nat → Int64} {t : List jE} {z : Nat × Nat × Nat × (Nat → Int32)} (hS : g 1 2 = Int32.ofNat Sc) (hL : L ≤ jcnt U Sc) (hQ : g 28 i = Int32.ofNat Q) (hU : ∀ k, k < Sc → g 29 k = if U k then Int32.ofNat (r k) else -1),
    ∃ v w, K_m_share_82 D d1 (Int32.ofNat i) d3 (Int32.ofNat L) d5 d6 cx f g n b l t z = some (.inl (some (.int (Int32.ofNat (Q + if U i = true ∧ jcnt (fun k => U k && jahead r i k) Sc < L then 1 else 0)))), (jXt cx (jY f (jup (jup g 28 v) 29 w) n b l t), z)) := by
  intro L
  induction L with
  | zero =>
    intro U Q d1 d3 d5 d6 cx f g n b l t z hS hL hQ hU
    refine ⟨g 28, g 29, ?_⟩
    rw [L_m_share_82, if_neg (by decide)]
    simp (disch := omega) only [jout_f, if_false, jclamp, hQ, jup_self]
    rw [if_neg (fun hx => absurd hx.2 (by omega))]
    rfl
  | succ L IH =>
    intro U Q d1 d3 d5 d6 cx f g n b l t z hS hL hQ hU
    have hm1 : (-1 : Int32).toInt = -1 := by decide
    have hval : ∀ k, k < Sc → (g 29 k).toInt = if U k then (r k : Int) else -1 := by
      intro k hk
      rw [hU k hk]
      split
      · rw [jtoInt (by have := hr k; omega)]
      · exact hm1
    have hloop : ∀ m, 1 ≤ m → m ≤ Sc → ∃ b0, b0 < m ∧ (∀ j, j < m → (g 29 j).toInt ≤ (g 29 b0).toInt ∧ ((g 29 j).toInt = (g 29 b0).toInt → b0 ≤ j)) ∧ K_m_share_88 D d1 (Int32.ofNat i) d3 (Int32.ofNat (L + 1)) 0 1 cx f g n b l t z = K_m_share_88 D d1 (Int32.ofNat i) d3 (Int32.ofNat (L + 1)) (Int32.ofNat b0) (Int32.ofNat m) cx f g n b l t z := by
      intro m hm
      induction m with
      | zero => omega
      | succ m ih =>
        intro hmS
        by_cases hm0 : m = 0
        · subst hm0
          exact ⟨0, by omega, fun j hj => by rw [show j = 0 by omega]; exact ⟨Int.le_refl _, fun _ => Nat.le_refl _⟩, rfl⟩
        · obtain ⟨b0, hb, hmax, he⟩ := ih (by omega) (by omega)
          have hlt : Int32.ofNat m < Int32.ofNat Sc := jlt_t (by omega) (by omega)
          by_cases hgt : g 29 b0 < g 29 m
          · have hgt' := Int32.lt_iff_toInt_lt.mp hgt
            refine ⟨m, by omega, ?_, ?_⟩
            · intro j hj
              by_cases hjm : j = m
              · subst hjm; exact ⟨Int.le_refl _, fun _ => Nat.le_refl _⟩
              · have := hmax j (by omega)
                exact ⟨by omega, fun h => by omega⟩
            · rw [he, L_m_share_88, hS, if_pos hlt]
              simp (disch := omega) only [jout_f, if_false, jclamp, if_pos hgt, E_m_share_105, jsucc]
          · have hgt' : ¬ (g 29 b0).toInt < (g 29 m).toInt := fun h => hgt (Int32.lt_iff_toInt_lt.mpr h)
            refine ⟨b0, by omega, ?_, ?_⟩
            · intro j hj
              by_cases hjm : j = m
              · subst hjm; exact ⟨by omega, fun _ => by omega⟩
              · exact hmax j (by omega)
            · rw [he, L_m_share_88, hS, if_pos hlt]
              simp (disch := omega) only [jout_f, if_false, jclamp, if_neg hgt, E_m_share_105, jsucc]
    obtain ⟨k, hk, hmax, he⟩ := hloop Sc (by omega) (Nat.le_refl Sc)
    obtain ⟨j0, hj0, hUj0⟩ := jcnt_ex (P := U) (n := Sc) (by omega)
    have hUk : U k = true := by
      cases hh : U k with
      | true => rfl
      | false =>
        have h1 := (hmax j0 hj0).1
        rw [hval j0 hj0, hval k hk, hUj0, hh] at h1
        simp at h1
        omega
    have htop : ∀ j, j < Sc → U j = true → jahead r k j = false := by
      intro j hj hUj
      have h1 := hmax j hj
      rw [hval j hj, hval k hk, hUj, hUk] at h1
      simp at h1
      unfold jahead
      rw [Bool.or_eq_false_iff, Bool.and_eq_false_iff, decide_eq_false_iff_not, decide_eq_false_iff_not, decide_eq_false_iff_not]
      refine ⟨by omega, ?_⟩
      by_cases hrr : r j = r k
      · exact Or.inr (by have := h1.2 (by rw [hrr]); omega)
      · exact Or.inl hrr
    let U' : Nat → Bool := fun j => U j && !decide (j = k)
    have hU'k : U' k = false := by simp [U']
    have hU'j : ∀ j, j ≠ k → U' j = U j := by intro j hj; simp [U', hj]
    have hc1 : jcnt U Sc = jcnt U' Sc + 1 := jcnt_rm hk hUk hU'k (fun j _ hj => (hU'j j hj).symm)
    have hlt0 : (0 : Int32) < Int32.ofNat (L + 1) := by rw [jlt0 (by have := jcnt_le (P := U) (n := Sc); omega)]; omega
    have hstep : K_m_share_82 D d1 (Int32.ofNat i) d3 (Int32.ofNat (L + 1)) d5 d6 cx f g n b l t z = K_m_share_82 D d1 (Int32.ofNat i) d3 (Int32.ofNat L) (some (.int (Int32.ofNat k))) (some (.int (Int32.ofNat Sc))) cx f (jup (jup g 28 (jup (g 28) k (g 28 k + 1))) 29 (jup (g 29) k (-1))) n b l t z := by
      have eL : Int32.ofNat (L + 1) + (-1) = Int32.ofNat L := by rw [← jsucc, Int32.add_assoc]; simp
      rw [L_m_share_82, if_pos hlt0, he, L_m_share_88, hS, if_neg (jlt_n (by omega) (by omega))]
      simp (disch := omega) only [jout_f, if_false, jclamp, E_m_share_119, eL, jup_ne]
    rw [hstep]
    obtain ⟨v, w, hfin⟩ := IH U' (if k = i then Q + 1 else Q) (d1 := d1) (d3 := d3) (d5 := some (.int (Int32.ofNat k))) (d6 := some (.int (Int32.ofNat Sc))) (cx := cx) (f := f) (g := jup (jup g 28 (jup (g 28) k (g 28 k + 1))) 29 (jup (g 29) k (-1))) (n := n) (b := b) (l := l) (t := t) (z := z) (by rw [jup_ne (by omega), jup_ne (by omega)]; exact hS) (by omega) (by
      rw [jup_ne (by omega), jup_same]
      by_cases hki : k = i
      · subst hki; rw [jup_same, if_pos rfl, hQ, jsucc]
      · rw [jup_ne (fun h => hki h.symm), if_neg hki]; exact hQ) (by
      intro j hj
      rw [jup_same]
      by_cases hjk : j = k
      · subst hjk; rw [jup_same, hU'k]; rfl
      · rw [jup_ne hjk, hU'j j hjk]; exact hU j hj)
    refine ⟨v, w, ?_⟩
    rw [hfin]
    have hgg : jup (jup (jup (jup g 28 (jup (g 28) k (g 28 k + 1))) 29 (jup (g 29) k (-1))) 28 v) 29 w = jup (jup g 28 v) 29 w := by
      funext x
      by_cases h29 : x = 29
      · subst h29; rw [jup_same, jup_same]
      · rw [jup_ne h29, jup_ne h29]
        by_cases h28 : x = 28
        · subst h28; rw [jup_same, jup_same]
        · rw [jup_ne h28, jup_ne h29, jup_ne h28, jup_ne h28]
    rw [hgg]
    have hres : (if k = i then Q + 1 else Q) + (if U' i = true ∧ jcnt (fun j => U' j && jahead r i j) Sc < L then 1 else 0) = Q + if U i = true ∧ jcnt (fun j => U j && jahead r i j) Sc < L + 1 then 1 else 0 := by
      by_cases hki : k = i
      · subst hki
        have h0 : jcnt (fun j => U j && jahead r k j) Sc = 0 := jcnt_0 (fun j hj => by
          cases hUj : U j with
          | false => rfl
          | true => simp [htop j hj hUj])
        rw [if_pos rfl, if_neg (fun hx => by rw [hU'k] at hx; exact absurd hx.1 (by decide)), if_pos ⟨hUk, by omega⟩]
      · rw [if_neg hki, hU'j i (fun h => hki h.symm)]
        cases hUi : U i with
        | false => simp
        | true =>
          have hah : jahead r i k = true := by
            have := htop i hi hUi
            unfold jahead at this ⊢
            rw [Bool.or_eq_false_iff, Bool.and_eq_false_iff, decide_eq_false_iff_not, decide_eq_false_iff_not, decide_eq_false_iff_not] at this
            rw [Bool.or_eq_true, Bool.and_eq_true, decide_eq_true_eq, decide_eq_true_eq, decide_eq_true_eq]
            omega
          have hcc : jcnt (fun j => U j && jahead r i j) Sc = jcnt (fun j => U' j && jahead r i j) Sc + 1 := jcnt_rm hk (by simp [hUk, hah]) (by simp [hU'k]) (fun j _ hj => by rw [hU'j j hj])
          rw [hcc]
          simp
    rw [hres]

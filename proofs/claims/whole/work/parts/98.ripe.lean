-- CALL BY CALL: expects, count, idle; what is ripe, sums of crop
theorem jset_cut {P : Nat → Bool} {C : Nat} : ∀ {n : Nat}, C ≤ n → (∀ c, C ≤ c → c < n → P c = false) → jset P n = jset P C
  | 0, h, _ => by rw [show C = 0 by omega]
  | n + 1, h, hP => by
    by_cases hC : C = n + 1
    · rw [hC]
    · rw [jset, hP n (by omega) (by omega), if_neg (by decide)]
      exact jset_cut (by omega) (fun c h1 h2 => hP c h1 (by omega))
theorem jset_0 {P : Nat → Bool} {n : Nat} (hn : n ≤ 32) : jset P n = 0 ↔ ∀ c, c < n → P c = false := by
  constructor
  · intro h c hc
    have := bt_jset (P := P) hn (i := c) (by omega)
    rw [h, b_0] at this
    simpa [hc] using this.symm
  · intro h
    apply b_ext
    intro i hi
    rw [bt_jset hn hi, b_0]
    by_cases hin : i < n
    · simp [h i hin]
    · simp [hin]
theorem jset_and {P Q : Nat → Bool} {n : Nat} (hn : n ≤ 32) : jset P n &&& jset Q n = jset (fun c => P c && Q c) n := by
  apply b_ext
  intro i hi
  rw [b_and, bt_jset hn hi, bt_jset hn hi, bt_jset hn hi]
  cases decide (i < n) <;> simp
theorem jset_or {P Q : Nat → Bool} {n : Nat} (hn : n ≤ 32) : jset P n ||| jset Q n = jset (fun c => P c || Q c) n := by
  apply b_ext
  intro i hi
  rw [b_or, bt_jset hn hi, bt_jset hn hi, bt_jset hn hi]
  cases decide (i < n) <;> simp
theorem jset_not {P : Nat → Bool} {n : Nat} {x : Int32} (hn : n ≤ 32) : jset P n &&& (x ^^^ (-1)) = jset (fun c => P c && !bt x c) n := by
  apply b_ext
  intro i hi
  rw [b_and, b_xor, b_m1 i hi, bt_jset hn hi, bt_jset hn hi]
  cases decide (i < n) <;> cases P i <;> cases bt x i <;> rfl
def jripe (S : jS) (c : Nat) : Bool := decide (0 < S.2 0 c)
theorem jripe_cut {C : Nat} {S : jS} (hC : C ≤ 30) (h : jCr C S) : jset (jripe S) 30 = jset (jripe S) C :=
  jset_cut hC (fun c h1 h2 => by unfold jripe; rw [h.2 c h1 h2]; decide)
theorem S_s_ripe {D j : Nat} {f : Nat → Int32} {g : Nat → Nat → Int32} {n2 : Nat → Nat → Int64} {p : Nat → Nat → Int32} {pa : Nat → Nat → Nat → Int32} {s : Nat → Nat → Int32} {sa : Nat → Nat → Nat → Int32} {sw : Bool} {rp : Value} {t : List jE} {z : Nat × Nat × Nat × (Nat → Int32)} (hj : j < 3) : K_s_ripe D j f g n2 p pa s sa sw rp t z = some (.inl (some (.int (jset (jripe (s j, sa j)) 30))), (jX f g n2 p pa s sa sw rp t, z)) := by
  rw [E_s_ripe hj]
  have key : ∀ k, k ≤ 30 → K_s_ripe_4 D j 0 0 f g n2 p pa s sa sw rp t z = K_s_ripe_4 D j (jset (jripe (s j, sa j)) k) (Int32.ofNat k) f g n2 p pa s sa sw rp t z := by
    intro k
    induction k with
    | zero => intro _; rfl
    | succ k ih =>
      intro hk
      rw [ih (by omega), L_s_ripe_4 hj]
      have hlt : Int32.ofNat k < 30 := jlt_t (b := 30) (by omega) (by omega)
      simp (disch := omega) only [hlt, if_true, jout_f, if_false, jclamp, E_s_ripe_18 hj, jsucc, jset, jripe, decide_eq_true_eq]
      split <;> rfl
  rw [key 30 (Nat.le_refl 30), L_s_ripe_4 hj]
  simp only [show ¬ (Int32.ofNat 30 < 30) by decide, if_false]
def jsum (P : Nat → Bool) (v : Nat → Int32) : Nat → Int32
  | 0 => 0
  | k + 1 => if P k then jsum P v k + v k else jsum P v k
theorem jsum_cut {P : Nat → Bool} {v : Nat → Int32} {C : Nat} : ∀ {n : Nat}, C ≤ n → (∀ c, C ≤ c → c < n → P c = false ∨ v c = 0) → jsum P v n = jsum P v C
  | 0, h, _ => by rw [show C = 0 by omega]
  | n + 1, h, hP => by
    by_cases hC : C = n + 1
    · rw [hC]
    · rw [← jsum_cut (n := n) (by omega) (fun c h1 h2 => hP c h1 (by omega)), jsum]
      rcases hP n (by omega) (by omega) with h0 | h0
      · rw [h0, if_neg (by decide)]
      · rw [h0]; split <;> simp
theorem jsum_congr {P Q : Nat → Bool} {v w : Nat → Int32} : ∀ {n : Nat}, (∀ c, c < n → (P c = Q c ∧ v c = w c) ∨ (v c = 0 ∧ w c = 0)) → jsum P v n = jsum Q w n
  | 0, _ => rfl
  | n + 1, h => by
    rw [jsum, jsum, jsum_congr (fun c hc => h c (by omega))]
    rcases h n (by omega) with ⟨h1, h2⟩ | ⟨h1, h2⟩
    · rw [h1, h2]
    · rw [h1, h2]; split <;> split <;> simp
theorem S_s_cropOf {D j : Nat} {x : Int32} {f : Nat → Int32} {g : Nat → Nat → Int32} {n2 : Nat → Nat → Int64} {p : Nat → Nat → Int32} {pa : Nat → Nat → Nat → Int32} {s : Nat → Nat → Int32} {sa : Nat → Nat → Nat → Int32} {sw : Bool} {rp : Value} {t : List jE} {z : Nat × Nat × Nat × (Nat → Int32)} (hj : j < 3) : K_s_cropOf D j x f g n2 p pa s sa sw rp t z = some (.inl (some (.int (jsum (bt x) (sa j 0) 30))), (jX f g n2 p pa s sa sw rp t, z)) := by
  rw [E_s_cropOf hj]
  have key : ∀ k, k ≤ 30 → K_s_cropOf_4 D j x 0 0 f g n2 p pa s sa sw rp t z = K_s_cropOf_4 D j x (jsum (bt x) (sa j 0) k) (Int32.ofNat k) f g n2 p pa s sa sw rp t z := by
    intro k
    induction k with
    | zero => intro _; rfl
    | succ k ih =>
      intro hk
      rw [ih (by omega), L_s_cropOf_4 hj]
      have hlt : Int32.ofNat k < 30 := jlt_t (b := 30) (by omega) (by omega)
      simp (disch := omega) only [hlt, if_true, jout_f, if_false, jclamp, E_s_cropOf_20 hj, jsucc, jsum, jbit0]
      cases hb : bt x k <;> simp
  rw [key 30 (Nat.le_refl 30), L_s_cropOf_4 hj]
  simp only [show ¬ (Int32.ofNat 30 < 30) by decide, if_false]
theorem A_expects {D : Nat} {a : Int32} {f : Nat → Int32} {g : Nat → Nat → Int32} {n2 : Nat → Nat → Int64} {p : Nat → Nat → Int32} {pa : Nat → Nat → Nat → Int32} {s : Nat → Nat → Int32} {sa : Nat → Nat → Nat → Int32} {sw : Bool} {rp : Value} {mf : Nat → Int32} {mg : Nat → Nat → Int32} {mn : Nat → Nat → Int64} {mb : Nat → Nat → Int32} {ml : Nat → Int64} (h : RR f g p pa s sa sw mf mg mb) : ∀ (t : List jE) (z : Nat × Nat × Nat × (Nat → Int32)), ∃ r : Int32, ∃ f' g' n2' p' pa' s' sa' sw' rp', K_c_expects D a f g n2 p pa s sa sw rp t z = some (.inl (some (.int r)), (jX f' g' n2' p' pa' s' sa' sw' rp' t, z)) ∧ ∀ (cx : jCX) (t1 : List jE) (z1 : Nat × Nat × Nat × (Nat → Int32)), ∃ mf' mg' mn' mb' ml', K_m_expects D a cx mf mg mn mb ml t1 z1 = some (.inl (some (.int r)), (jXt cx (jY mf' mg' mn' mb' ml' t1), z1)) ∧ RR f' g' p' pa' s' sa' sw' mf' mg' mb' := by
  intro t z
  obtain ⟨C, Sc, T, hP, hC, hS6, hT, hT2, hjn, hmn, hfr, hTw, hAt, hW, -, hm15⟩ := RR_ex (n2 := n2) (rp := rp) (mn := mn) (ml := ml) h
  have hr := RR_congr h (by intro k hk; simp (disch := omega) only [jup_ne]) (by intro k hk; simp (disch := omega) only [jup_ne]) rfl rfl (by constructor <;> simp (disch := omega) only [jup_ne]) (by constructor <;> simp (disch := omega) only [jup_ne]) (by intro k hk; simp (disch := omega) only [jup_ne]) (jq1.rf) rfl (f' := f) (g' := g) (s' := s) (sa' := sa) (p' := p) (pa' := pa) (sw' := sw) (mf' := jup mf 0 0) (mg' := mg) (mb' := mb)
  rcases jcases a with h0 | ⟨hh, hhb, rfl⟩
  · refine ⟨-1, f, g, n2, p, pa, s, sa, sw, rp, ?_, fun cx t z => ⟨jup mf 0 0, mg, mn, mb, ml, ?_, hr⟩⟩
    · simp only [E_c_expects, h0, if_true]
    · simp only [E_m_expects, h0, if_true]
  by_cases h12 : hh < 12
  rotate_left
  · have hl : ¬ Int32.ofNat hh < 12 := jlt_n (b := 12) (by omega) hhb
    refine ⟨-1, f, g, n2, p, pa, s, sa, sw, rp, ?_, fun cx t z => ⟨jup mf 0 0, mg, mn, mb, ml, ?_, hr⟩⟩
    · simp only [E_c_expects, jnonneg hhb, hl, if_false]
    · simp only [E_m_expects, jnonneg hhb, hl, if_false]
  have hl : Int32.ofNat hh < 12 := jlt_t (b := 12) h12 (by omega)
  obtain ⟨-, -, -, -, -, -, c20, c21, -⟩ := fr0 hfr
  dsimp only at c20 c21
  generalize hQ : (fun c => jripe (s 0, sa 0) c && !bt (sa 0 1 hh) c) = Q
  refine ⟨jset Q C, f, g, n2, p, pa, s, sa, sw, rp, ?_, fun cx t z => ⟨jup mf 0 0, mg, mn, mb, ml, ?_, hr⟩⟩
  · simp (disch := omega) only [E_c_expects, jnonneg hhb, hl, if_false, if_true, S_s_ripe, jbO_some, jbO_none, jbO_ite, jk_some, jk_none, E_c_expects_10, jout_f, jclamp, jripe_cut hC hfr.2.2.2.1, jset_not, hQ]
  · simp only [E_m_expects, jnonneg hhb, hl, if_false, if_true]
    have key : ∀ k, k ≤ C → K_m_expects_14 D (Int32.ofNat hh) 0 0 cx (jup mf 0 0) mg mn mb ml t z = K_m_expects_14 D (Int32.ofNat hh) (jset Q k) (Int32.ofNat k) cx (jup mf 0 0) mg mn mb ml t z := by
      intro k
      induction k with
      | zero => intro _; rfl
      | succ k ih =>
        intro hk
        have hlt : Int32.ofNat k < Int32.ofNat C := jlt_t (by omega) (by omega)
        have e20 := c20 k (by omega)
        have e21 := c21 hh h12
        have hQk : Q k = (decide (0 < sa 0 0 k) && !bt (sa 0 1 hh) k) := by rw [← hQ]; rfl
        rw [ih (by omega), L_m_expects_14, M_cells hP]
        simp (disch := omega) only [jbO_some, jbO_none, jbO_ite, jk_some, jk_none, E_m_expects_17, hlt, if_true, jout_f, if_false, jclamp, e20, e21, jbit0, E_m_expects_37, E_m_expects_38, jsucc, jset, hQk, Bool.and_eq_true, decide_eq_true_eq, Bool.not_eq_true', Int32.or_zero]
        by_cases h1 : 0 < sa 0 0 k
        · rw [if_pos h1]
          by_cases h2 : bt (sa 0 1 hh) k = false
          · rw [if_pos h2, if_pos ⟨h1, h2⟩]
          · rw [if_neg h2, if_neg (fun hx => h2 hx.2)]
        · rw [if_neg h1, if_neg (fun hx => h1 hx.1)]
    rw [key C (Nat.le_refl C), L_m_expects_14, M_cells hP]
    simp only [jbO_some, jbO_none, jbO_ite, jk_some, jk_none, E_m_expects_17, show ¬ (Int32.ofNat C < Int32.ofNat C) from jlt_n (by omega) (by omega), if_false]

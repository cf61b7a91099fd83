-- CALL BY CALL: share, the call
theorem jw_prod {a w : Nat} (ha : a ≤ 9999) (hw : w ≤ 10) : a * w ≤ 99990 := by
  have := Nat.mul_le_mul ha hw
  omega
theorem S_share_16 {D i Sc a : Nat} {w : Nat → Nat} {d5 d6 d7 d8 : Option Value} {f : Nat → Int32} {g : Nat → Nat → Int32} {n2 : Nat → Nat → Int64} {p : Nat → Nat → Int32} {pa : Nat → Nat → Nat → Int32} {s : Nat → Nat → Int32} {sa : Nat → Nat → Nat → Int32} {sw : Bool} {rp : Value} {t : List jE} {z : Nat × Nat × Nat × (Nat → Int32)} (hS : p (jq sw) 3 = Int32.ofNat Sc) (hS6 : Sc ≤ 6) (hi : i < Sc) (ha : a ≤ 9999) (hw : ∀ k, k < Sc → 1 ≤ w k ∧ w k ≤ 10 ∧ sa 0 3 k + 1 = Int32.ofNat (w k)) (ht : 1 ≤ jnsum w Sc) :
    K_c_share_16 D (Int32.ofNat a) (Int32.ofNat i) 0 0 d5 d6 d7 d8 f g n2 p pa s sa sw rp t z = some (.inl (some (.int (Int32.ofNat (a * w i / jnsum w Sc + if jcnt (jahead (fun k => a * w k % jnsum w Sc) i) Sc < a - jnsum (fun k => a * w k / jnsum w Sc) Sc then 1 else 0)))), (jX f g n2 p pa s sa sw rp t, z)) := by
  have htb : jnsum w Sc ≤ 60 := by have := jnsum_bd (v := w) (b := 10) (n := Sc) (fun k hk => (hw k hk).2.1); omega
  have key : ∀ k, k ≤ Sc → K_c_share_16 D (Int32.ofNat a) (Int32.ofNat i) 0 0 d5 d6 d7 d8 f g n2 p pa s sa sw rp t z = K_c_share_16 D (Int32.ofNat a) (Int32.ofNat i) (Int32.ofNat (jnsum w k)) (Int32.ofNat k) d5 d6 d7 d8 f g n2 p pa s sa sw rp t z := by
    intro k
    induction k with
    | zero => intro _; rfl
    | succ k ih =>
      intro hk
      rw [ih (by omega), L_c_share_16, hS, if_pos (jlt_t (by omega) (by omega))]
      simp (disch := omega) only [jout_f, if_false, jclamp, (hw k (by omega)).2.2, jofadd, jsucc]
      rfl
  have hSp := jshare_bd (w := w) (a := a) (n := Sc) (by omega) ht
  generalize htot : jnsum w Sc = tot at *
  have ht0 : ¬ Int32.ofNat tot = 0 := by rw [show (0 : Int32) = Int32.ofNat 0 from rfl, jeqn (by omega) (by omega)]; omega
  have ht1 : ¬ Int32.ofNat tot < 1 := jlt_n (b := 1) (by omega) (by omega)
  have hprod : ∀ k, k < Sc → a * w k ≤ 99990 := fun k hk => jw_prod ha (hw k hk).2.1
  have hpm : ∀ k, k < Sc → Int32.ofNat a * (sa 0 3 k + 1) = Int32.ofNat (a * w k) := fun k hk => by rw [(hw k hk).2.2, jofmul]
  have hqd : ∀ k, k < Sc → Int32.ofNat (a * w k) / Int32.ofNat tot = Int32.ofNat (a * w k / tot) := fun k hk => jofdiv (by have := hprod k hk; omega) (by omega)
  have hrd : ∀ k, k < Sc → Int32.ofNat (a * w k) - Int32.ofNat (a * w k / tot) * Int32.ofNat tot = Int32.ofNat (a * w k % tot) := fun k hk => by rw [← hqd k hk]; exact jofmod (by have := hprod k hk; omega) (by omega)
  have hrlt : ∀ k, a * w k % tot < tot := fun k => Nat.mod_lt _ (by omega)
  have hql : ∀ k, k ≤ Sc → jnsum (fun k => a * w k / tot) k ≤ a := fun k hk => Nat.le_trans (jnsum_mono hk) hSp.1
  have key2 : ∀ k, k ≤ Sc → ∃ d8', K_c_share_56 D (Int32.ofNat a) (Int32.ofNat i) (Int32.ofNat tot) (Int32.ofNat a) 0 (Int32.ofNat (a * w i % tot)) 0 d8 f g n2 p pa s sa sw rp t z = K_c_share_56 D (Int32.ofNat a) (Int32.ofNat i) (Int32.ofNat tot) (Int32.ofNat (a - jnsum (fun k => a * w k / tot) k)) (Int32.ofNat (jcnt (jahead (fun k => a * w k % tot) i) k)) (Int32.ofNat (a * w i % tot)) (Int32.ofNat k) d8' f g n2 p pa s sa sw rp t z := by
    intro k
    induction k with
    | zero => intro _; exact ⟨d8, rfl⟩
    | succ k ih =>
      intro hk
      obtain ⟨d8', he⟩ := ih (by omega)
      refine ⟨some (.int (Int32.ofNat (a * w k))), ?_⟩
      have e1 := hql (k + 1) (by omega)
      have eL : Int32.ofNat (a - jnsum (fun k => a * w k / tot) k) - Int32.ofNat (a * w k / tot) = Int32.ofNat (a - jnsum (fun k => a * w k / tot) (k + 1)) := by
        have e2 : jnsum (fun k => a * w k / tot) (k + 1) = jnsum (fun k => a * w k / tot) k + a * w k / tot := rfl
        rw [e2] at e1 ⊢
        rw [← Int32.ofNat_sub _ _ (by omega)]
        congr 1; omega
      have eC : jcnt (jahead (fun k => a * w k % tot) i) (k + 1) = jcnt (jahead (fun k => a * w k % tot) i) k + (if jahead (fun k => a * w k % tot) i k then 1 else 0) := rfl
      rw [he, L_c_share_56, hS, if_pos (jlt_t (by omega) (by omega))]
      simp (disch := omega) only [jout_f, if_false, jclamp, hpm, hqd, hrd, ht0, eL, E_c_share_90, E_c_share_91, jsucc, eC]
      have hri := hrlt i; have hrk := hrlt k
      by_cases hlt : a * w i % tot < a * w k % tot
      · have hA : jahead (fun k => a * w k % tot) i k = true := by simp [jahead, hlt]
        rw [if_pos (jlt_t hlt (by omega)), if_pos hA]
      · rw [if_neg (jlt_n (by omega) (by omega))]
        by_cases heq : a * w k % tot = a * w i % tot
        · rw [if_pos (by rw [heq])]
          by_cases hki : k < i
          · have hA : jahead (fun k => a * w k % tot) i k = true := by simp [jahead, heq, hki]
            rw [if_pos (jlt_t hki (by omega)), if_pos hA]
          · have hA : ¬ jahead (fun k => a * w k % tot) i k = true := by simp [jahead, heq, hki]
            rw [if_neg (jlt_n (by omega) (by omega))]; simp only [if_neg hA, Nat.add_zero]
        · have hne : ¬ Int32.ofNat (a * w k % tot) = Int32.ofNat (a * w i % tot) := by rw [jeqn (by omega) (by omega)]; exact heq
          have hA : ¬ jahead (fun k => a * w k % tot) i k = true := by simp [jahead, heq, hlt]
          rw [if_neg hne]; simp only [if_neg hA, Nat.add_zero]
  rw [key Sc (Nat.le_refl Sc), htot, L_c_share_16, hS, if_neg (jlt_n (by omega) (by omega)), if_neg ht1]
  simp (disch := omega) only [jout_f, if_false, jclamp, hpm, hqd, hrd, ht0]
  obtain ⟨d8', he⟩ := key2 Sc (Nat.le_refl Sc)
  have hcl := jcnt_le (P := jahead (fun k => a * w k % tot) i) (n := Sc)
  rw [he, L_c_share_56, hS, if_neg (jlt_n (by omega) (by omega))]
  simp (disch := omega) only [jout_f, if_false, jclamp, hpm, hqd, ht0, E_c_share_110]
  by_cases hlt : jcnt (jahead (fun k => a * w k % tot) i) Sc < a - jnsum (fun k => a * w k / tot) Sc
  · rw [if_pos (jlt_t hlt (by omega)), if_pos hlt, jsucc]
  · rw [if_neg (jlt_n (by omega) (by omega)), if_neg hlt, Int32.add_zero, Nat.add_zero]
theorem M_share_18 {D i Sc a : Nat} {w : Nat → Nat} {d5 d6 : Option Value} {cx : jCX} {f : Nat → Int32} {g : Nat → Nat → Int32} {n : Nat → Nat → Int64} {b : Nat → Nat → Int32} {l : Nat → Int64} {t : List jE} {z : Nat × Nat × Nat × (Nat → Int32)} (hS : g 1 2 = Int32.ofNat Sc) (hS6 : Sc ≤ 6) (hi : i < Sc) (ha : a ≤ 9999) (hw : ∀ k, k < Sc → 1 ≤ w k ∧ w k ≤ 10 ∧ g 24 k + 1 = Int32.ofNat (w k)) (ht : 1 ≤ jnsum w Sc) :
    ∃ v u, K_m_share_18 D (Int32.ofNat a) (Int32.ofNat i) 0 0 d5 d6 cx f g n b l t z = some (.inl (some (.int (Int32.ofNat (a * w i / jnsum w Sc + if jcnt (jahead (fun k => a * w k % jnsum w Sc) i) Sc < a - jnsum (fun k => a * w k / jnsum w Sc) Sc then 1 else 0)))), (jXt cx (jY f (jup (jup g 28 v) 29 u) n b l t), z)) := by
  have htb : jnsum w Sc ≤ 60 := by have := jnsum_bd (v := w) (b := 10) (n := Sc) (fun k hk => (hw k hk).2.1); omega
  have key : ∀ k, k ≤ Sc → K_m_share_18 D (Int32.ofNat a) (Int32.ofNat i) 0 0 d5 d6 cx f g n b l t z = K_m_share_18 D (Int32.ofNat a) (Int32.ofNat i) (Int32.ofNat (jnsum w k)) (Int32.ofNat k) d5 d6 cx f g n b l t z := by
    intro k
    induction k with
    | zero => intro _; rfl
    | succ k ih =>
      intro hk
      rw [ih (by omega), L_m_share_18, hS, if_pos (jlt_t (by omega) (by omega))]
      simp (disch := omega) only [jout_f, if_false, jclamp, (hw k (by omega)).2.2, jofadd, jsucc]
      rfl
  have hSp := jshare_bd (w := w) (a := a) (n := Sc) (by omega) ht
  generalize htot : jnsum w Sc = tot at *
  have ht0 : ¬ Int32.ofNat tot = 0 := by rw [show (0 : Int32) = Int32.ofNat 0 from rfl, jeqn (by omega) (by omega)]; omega
  have hprod : ∀ k, k < Sc → a * w k ≤ 99990 := fun k hk => jw_prod ha (hw k hk).2.1
  have hpm : ∀ k, k < Sc → Int32.ofNat a * (g 24 k + 1) = Int32.ofNat (a * w k) := fun k hk => by rw [(hw k hk).2.2, jofmul]
  have hqd : ∀ k, k < Sc → Int32.ofNat (a * w k) / Int32.ofNat tot = Int32.ofNat (a * w k / tot) := fun k hk => jofdiv (by have := hprod k hk; omega) (by omega)
  have hrd : ∀ k, k < Sc → Int32.ofNat (a * w k) - Int32.ofNat (a * w k / tot) * Int32.ofNat tot = Int32.ofNat (a * w k % tot) := fun k hk => by rw [← hqd k hk]; exact jofmod (by have := hprod k hk; omega) (by omega)
  have hrlt : ∀ k, a * w k % tot < tot := fun k => Nat.mod_lt _ (by omega)
  have hql : ∀ k, k ≤ Sc → jnsum (fun k => a * w k / tot) k ≤ a := fun k hk => Nat.le_trans (jnsum_mono hk) hSp.1
  have key2 : ∀ k, k ≤ Sc → ∃ v u, K_m_share_39 D (Int32.ofNat a) (Int32.ofNat i) (Int32.ofNat tot) (Int32.ofNat a) 0 d6 cx f g n b l t z = K_m_share_39 D (Int32.ofNat a) (Int32.ofNat i) (Int32.ofNat tot) (Int32.ofNat (a - jnsum (fun k => a * w k / tot) k)) (Int32.ofNat k) d6 cx f (jup (jup g 28 v) 29 u) n b l t z ∧ ∀ j, j < k → v j = Int32.ofNat (a * w j / tot) ∧ u j = Int32.ofNat (a * w j % tot) := by
    intro k
    induction k with
    | zero => intro _; exact ⟨g 28, g 29, by rw [jup_self, jup_self]; rfl, fun j hj => absurd hj (by omega)⟩
    | succ k ih =>
      intro hk
      obtain ⟨v, u, he, hvu⟩ := ih (by omega)
      refine ⟨jup v k (Int32.ofNat (a * w k / tot)), jup u k (Int32.ofNat (a * w k % tot)), ?_, ?_⟩
      · have e1 := hql (k + 1) (by omega)
        have eL : Int32.ofNat (a - jnsum (fun k => a * w k / tot) k) - Int32.ofNat (a * w k / tot) = Int32.ofNat (a - jnsum (fun k => a * w k / tot) (k + 1)) := by
          have e2 : jnsum (fun k => a * w k / tot) (k + 1) = jnsum (fun k => a * w k / tot) k + a * w k / tot := rfl
          rw [e2] at e1 ⊢
          rw [← Int32.ofNat_sub _ _ (by omega)]
          congr 1; omega
        have hsw : ∀ (g : Nat → Nat → Int32) (x y y' : Nat → Int32), jup (jup (jup (jup g 28 x) 29 y) 28 x) 29 y' = jup (jup g 28 x) 29 y' := by
          intro g x y y'
          rw [jup_comm (k := 29) (l := 28) (by omega), jup_jup, jup_jup]
        rw [he, L_m_share_39, jup_ne (by omega), jup_ne (by omega), hS, if_pos (jlt_t (by omega) (by omega))]
        simp (disch := omega) only [jout_f, if_false, jclamp, jup_ne, jup_same, hpm, hqd, hrd, ht0, E_m_share_72, eL, jsucc]
        congr 1
        rw [jup_comm (k := 29) (l := 28) (by omega), jup_jup, jup_jup]
      · intro j hj
        by_cases hjk : j = k
        · subst hjk; rw [jup_same, jup_same]; exact ⟨rfl, rfl⟩
        · rw [jup_ne hjk, jup_ne hjk]; exact hvu j (by omega)
  obtain ⟨v, u, he, hvu⟩ := key2 Sc (Nat.le_refl Sc)
  obtain ⟨v', u', hfin⟩ := M_share_82 (D := D) (i := i) (Sc := Sc) (r := fun k => a * w k % tot) hi hS6 (fun k => by have := hrlt k; show a * w k % tot < 1000; omega) (a - jnsum (fun k => a * w k / tot) Sc) (fun _ => true) (a * w i / tot) (d1 := some (.int (Int32.ofNat a))) (d3 := some (.int (Int32.ofNat tot))) (d5 := some (.int (Int32.ofNat Sc))) (d6 := d6) (cx := cx) (f := f) (g := jup (jup g 28 v) 29 u) (n := n) (b := b) (l := l) (t := t) (z := z)
    (by rw [jup_ne (by omega), jup_ne (by omega)]; exact hS) (by rw [jcnt_true]; exact hSp.2) (by rw [jup_ne (by omega), jup_same]; exact (hvu i hi).1) (fun k hk => by rw [jup_same]; exact (hvu k hk).2)
  refine ⟨v', u', ?_⟩
  rw [key Sc (Nat.le_refl Sc), htot, L_m_share_18, hS, if_neg (jlt_n (by omega) (by omega)), he, L_m_share_39, jup_ne (by omega), jup_ne (by omega), hS, if_neg (jlt_n (by omega) (by omega)), hfin]
  have hgg : jup (jup (jup (jup g 28 v) 29 u) 28 v') 29 u' = jup (jup g 28 v') 29 u' := by
    rw [jup_comm (k := 29) (l := 28) (by omega), jup_jup, jup_jup]
  rw [hgg]
  simp only [Bool.true_and, true_and]
theorem A_share {D : Nat} {a x : Int32} {f : Nat → Int32} {g : Nat → Nat → Int32} {n2 : Nat → Nat → Int64} {p : Nat → Nat → Int32} {pa : Nat → Nat → Nat → Int32} {s : Nat → Nat → Int32} {sa : Nat → Nat → Nat → Int32} {sw : Bool} {rp : Value} {mf : Nat → Int32} {mg : Nat → Nat → Int32} {mn : Nat → Nat → Int64} {mb : Nat → Nat → Int32} {ml : Nat → Int64} (h : RR f g p pa s sa sw mf mg mb) : ∀ (t : List jE) (z : Nat × Nat × Nat × (Nat → Int32)), ∃ r : Int32, ∃ f' g' n2' p' pa' s' sa' sw' rp', K_c_share D a x f g n2 p pa s sa sw rp t z = some (.inl (some (.int r)), (jX f' g' n2' p' pa' s' sa' sw' rp' t, z)) ∧ ∀ (cx : jCX) (t1 : List jE) (z1 : Nat × Nat × Nat × (Nat → Int32)), ∃ mf' mg' mn' mb' ml', K_m_share D a x cx mf mg mn mb ml t1 z1 = some (.inl (some (.int r)), (jXt cx (jY mf' mg' mn' mb' ml' t1), z1)) ∧ RR f' g' p' pa' s' sa' sw' mf' mg' mb' := by
  intro t z
  obtain ⟨C, Sc, T, hP, hC, hS6, hT, hT2, hjn, hmn, hfr, hTw, hAt, hW, hw2, hm15⟩ := RR_ex (n2 := n2) (rp := rp) (mn := mn) (ml := ml) h
  have hr := RR_congr h (by intro k hk; simp (disch := omega) only [jup_ne]) (by intro k hk; simp (disch := omega) only [jup_ne]) rfl rfl (by constructor <;> simp (disch := omega) only [jup_ne]) (by constructor <;> simp (disch := omega) only [jup_ne]) (by intro k hk; simp (disch := omega) only [jup_ne]) (jq1.rf) rfl (f' := f) (g' := g) (s' := s) (sa' := sa) (p' := p) (pa' := pa) (sw' := sw) (mf' := jup mf 0 0) (mg' := mg) (mb' := mb)
  have hS := hP.1.2.2.2.2.1
  have h10' : ¬ (1 : Int32) = 0 := by decide
  have hsc := fun {x} => S_p_hasScare (D := D) (w := sw) (x := x) (f := f) (g := g) (n2 := n2) (p := p) (pa := pa) (s := s) (sa := sa) (sw := sw) (rp := rp) (t := t) (z := z) hS hS6
  have hms := fun {x cx t z} => M_isScare (D := D) (x := x) (cx := cx) (f := jup mf 0 0) (g := mg) (n := mn) (b := mb) (l := ml) (t := t) (z := z) hP
  by_cases h0 : a < 0
  · refine ⟨-1, f, g, n2, p, pa, s, sa, sw, rp, ?_, fun cx t z => ⟨jup mf 0 0, mg, mn, mb, ml, ?_, hr⟩⟩
    · simp only [E_c_share, h0, if_true]
    · simp only [E_m_share, h0, if_true]
  by_cases h9 : 9999 < a
  · refine ⟨-1, f, g, n2, p, pa, s, sa, sw, rp, ?_, fun cx t z => ⟨jup mf 0 0, mg, mn, mb, ml, ?_, hr⟩⟩
    · simp only [E_c_share, h0, h9, if_true, if_false]
    · simp only [E_m_share, h0, h9, if_true, if_false]
  rcases jout_dec x Sc (by omega) with ho | ⟨i, hi, rfl⟩
  · refine ⟨-1, f, g, n2, p, pa, s, sa, sw, rp, ?_, fun cx t z => ⟨jup mf 0 0, mg, mn, mb, ml, ?_, hr⟩⟩
    · simp only [E_c_share, h0, h9, hsc, if_pos ho, jbO_some, jbO_none, jbO_ite, jk_some, jk_none, E_c_share_9, if_true, if_false]
    · simp only [E_m_share, h0, h9, hms, if_pos ho, jbO_some, jbO_none, jbO_ite, jk_some, jk_none, E_m_share_11, if_true, if_false]
  have hno : ¬ jout (Int32.ofNat i) Sc := jout_n hi (by omega)
  obtain ⟨n, hn, rfl⟩ : ∃ n, n ≤ 9999 ∧ a = Int32.ofNat n := by
    rcases jcases a with hneg | ⟨k, hk, rfl⟩
    · exact absurd hneg h0
    · refine ⟨k, ?_, rfl⟩
      rw [show (9999 : Int32) = Int32.ofNat 9999 from rfl, jltn (by omega) hk] at h9; omega
  obtain ⟨-, -, -, -, -, -, -, -, c6⟩ := fr0 hfr
  dsimp only at c6
  have hoth := hfr.2.2.2.2.2
  dsimp only at hoth
  let w : Nat → Nat := fun k => (sa 0 3 k + 1).toNatClampNeg
  have hw : ∀ k, k < Sc → 1 ≤ w k ∧ w k ≤ 10 ∧ sa 0 3 k + 1 = Int32.ofNat (w k) := by
    intro k hk
    obtain ⟨r, hr10, he⟩ := hoth k hk
    have : w k = r + 1 := by show (sa 0 3 k + 1).toNatClampNeg = r + 1; rw [he, jsucc, jclamp (by omega)]
    rw [this, he, jsucc]
    exact ⟨by omega, by omega, rfl⟩
  have hw' : ∀ k, k < Sc → 1 ≤ w k ∧ w k ≤ 10 ∧ mg 24 k + 1 = Int32.ofNat (w k) := by
    intro k hk
    rw [(c6 k hk).2.1]; exact hw k hk
  have ht : 1 ≤ jnsum w Sc := by
    have h1 : jnsum w 1 ≤ jnsum w Sc := jnsum_mono (by omega)
    have h2 := (hw 0 (by omega)).1
    have h3 : jnsum w 1 = 0 + w 0 := rfl
    omega
  have hc := S_share_16 (D := D) (i := i) (Sc := Sc) (a := n) (w := w) (d5 := none) (d6 := none) (d7 := none) (d8 := none) (f := f) (g := g) (n2 := n2) (p := p) (pa := pa) (s := s) (sa := sa) (sw := sw) (rp := rp) (t := t) (z := z) hS hS6 hi hn hw ht
  refine ⟨Int32.ofNat (n * w i / jnsum w Sc + if jcnt (jahead (fun k => n * w k % jnsum w Sc) i) Sc < n - jnsum (fun k => n * w k / jnsum w Sc) Sc then 1 else 0), f, g, n2, p, pa, s, sa, sw, rp, ?_, fun cx t z => ?_⟩
  · simp only [E_c_share, h0, h9, hsc, if_neg hno, jbO_some, jbO_none, jbO_ite, jk_some, jk_none, E_c_share_9, h10', if_false, hc]
  · obtain ⟨v, u, hm⟩ := M_share_18 (D := D) (i := i) (Sc := Sc) (a := n) (w := w) (d5 := none) (d6 := none) (cx := cx) (f := jup mf 0 0) (g := mg) (n := mn) (b := mb) (l := ml) (t := t) (z := z) (hP.2.1.2.2.1.trans hS) hS6 hi hn hw' ht
    refine ⟨jup mf 0 0, jup (jup mg 28 v) 29 u, mn, mb, ml, ?_, ?_⟩
    · simp only [E_m_share, h0, h9, hms, if_neg hno, jbO_some, jbO_none, jbO_ite, jk_some, jk_none, E_m_share_11, h10', if_false, hm]
    · exact RR_congr h (by intro k hk; simp (disch := omega) only [jup_ne]) (by intro k hk; simp (disch := omega) only [jup_ne]) rfl rfl (by constructor <;> simp (disch := omega) only [jup_ne]) (by constructor <;> simp (disch := omega) only [jup_ne]) (by intro k hk; simp (disch := omega) only [jup_ne]) ((jq1.hi (fun k hk => (jup_ne (by omega)).trans (jup_ne (by omega))))) rfl (f' := f) (g' := g) (s' := s) (sa' := sa) (p' := p) (pa' := pa) (sw' := sw) (mf' := jup mf 0 0) (mg' := jup (jup mg 28 v) 29 u) (mb' := mb)

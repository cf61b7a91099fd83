-- CALL BY CALL: chance, the reference and the call
theorem jq1_hi25 {g g' : Nat → Nat → Int32} {v : Nat → Int32} (h : jq1 g g') : jq1 g (jup g' 25 v) := by
  refine h.tr (jq1.hi ?_)
  intro k hk
  exact jup_ne (by omega)
theorem M_chance_26 {D nd : Nat} {x : jRd} {lim x5 x6 : Int32} {d1 : Option Value} {cx : jCX} {f : Nat → Int32} {g : Nat → Nat → Int32} {n : Nat → Nat → Int64} {b : Nat → Nat → Int32} {l : Nat → Int64} {t : List jE} {z : Nat × Nat × Nat × (Nat → Int32)} (hv : x.1 < 2147483648) (hn : nd ≤ 9) :
    ∃ v, K_m_chance_26 D d1 (Int32.ofNat nd) lim (Int32.ofNat x.1) x5 x6 1 cx f g n b l t z = K_m_chance_26 D d1 (Int32.ofNat nd) lim (Int32.ofNat (jseed x.1 nd)) x5 x6 (Int32.ofNat (nd + 1)) cx f (jup g 25 v) n b l t z ∧ ∀ k, k < nd → v (k + 1) = jdw x.1 k := by
  have key : ∀ k, k ≤ nd → ∃ v, K_m_chance_26 D d1 (Int32.ofNat nd) lim (Int32.ofNat x.1) x5 x6 1 cx f g n b l t z = K_m_chance_26 D d1 (Int32.ofNat nd) lim (Int32.ofNat (jseed x.1 k)) x5 x6 (Int32.ofNat (k + 1)) cx f (jup g 25 v) n b l t z ∧ ∀ j, j < k → v (j + 1) = jdw x.1 j := by
    intro k
    induction k with
    | zero => intro _; exact ⟨g 25, by rw [jup_self]; rfl, fun j hj => absurd hj (by omega)⟩
    | succ k ih =>
      intro hk
      obtain ⟨v, he, hvv⟩ := ih (by omega)
      refine ⟨jup v (k + 1) (jdw x.1 k), ?_, ?_⟩
      · rw [he, L_m_chance_26, if_neg (jlt_n (by omega) (by omega))]
        have h1 : jlcg (jseed x.1 k) / 65536 ≤ jlcg (jseed x.1 k) := Nat.div_le_self _ _
        have h2 := jlcg_lt (v := jseed x.1 k)
        simp (disch := omega) only [jout_f, if_false, jclamp, jlcg32, jsucc, jup_same, jup_jup]
        rw [jdraw32 h2, jmod10 (by omega)]
        rfl
      · intro j hj
        by_cases hjk : j = k
        · subst hjk; rw [jup_same]
        · rw [jup_ne (by omega)]; exact hvv j (by omega)
  exact key nd (Nat.le_refl nd)
theorem jmf16 {F : Nat → Int32} {a y y' : Int32} (h : F 16 = -1) : jup (jup (jup (jup F 15 y) 16 a) 15 y') 16 (-1) = jup F 15 y' := by
  funext k
  by_cases h16 : k = 16
  · subst h16; rw [jup_same, jup_ne (by omega), h]
  · rw [jup_ne h16]
    by_cases h15 : k = 15
    · subst h15; rw [jup_same, jup_same]
    · rw [jup_ne h15, jup_ne h16, jup_ne h15, jup_ne h15]
theorem M_chance_21 {D T nd : Nat} {C Sc : Nat} {tf q : Nat → Int32} {qa mg : Nat → Nat → Int32} {S : jS} {x : jRd} {lim : Int32} {d1 d7 : Option Value} {cx : jCX} {f : Nat → Int32} {g : Nat → Nat → Int32} {n : Nat → Nat → Int64} {b : Nat → Nat → Int32} {l : Nat → Int64} {t : List jE} {z : Nat × Nat × Nat × (Nat → Int32)} (hv : x.1 < 2147483648) (hn1 : 1 ≤ nd) (hn : nd ≤ 9) (hc : x.2.2.2 = 0) (hT : jtm S T) (hT2 : T < 12000)
    (hP : rPl q qa C Sc mg) (hS : rSt C Sc S 0 0 0 (f 19) 0 mg) (hg : jq1 mg g) (hf : f 16 = -1) (hTw : rTw tf f Sc) (h21 : ¬ tf 21 = 0) (h22 : tf 22 = S.1 0)
    (hW : ∀ d, d < 2147483648 → (if Int32.ofNat d < mg 1 6 then mg 9 (Int32.ofNat d).toNatClampNeg else 0) = jwnd q qa (Int32.ofNat d)) :
    ∃ y n' g', K_m_chance_21 D d1 (Int32.ofNat nd) lim (Int32.ofNat x.1) 0 0 d7 cx f g n b l t z = some (.inl (some (.int (Int32.ofNat (jrds tf q qa C Sc S nd ((nd + 1) * 12 - T % 12) lim x 10).2.2.2))), (jXt cx (jY (jup f 15 y) g' n' b l t), z)) ∧ jq1 mg g' := by
  have hC : C ≤ 30 := hP.1.2.1
  have hS6 : Sc ≤ 6 := hP.1.2.2.2.2.2.1
  have key : ∀ k, k ≤ 10 → ∃ y n' g' d7', K_m_chance_21 D d1 (Int32.ofNat nd) lim (Int32.ofNat x.1) 0 0 d7 cx f g n b l t z = K_m_chance_21 D d1 (Int32.ofNat nd) lim (Int32.ofNat (jrds tf q qa C Sc S nd ((nd + 1) * 12 - T % 12) lim x k).1) (Int32.ofNat (jrds tf q qa C Sc S nd ((nd + 1) * 12 - T % 12) lim x k).2.2.2) (Int32.ofNat k) d7' cx (jup f 15 y) g' n' b l t z ∧ jq1 mg g' := by
    intro k
    induction k with
    | zero =>
      intro _
      refine ⟨f 15, n, g, d7, ?_, hg⟩
      simp only [jrds, hc, jup_self]
      rfl
    | succ k ih =>
      intro hk
      obtain ⟨y, n', g', d7', he, hg'⟩ := ih (by omega)
      generalize hX : jrds tf q qa C Sc S nd ((nd + 1) * 12 - T % 12) lim x k = X at he
      have hXv : X.1 < 2147483648 := by rw [← hX]; exact jrds_v hv
      have hnext : jrds tf q qa C Sc S nd ((nd + 1) * 12 - T % 12) lim x (k + 1) = jrd tf q qa C Sc S nd ((nd + 1) * 12 - T % 12) lim X := by rw [← hX]; rfl
      rw [hnext]
      obtain ⟨v, hdr, hvv⟩ := M_chance_26 (D := D) (nd := nd) (x := X) (lim := lim) (x5 := Int32.ofNat X.2.2.2) (x6 := Int32.ofNat k) (d1 := d1) (cx := cx) (f := jup f 15 y) (g := g') (n := n') (b := b) (l := l) (t := t) (z := z) hXv hn
      have hga := jq1_hi25 (v := v) hg'
      obtain ⟨g1, hcp, hfo1, hc10⟩ := M_copies (D := D) (A := 1) (B := 0) (cx := cx) (f := jup (jup f 15 y) 16 ((jup g' 25 v) 14 0)) (g := jup g' 25 v) (n := n') (b := b) (l := l) (t := t) (z := z) (by omega) (by omega) (by omega)
      have hcp1 : K_m_copies D 1 0 cx (jup (jup f 15 y) 16 ((jup g' 25 v) 14 0)) (jup g' 25 v) n' b l t z = _ := hcp
      have hS0 : rSt C Sc S 0 0 0 (f 19) 0 (jup g' 25 v) := hga.st (by omega) hC hS6 hS
      have h140 : (jup g' 25 v) 14 0 = Int32.ofNat (T / 12) := hS0.1.trans hT.1
      have hPa : rPl q qa C Sc (jup g' 25 v) := rPl_congr hP (fun k hk => hga.1 k (Or.inl hk))
      have hT' : jtm (jtry X.2.2.1 S) T := jtry_tm hT
      have hmod : T % 12 < 12 := Nat.mod_lt T (by omega)
      obtain ⟨y2, n2, g2, hru, hfo2, -, hst2⟩ := M_runs (D := D) (T := T) (nd := nd + 1) (tf := tf) (w9 := jdrw X.1 X.2.1 nd) (S := jtry X.2.2.1 S) (e0 := S.1 3) (p0 := S.1 4) (c0 := S.1 5) (cx := cx) (f := jup (jup f 15 y) 16 ((jup g' 25 v) 14 0)) (g := g1) (n := n') (b := b) (l := l) (t := t) (z := z) (hfo1.pl hPa)
        (by simp (disch := omega) only [jup_ne]; exact jtry_st hC hS6 (hc10.st hC hS6 hS0))
        (Or.inr ⟨T / 12, by omega, by rw [jup_same]; exact h140⟩)
        (by unfold rTw at hTw ⊢; simp (disch := omega) only [jup_ne] at hTw ⊢; exact hTw) hT' (by omega) (by omega) (by omega)
        (by rw [hfo1.2.1 14 (by omega) (by omega) 0 (by omega)]; exact h140)
        (by
          intro d hd1 hd2
          rw [mwnd_g hfo1]
          have htold := hW d (by omega)
          have hg16 : (jup g' 25 v) 1 = mg 1 := hga.1 1 (by omega)
          have hg9 : (jup g' 25 v) 9 = mg 9 := hga.1 9 (by omega)
          unfold mwnd cwnd
          have hn1' : ¬ (Int32.ofNat (T / 12) = -1) := by rw [jnot_one (by omega)]; exact fun q => q
          rw [jup_same, h140, if_neg hn1', if_neg h21, h22, show S.1 0 = Int32.ofNat (T / 12) from hT.1, hg16, hg9, htold, jup_same]
          by_cases hdd : d = T / 12
          · subst hdd
            rw [if_neg (jlt_n (Nat.le_refl _) (by omega))]
            have : Int32.ofNat (T / 12) - Int32.ofNat (T / 12) - 1 < 0 := by rw [Int32.sub_self]; decide
            rw [if_pos this]
          · rw [if_pos (jlt_t (by omega) (by omega))]
            have e1 : Int32.ofNat d - Int32.ofNat (T / 12) = Int32.ofNat (d - T / 12) := (Int32.ofNat_sub d (T / 12) hd1).symm
            have e2 : Int32.ofNat (d - T / 12) - 1 = Int32.ofNat (d - T / 12 - 1) := by
              rw [show (1 : Int32) = Int32.ofNat 1 from rfl, ← Int32.ofNat_sub _ _ (by omega)]
            rw [e1, e2, if_pos (show Int32.ofNat (d - T / 12) < 10 from jlt_t (b := 10) (by omega) (by omega)), if_neg (jnonneg (by omega)), if_pos (show Int32.ofNat (d - T / 12 - 1) < 9 from jlt_t (b := 9) (by omega) (by omega)), jclamp (by omega), jclamp (by omega), jdrw_at (by omega)]
            have := hvv (d - T / 12 - 1) (by omega)
            rw [show d - T / 12 - 1 + 1 = d - T / 12 by omega] at this
            exact this)
      have hq2 : jq1 mg g2 := hga.tr (jq1.of (hfo1.tr hfo2))
      have hg160 : g2 16 0 = 0 + S.1 3 := (hq2.2.1 16 (by omega) (by omega) 0 (by omega)).trans hS.2.2.1
      have e16 : g2 16 1 - g2 16 0 = (cN tf (jdrw X.1 X.2.1 nd) q qa C Sc (jtry X.2.2.1 S) ((nd + 1) * 12 - T % 12)).1 3 := by
        rw [hst2.2.2.1, hg160]; exact jsubc
      have hjr : jrd tf q qa C Sc S nd ((nd + 1) * 12 - T % 12) lim X = (jseed X.1 nd, jdrw X.1 X.2.1 nd, cN tf (jdrw X.1 X.2.1 nd) q qa C Sc (jtry X.2.2.1 S) ((nd + 1) * 12 - T % 12), if (cN tf (jdrw X.1 X.2.1 nd) q qa C Sc (jtry X.2.2.1 S) ((nd + 1) * 12 - T % 12)).1 3 < lim then X.2.2.2 else X.2.2.2 + 1) := rfl
      rw [hjr]
      generalize cN tf (jdrw X.1 X.2.1 nd) q qa C Sc (jtry X.2.2.1 S) ((nd + 1) * 12 - T % 12) = RES at e16
      refine ⟨y2, n2, g2, some (.int (Int32.ofNat (nd + 1))), ?_, hq2⟩
      have hlt : Int32.ofNat k < 10 := jlt_t (b := 10) (by omega) (by omega)
      rw [he, L_m_chance_21, if_pos hlt, hdr, L_m_chance_26, if_pos (jlt_t (by omega) (by omega)), hcp1]
      simp only [jbO_some, jbO_none, jbO_ite, jk_some, jk_none, E_m_chance_58, jsucc, hru, E_m_chance_63, e16, jmf16 hf, E_m_chance_81, jsucc]
      by_cases hlt2 : RES.1 3 < lim
      · simp only [hlt2, if_true, Int32.add_zero]
      · simp only [hlt2, if_false]
  obtain ⟨y, n', g', d7', he, hg'⟩ := key 10 (Nat.le_refl 10)
  refine ⟨y, n', g', ?_, hg'⟩
  rw [he, L_m_chance_21, if_neg (by decide)]
theorem jclr2 {f : Nat → Int32} {v : Int32} (h : jneu f) : jup (jup (jup (jup (jup (jup (jup (jup f 21 1) 22 v) 16 0) 17 0) 18 0) 19 0) 20 0) 21 0 = jup f 22 v := by
  obtain ⟨-, -, h16, h17, h18, h19, h20, h21⟩ := h
  funext k
  by_cases k21 : k = 21
  · subst k21; rw [jup_same, jup_ne (by omega), h21]
  rw [jup_ne k21]
  by_cases k20 : k = 20
  · subst k20; rw [jup_same, jup_ne (by omega), h20]
  rw [jup_ne k20]
  by_cases k19 : k = 19
  · subst k19; rw [jup_same, jup_ne (by omega), h19]
  rw [jup_ne k19]
  by_cases k18 : k = 18
  · subst k18; rw [jup_same, jup_ne (by omega), h18]
  rw [jup_ne k18]
  by_cases k17 : k = 17
  · subst k17; rw [jup_same, jup_ne (by omega), h17]
  rw [jup_ne k17]
  by_cases k16 : k = 16
  · subst k16; rw [jup_same, jup_ne (by omega), h16]
  rw [jup_ne k16]
  by_cases k22 : k = 22
  · subst k22; rw [jup_same, jup_same]
  rw [jup_ne k22, jup_ne k21, jup_ne k22]
theorem A_chance {D : Nat} {a x v : Int32} {f : Nat → Int32} {g : Nat → Nat → Int32} {n2 : Nat → Nat → Int64} {p : Nat → Nat → Int32} {pa : Nat → Nat → Nat → Int32} {s : Nat → Nat → Int32} {sa : Nat → Nat → Nat → Int32} {sw : Bool} {rp : Value} {mf : Nat → Int32} {mg : Nat → Nat → Int32} {mn : Nat → Nat → Int64} {mb : Nat → Nat → Int32} {ml : Nat → Int64} (h : RR f g p pa s sa sw mf mg mb) : ∀ (t : List jE) (z : Nat × Nat × Nat × (Nat → Int32)), ∃ r : Int32, ∃ f' g' n2' p' pa' s' sa' sw' rp', K_c_chance D a x v f g n2 p pa s sa sw rp t z = some (.inl (some (.int r)), (jX f' g' n2' p' pa' s' sa' sw' rp' t, z)) ∧ ∀ (cx : jCX) (t1 : List jE) (z1 : Nat × Nat × Nat × (Nat → Int32)), ∃ mf' mg' mn' mb' ml', K_m_chance D a x v cx mf mg mn mb ml t1 z1 = some (.inl (some (.int r)), (jXt cx (jY mf' mg' mn' mb' ml' t1), z1)) ∧ RR f' g' p' pa' s' sa' sw' mf' mg' mb' := by
  intro t z
  obtain ⟨C, Sc, T, hP, hC, hS6, hT, hT2, hjn, hmn, hfr, hTw, hAt, hW, -, hm15⟩ := RR_ex (n2 := n2) (rp := rp) (mn := mn) (ml := ml) h
  have hr := RR_congr h (by intro k hk; simp (disch := omega) only [jup_ne]) (by intro k hk; simp (disch := omega) only [jup_ne]) rfl rfl (by constructor <;> simp (disch := omega) only [jup_ne]) (by constructor <;> simp (disch := omega) only [jup_ne]) (by intro k hk; simp (disch := omega) only [jup_ne]) (jq1.rf) rfl (f' := f) (g' := g) (s' := s) (sa' := sa) (p' := p) (pa' := pa) (sw' := sw) (mf' := jup mf 0 0) (mg' := mg) (mb' := mb)
  have h10' : ¬ (1 : Int32) = 0 := by decide
  have ex : (K_c_chance D a x v f g n2 p pa s sa sw rp t z = some (.inl (some (.int (-1))), (jX f g n2 p pa s sa sw rp t, z))) → (∀ cx t z, K_m_chance D a x v cx mf mg mn mb ml t z = some (.inl (some (.int (-1))), (jXt cx (jY (jup mf 0 0) mg mn mb ml t), z))) → ∃ r f' g' n2' p' pa' s' sa' sw' rp', K_c_chance D a x v f g n2 p pa s sa sw rp t z = some (.inl (some (.int r)), (jX f' g' n2' p' pa' s' sa' sw' rp' t, z)) ∧ ∀ cx t1 z1, ∃ mf' mg' mn' mb' ml', K_m_chance D a x v cx mf mg mn mb ml t1 z1 = some (.inl (some (.int r)), (jXt cx (jY mf' mg' mn' mb' ml' t1), z1)) ∧ RR f' g' p' pa' s' sa' sw' mf' mg' mb' := fun h1 h2 => ⟨-1, f, g, n2, p, pa, s, sa, sw, rp, h1, fun cx t z => ⟨jup mf 0 0, mg, mn, mb, ml, h2 cx t z, hr⟩⟩
  by_cases ha : a < 0
  · exact ex (by simp only [E_c_chance, ha, if_true]) (fun cx t z => by simp only [E_m_chance, ha, if_true])
  by_cases h0 : x < 1
  · exact ex (by simp only [E_c_chance, ha, h0, if_true, if_false]) (fun cx t z => by simp only [E_m_chance, E_m_isDays, ha, h0, if_true, if_false, jbO_some, jbO_none, jbO_ite, jk_some, jk_none, E_m_chance_7])
  by_cases h9 : 9 < x
  · exact ex (by simp only [E_c_chance, ha, h0, h9, if_true, if_false]) (fun cx t z => by simp only [E_m_chance, E_m_isDays, ha, h0, h9, if_true, if_false, jbO_some, jbO_none, jbO_ite, jk_some, jk_none, E_m_chance_7])
  by_cases hv0 : v < 0
  · exact ex (by simp only [E_c_chance, ha, h0, h9, hv0, if_true, if_false]) (fun cx t z => by simp only [E_m_chance, E_m_isDays, ha, h0, h9, hv0, h10', if_true, if_false, jbO_some, jbO_none, jbO_ite, jk_some, jk_none, E_m_chance_7])
  by_cases hv9 : 9999 < v
  · exact ex (by simp only [E_c_chance, ha, h0, h9, hv0, hv9, if_true, if_false]) (fun cx t z => by simp only [E_m_chance, E_m_isDays, ha, h0, h9, hv0, hv9, h10', if_true, if_false, jbO_some, jbO_none, jbO_ite, jk_some, jk_none, E_m_chance_7])
  obtain ⟨n, hn1, hn, rfl⟩ : ∃ n, 1 ≤ n ∧ n ≤ 9 ∧ x = Int32.ofNat n := by
    rcases jcases x with hneg | ⟨k, hk, rfl⟩
    · exact absurd (Int32.lt_trans hneg (by decide)) h0
    · refine ⟨k, ?_, ?_, rfl⟩
      · rw [show (1 : Int32) = Int32.ofNat 1 from rfl, jltn (by omega) (by omega)] at h0; omega
      · rw [show (9 : Int32) = Int32.ofNat 9 from rfl, jltn (by omega) hk] at h9; omega
  obtain ⟨sd, hsd, rfl⟩ := (jcases a).resolve_left ha
  let x0 : jRd := (sd, g 2, (s 2, sa 2), 0)
  let f1 := jup (jup f 21 1) 22 (s 0 0)
  obtain ⟨n2a, d9', hcl⟩ := S_chance_34 (D := D) (T := T) (n := n) (C := C) (Sc := Sc) (x := x0) (lim := v) (d1 := some (.int (Int32.ofNat sd))) (d9 := none) (f := f1) (g := g) (n2 := n2) (p := p) (pa := pa) (s := s) (sa := sa) (sw := sw) (rp := rp) (t := t) (z := z) hsd hn1 hn rfl rfl rfl hT hP.1 (by show (jup (jup f 21 1) 22 (s 0 0)) 15 < 0; simp (disch := omega) only [jup_ne]; exact hm15)
  have hM := fun {cx t z} => M_chance_21 (D := D) (T := T) (nd := n) (tf := f1) (x := x0) (lim := v) (d1 := some (.int (Int32.ofNat sd))) (d7 := none) (cx := cx) (f := jup mf 0 0) (g := mg) (n := mn) (b := mb) (l := ml) (t := t) (z := z) hsd hn1 hn rfl hT hT2 hP hAt.2.2.1 jq1.rf (by rw [jup_ne (by omega)]; exact hmn.1)
    (by show rTw (jup (jup f 21 1) 22 (s 0 0)) (jup mf 0 0) Sc; unfold rTw at hTw ⊢; simp (disch := omega) only [jup_ne] at hTw ⊢; exact hTw)
    (by show ¬ (jup (jup f 21 1) 22 (s 0 0)) 21 = 0; rw [jup_ne (by omega), jup_same]; decide) (by show (jup (jup f 21 1) 22 (s 0 0)) 22 = s 0 0; rw [jup_same])
    (fun d hd => by
      have := hW (g 2) 0 d hd
      unfold mwnd cwnd at this
      have h21 : f 21 = 0 := hjn.2.2.2.2.2.2.2
      have h16 : jup (jup mf 0 0) 15 0 16 = -1 := by rw [jup_ne (by omega), jup_ne (by omega)]; exact hmn.1
      rw [if_pos h16, if_pos h21] at this
      exact this)
  generalize hX : jrds f1 (p (jq sw)) (pa (jq sw)) C Sc (s 0, sa 0) n ((n + 1) * 12 - T % 12) v x0 10 = X at hcl hM
  refine ⟨Int32.ofNat X.2.2.2, jup f 22 (s 0 0), jup g 2 X.2.1, n2a, p, pa, jup s 2 X.2.2.1.1, jup sa 2 X.2.2.1.2, sw, rp, ?_, fun cx t1 z1 => ?_⟩
  · have hcl' : K_c_chance_34 D (some (.int (Int32.ofNat sd))) (Int32.ofNat n) v (Int64.ofNat sd) 0 0 none (jup (jup f 21 1) 22 (s 0 0)) g n2 p pa s sa sw rp t z = _ := hcl
    simp only [E_c_chance, ha, h0, h9, hv0, hv9, if_false, jto64 hsd]
    rw [hcl', L_c_chance_34, if_neg (by decide)]
    simp only [E_q_clear, jbO_some, jbO_none, jbO_ite, jk_some, jk_none, E_c_chance_85]
    rw [show f1 = jup (jup f 21 1) 22 (s 0 0) from rfl, jclr2 hjn]
  · obtain ⟨y, n', g', hm, hq⟩ := hM (cx := cx) (t := t1) (z := z1)
    refine ⟨jup (jup mf 0 0) 15 y, g', n', mb, ml, ?_, ?_⟩
    · simp only [E_m_chance, E_m_isDays, ha, h0, h9, hv0, hv9, h10', if_false, jbO_some, jbO_none, jbO_ite, jk_some, jk_none, E_m_chance_7]
      exact hm
    · exact RR_congr h (by intro k hk; simp (disch := omega) only [jup_ne]) (by intro k hk; simp (disch := omega) only [jup_ne]) rfl rfl (by constructor <;> simp (disch := omega) only [jup_ne]) (by constructor <;> simp (disch := omega) only [jup_ne]) (by intro k hk; simp (disch := omega) only [jup_ne]) (hq) rfl (f' := jup f 22 (s 0 0)) (g' := jup g 2 X.2.1) (s' := jup s 2 X.2.2.1.1) (sa' := jup sa 2 X.2.2.1.2) (p' := p) (pa' := pa) (sw' := sw) (mf' := jup (jup mf 0 0) 15 y) (mg' := g') (mb' := mb)

-- CALL BY CALL: count, idle
def jpop (x : Int32) : Nat → Int32
  | 0 => 0
  | k + 1 => jpop x k + ((x >>> (Int32.ofNat k &&& 31)) &&& 1)
theorem M_bitsOf {D : Nat} {x : Int32} {cx : jCX} {f : Nat → Int32} {g : Nat → Nat → Int32} {n : Nat → Nat → Int64} {b : Nat → Nat → Int32} {l : Nat → Int64} {t : List jE} {z : Nat × Nat × Nat × (Nat → Int32)} : K_m_bitsOf D x cx f g n b l t z = some (.inl (some (.int (jpop x 30))), (jXt cx (jY f g n b l t), z)) := by
  rw [E_m_bitsOf]
  have key : ∀ k, k ≤ 30 → K_m_bitsOf_4 D x 0 0 cx f g n b l t z = K_m_bitsOf_4 D x (jpop x k) (Int32.ofNat k) cx f g n b l t z := by
    intro k
    induction k with
    | zero => intro _; rfl
    | succ k ih =>
      intro hk
      have hlt : Int32.ofNat k < 30 := jlt_t (b := 30) (by omega) (by omega)
      rw [ih (by omega), L_m_bitsOf_4]
      simp only [hlt, if_true, jpop, jsucc]
  rw [key 30 (Nat.le_refl 30), L_m_bitsOf_4]
  simp only [show ¬ (Int32.ofNat 30 < 30) by decide, if_false]
theorem S_j_bitCount {D k : Nat} {f : Nat → Int32} {g : Nat → Nat → Int32} {n2 : Nat → Nat → Int64} {p : Nat → Nat → Int32} {pa : Nat → Nat → Nat → Int32} {s : Nat → Nat → Int32} {sa : Nat → Nat → Nat → Int32} {sw : Bool} {rp : Value} {t : List jE} {z : Nat × Nat × Nat × (Nat → Int32)} (hk : k < 64) : K_j_bitCount D (Int32.ofNat k) f g n2 p pa s sa sw rp t z = some (.inl (some (.int (jpop (Int32.ofNat k) 30))), (jX f g n2 p pa s sa sw rp t, z)) := by
  rw [E_j_bitCount]
  congr 1; congr 1; congr 1; congr 1; congr 1
  revert k
  decide +kernel
theorem M_cropsum {D : Nat} {C Sc : Nat} {q : Nat → Int32} {qa : Nat → Nat → Int32} {v : Nat → Int32} {d1 : Option Value} {cx : jCX} {f : Nat → Int32} {g : Nat → Nat → Int32} {n : Nat → Nat → Int64} {b : Nat → Nat → Int32} {l : Nat → Int64} {t : List jE} {z : Nat × Nat × Nat × (Nat → Int32)} (hP : rPl q qa C Sc g) (hv : ∀ c, c < C → g 20 c = v c) : K_m_count_49 D d1 0 0 cx f g n b l t z = some (.inl (some (.int (jsum (fun _ => true) v C))), (jXt cx (jY f g n b l t), z)) := by
  have hC : C ≤ 30 := hP.1.2.1
  have key : ∀ k, k ≤ C → K_m_count_49 D d1 0 0 cx f g n b l t z = K_m_count_49 D d1 (jsum (fun _ => true) v k) (Int32.ofNat k) cx f g n b l t z := by
    intro k
    induction k with
    | zero => intro _; rfl
    | succ k ih =>
      intro hk
      have hlt : Int32.ofNat k < Int32.ofNat C := jlt_t (by omega) (by omega)
      have e20 := hv k (by omega)
      rw [ih (by omega), L_m_count_49, M_cells hP]
      simp (disch := omega) only [jbO_some, jbO_none, jbO_ite, jk_some, jk_none, E_m_count_52, hlt, if_true, jout_f, if_false, jclamp, e20, jsucc, jsum]
  rw [key C (Nat.le_refl C), L_m_count_49, M_cells hP]
  simp only [jbO_some, jbO_none, jbO_ite, jk_some, jk_none, E_m_count_52, show ¬ (Int32.ofNat C < Int32.ofNat C) from jlt_n (by omega) (by omega), if_false]
theorem jlt0 {r : Nat} (hr : r < 2147483648) : (0 < Int32.ofNat r) = (0 < r) := by
  rw [show (0 : Int32) = Int32.ofNat 0 from rfl, jltn (by omega) hr]
theorem jsum_ripe {C : Nat} {S : jS} (hC : C ≤ 30) (h : jCr C S) : jsum (bt (jset (jripe S) 30)) (S.2 0) 30 = jsum (fun _ => true) (S.2 0) C := by
  rw [jsum_cut (C := C) hC (fun c h1 h2 => Or.inr (h.2 c h1 h2))]
  apply jsum_congr
  intro c hc
  obtain ⟨r, hr, he⟩ := h.1 c hc
  rw [bt_jset (by omega) (by omega)]
  by_cases hr0 : r = 0
  · subst hr0; exact Or.inr ⟨he, he⟩
  · refine Or.inl ⟨?_, rfl⟩
    have : 0 < S.2 0 c := by rw [he, jlt0 (by omega)]; omega
    simp [jripe, this]; omega
theorem A_count {D : Nat} {a : Int32} {f : Nat → Int32} {g : Nat → Nat → Int32} {n2 : Nat → Nat → Int64} {p : Nat → Nat → Int32} {pa : Nat → Nat → Nat → Int32} {s : Nat → Nat → Int32} {sa : Nat → Nat → Nat → Int32} {sw : Bool} {rp : Value} {mf : Nat → Int32} {mg : Nat → Nat → Int32} {mn : Nat → Nat → Int64} {mb : Nat → Nat → Int32} {ml : Nat → Int64} (h : RR f g p pa s sa sw mf mg mb) : ∀ (t : List jE) (z : Nat × Nat × Nat × (Nat → Int32)), ∃ r : Int32, ∃ f' g' n2' p' pa' s' sa' sw' rp', K_c_count D a f g n2 p pa s sa sw rp t z = some (.inl (some (.int r)), (jX f' g' n2' p' pa' s' sa' sw' rp' t, z)) ∧ ∀ (cx : jCX) (t1 : List jE) (z1 : Nat × Nat × Nat × (Nat → Int32)), ∃ mf' mg' mn' mb' ml', K_m_count D a cx mf mg mn mb ml t1 z1 = some (.inl (some (.int r)), (jXt cx (jY mf' mg' mn' mb' ml' t1), z1)) ∧ RR f' g' p' pa' s' sa' sw' mf' mg' mb' := by
  intro t z
  obtain ⟨C, Sc, T, hP, hC, hS6, hT, hT2, hjn, hmn, hfr, hTw, hAt, hW, -, hm15⟩ := RR_ex (n2 := n2) (rp := rp) (mn := mn) (ml := ml) h
  have hr := RR_congr h (by intro k hk; simp (disch := omega) only [jup_ne]) (by intro k hk; simp (disch := omega) only [jup_ne]) rfl rfl (by constructor <;> simp (disch := omega) only [jup_ne]) (by constructor <;> simp (disch := omega) only [jup_ne]) (by intro k hk; simp (disch := omega) only [jup_ne]) (jq1.rf) rfl (f' := f) (g' := g) (s' := s) (sa' := sa) (p' := p) (pa' := pa) (sw' := sw) (mf' := jup mf 0 0) (mg' := mg) (mb' := mb)
  obtain ⟨b14, b15, b16, b17, b18, b19, c20, -, -⟩ := fr0 hfr
  dsimp only at b14 b15 b16 b17 b18 b19 c20
  obtain ⟨q1, q2, q3, q4, -, -, q5, -, q9⟩ := hP.2.1
  obtain ⟨k2, hk2, hk2e⟩ := hfr.2.2.2.2.1
  dsimp only at hk2e
  obtain ⟨_, _, _, _, _, _, _, _, hU, hN, _, _, _⟩ := id h
  obtain ⟨u, u1, u2, u3, -, -⟩ := hU
  obtain ⟨nn, n1, n2e, n3, n4, n5, -⟩ := hN
  have ex : ∀ r : Int32, (∀ t z, K_c_count D a f g n2 p pa s sa sw rp t z = some (.inl (some (.int r)), (jX f g n2 p pa s sa sw rp t, z))) → (∀ cx t z, K_m_count D a cx mf mg mn mb ml t z = some (.inl (some (.int r)), (jXt cx (jY (jup mf 0 0) mg mn mb ml t), z))) → ∀ (t : List jE) (z : Nat × Nat × Nat × (Nat → Int32)), ∃ r : Int32, ∃ f' g' n2' p' pa' s' sa' sw' rp', K_c_count D a f g n2 p pa s sa sw rp t z = some (.inl (some (.int r)), (jX f' g' n2' p' pa' s' sa' sw' rp' t, z)) ∧ ∀ (cx : jCX) (t1 : List jE) (z1 : Nat × Nat × Nat × (Nat → Int32)), ∃ mf' mg' mn' mb' ml', K_m_count D a cx mf mg mn mb ml t1 z1 = some (.inl (some (.int r)), (jXt cx (jY mf' mg' mn' mb' ml' t1), z1)) ∧ RR f' g' p' pa' s' sa' sw' mf' mg' mb' := fun r h1 h2 t z => ⟨r, f, g, n2, p, pa, s, sa, sw, rp, h1 t z, fun cx t z => ⟨jup mf 0 0, mg, mn, mb, ml, h2 cx t z, hr⟩⟩
  revert t z
  by_cases w0 : a = 0
  · exact ex (p (jq sw) 1) (fun t z => by simp +decide only [E_c_count, w0, if_true]) (fun cx t z => by simp +decide only [E_m_count, w0, if_true, q1])
  by_cases w1 : a = 1
  · exact ex (p (jq sw) 2) (fun t z => by simp +decide only [E_c_count, w0, w1, if_true, if_false]) (fun cx t z => by simp +decide only [E_m_count, w0, w1, if_true, if_false, q2])
  by_cases w2 : a = 2
  · exact ex (p (jq sw) 3) (fun t z => by simp +decide only [E_c_count, w0, w1, w2, if_true, if_false]) (fun cx t z => by simp +decide only [E_m_count, w0, w1, w2, if_true, if_false, q3])
  by_cases w3 : a = 3
  · exact ex (p (jq sw) 4) (fun t z => by simp +decide only [E_c_count, w0, w1, w2, w3, if_true, if_false]) (fun cx t z => by simp +decide only [E_m_count, w0, w1, w2, w3, if_true, if_false, q4])
  by_cases w4 : a = 4
  · exact ex (p (jq sw) 5) (fun t z => by simp +decide only [E_c_count, w0, w1, w2, w3, w4, if_true, if_false]) (fun cx t z => by simp +decide only [E_m_count, w0, w1, w2, w3, w4, if_true, if_false, q5])
  by_cases w5 : a = 5
  · exact ex (p (jq sw) 9) (fun t z => by simp +decide only [E_c_count, w0, w1, w2, w3, w4, w5, if_true, if_false]) (fun cx t z => by simp +decide only [E_m_count, w0, w1, w2, w3, w4, w5, if_true, if_false, q9])
  by_cases w6 : a = 6
  · exact ex (s 0 1) (fun t z => by simp +decide only [E_c_count, w0, w1, w2, w3, w4, w5, w6, if_true, if_false]) (fun cx t z => by simp +decide only [E_m_count, w0, w1, w2, w3, w4, w5, w6, if_true, if_false, b15])
  by_cases w7 : a = 7
  · exact ex (s 0 0) (fun t z => by simp +decide only [E_c_count, w0, w1, w2, w3, w4, w5, w6, w7, if_true, if_false]) (fun cx t z => by simp +decide only [E_m_count, w0, w1, w2, w3, w4, w5, w6, w7, if_true, if_false, b14])
  by_cases w8 : a = 8
  · have hM := fun {cx t z} => M_cropsum (D := D) (v := sa 0 0) (d1 := some (.int 8)) (cx := cx) (f := jup mf 0 0) (n := mn) (b := mb) (l := ml) (t := t) (z := z) hP c20
    have hJ := jsum_ripe hC hfr.2.2.2.1
    dsimp only at hJ
    refine ex (jsum (fun _ => true) (sa 0 0) C) (fun t z => ?_) (fun cx t z => ?_)
    · subst w8
      simp +decide (disch := omega) only [E_c_count, E_c_countMore, w0, w1, w2, w3, w4, w5, w6, w7, if_true, if_false, S_s_ripe, jbO_some, jbO_none, jbO_ite, jk_some, jk_none, E_c_countMore_7, S_s_cropOf, E_c_countMore_8, E_c_count_37, hJ]
    · subst w8
      simp +decide only [E_m_count, w0, w1, w2, w3, w4, w5, w6, w7, if_true, if_false, hM]
  by_cases w9 : a = 9
  · refine ex (s 0 3) (fun t z => ?_) (fun cx t z => ?_)
    · simp +decide only [E_c_count, E_c_countMore, w0, w1, w2, w3, w4, w5, w6, w7, w8, w9, if_true, if_false, jbO_some, jbO_none, jbO_ite, jk_some, jk_none, E_c_count_37]
    · simp +decide only [E_m_count, w0, w1, w2, w3, w4, w5, w6, w7, w8, w9, if_true, if_false, b16]
  by_cases w10 : a = 10
  · refine ex (s 0 4) (fun t z => ?_) (fun cx t z => ?_)
    · simp +decide only [E_c_count, E_c_countMore, w0, w1, w2, w3, w4, w5, w6, w7, w8, w9, w10, if_true, if_false, jbO_some, jbO_none, jbO_ite, jk_some, jk_none, E_c_count_37]
    · simp +decide only [E_m_count, w0, w1, w2, w3, w4, w5, w6, w7, w8, w9, w10, if_true, if_false, b17]
  by_cases w11 : a = 11
  · refine ex (s 0 5) (fun t z => ?_) (fun cx t z => ?_)
    · simp +decide only [E_c_count, E_c_countMore, w0, w1, w2, w3, w4, w5, w6, w7, w8, w9, w10, w11, if_true, if_false, jbO_some, jbO_none, jbO_ite, jk_some, jk_none, E_c_count_37]
    · simp +decide only [E_m_count, w0, w1, w2, w3, w4, w5, w6, w7, w8, w9, w10, w11, if_true, if_false, b18]
  by_cases w12 : a = 12
  · refine ex (jpop (Int32.ofNat k2) 30) (fun t z => ?_) (fun cx t z => ?_)
    · simp +decide (disch := omega) only [E_c_count, E_c_countMore, w0, w1, w2, w3, w4, w5, w6, w7, w8, w9, w10, w11, w12, if_true, if_false, hk2e, S_j_bitCount, jbO_some, jbO_none, jbO_ite, jk_some, jk_none, E_c_countMore_25, E_c_count_37]
    · simp +decide only [E_m_count, w0, w1, w2, w3, w4, w5, w6, w7, w8, w9, w10, w11, w12, if_true, if_false, b19, hk2e, M_bitsOf, jbO_some, jbO_none, jbO_ite, jk_some, jk_none, E_m_count_84]
  by_cases w13 : a = 13
  · refine ex (f 24) (fun t z => ?_) (fun cx t z => ?_)
    · simp +decide only [E_c_count, E_c_countMore, w0, w1, w2, w3, w4, w5, w6, w7, w8, w9, w10, w11, w12, w13, if_true, if_false, jbO_some, jbO_none, jbO_ite, jk_some, jk_none, E_c_count_37]
    · have : mf 23 = f 24 := by rw [n3, n2e]
      simp +decide only [E_m_count, w0, w1, w2, w3, w4, w5, w6, w7, w8, w9, w10, w11, w12, w13, if_true, if_false, this]
  by_cases w14 : a = 14
  · refine ex (if f 25 = -1 then f 24 else f 25) (fun t z => ?_) (fun cx t z => ?_)
    · have hk : K_n_knownCount D f g n2 p pa s sa sw rp t z = some (.inl (some (.int (if f 25 = -1 then f 24 else f 25))), (jX f g n2 p pa s sa sw rp t, z)) := by
        rw [E_n_knownCount]
        by_cases h25 : f 25 = -1
        · simp only [h25, if_true]
        · simp only [h25, if_false]
          rcases n5 with n5 | ⟨k, hk, n5⟩
          · exact absurd n5 h25
          · rw [n5, n2e]
            by_cases hlt : nn < k
            · omega
            · rw [if_neg (jlt_n (by omega) (by omega))]
      simp +decide only [E_c_count, E_c_countMore, w0, w1, w2, w3, w4, w5, w6, w7, w8, w9, w10, w11, w12, w13, w14, if_true, if_false, hk, jbO_some, jbO_none, jbO_ite, jk_some, jk_none, E_c_countMore_33, E_c_count_37]
    · have e23 : (jup mf 0 0) 23 = f 24 := by rw [jup_ne (by omega), n3, n2e]
      have e24 : (jup mf 0 0) 24 = f 25 := by rw [jup_ne (by omega), n4]
      simp +decide only [E_m_count, w0, w1, w2, w3, w4, w5, w6, w7, w8, w9, w10, w11, w12, w13, w14, if_true, if_false, E_m_knownMany, e23, e24]
      split <;> simp only [jbO_some, jbO_none, jbO_ite, jk_some, jk_none, E_m_count_90]
  by_cases w15 : a = 15
  · refine ex (f 23) (fun t z => ?_) (fun cx t z => ?_)
    · simp +decide only [E_c_count, E_c_countMore, w0, w1, w2, w3, w4, w5, w6, w7, w8, w9, w10, w11, w12, w13, w14, w15, if_true, if_false, jbO_some, jbO_none, jbO_ite, jk_some, jk_none, E_c_count_37]
    · have : mf 18 = f 23 := by rw [u3, u2]
      simp +decide only [E_m_count, w0, w1, w2, w3, w4, w5, w6, w7, w8, w9, w10, w11, w12, w13, w14, w15, if_true, if_false, this]
  refine ex (-1) (fun t z => ?_) (fun cx t z => ?_)
  · simp +decide only [E_c_count, E_c_countMore, w0, w1, w2, w3, w4, w5, w6, w7, w8, w9, w10, w11, w12, w13, w14, w15, if_false, jbO_some, jbO_none, jbO_ite, jk_some, jk_none, E_c_count_37]
  · simp +decide only [E_m_count, w0, w1, w2, w3, w4, w5, w6, w7, w8, w9, w10, w11, w12, w13, w14, w15, if_false]

-- CALL BY CALL: allSeen, the reference's filling and the call
theorem M_ripe {D : Nat} {C Sc : Nat} {q : Nat → Int32} {qa : Nat → Nat → Int32} {S : jS} {d3 d4 d5 : Option Value} {cx : jCX} {f : Nat → Int32} {g : Nat → Nat → Int32} {n : Nat → Nat → Int64} {b : Nat → Nat → Int32} {l : Nat → Int64} {t : List jE} {z : Nat × Nat × Nat × (Nat → Int32)} (hP : rPl q qa C Sc g) (hv : ∀ c, c < C → g 20 c = S.2 0 c) : K_m_allSeen_7 D 0 0 d3 d4 d5 cx f g n b l t z = K_m_allSeen_28 D (jset (jripe S) C) 0 d3 d4 d5 cx f g n b l t z := by
  have hC : C ≤ 30 := hP.1.2.1
  have key : ∀ k, k ≤ C → K_m_allSeen_7 D 0 0 d3 d4 d5 cx f g n b l t z = K_m_allSeen_7 D (jset (jripe S) k) (Int32.ofNat k) d3 d4 d5 cx f g n b l t z := by
    intro k
    induction k with
    | zero => intro _; rfl
    | succ k ih =>
      intro hk
      have hlt : Int32.ofNat k < Int32.ofNat C := jlt_t (by omega) (by omega)
      have e20 := hv k (by omega)
      rw [ih (by omega), L_m_allSeen_7, M_cells hP]
      simp (disch := omega) only [jbO_some, jbO_none, jbO_ite, jk_some, jk_none, E_m_allSeen_10, hlt, if_true, jout_f, if_false, jclamp, e20, E_m_allSeen_22, jsucc, jset, jripe, decide_eq_true_eq, Int32.or_zero]
      split <;> rfl
  rw [key C (Nat.le_refl C), L_m_allSeen_7, M_cells hP]
  simp only [jbO_some, jbO_none, jbO_ite, jk_some, jk_none, E_m_allSeen_10, show ¬ (Int32.ofNat C < Int32.ofNat C) from jlt_n (by omega) (by omega), if_false]
theorem M_allSeen_28 {D : Nat} {C Sc : Nat} {tf q : Nat → Int32} {qa : Nat → Nat → Int32} {S : jS} {rip : Int32} {d3 d4 d5 : Option Value} {cx : jCX} {f : Nat → Int32} {g : Nat → Nat → Int32} {n : Nat → Nat → Int64} {b : Nat → Nat → Int32} {l : Nat → Int64} {t : List jE} {z : Nat × Nat × Nat × (Nat → Int32)} (hA : rAt q qa C Sc S 0 0 0 0 f g) (hT : rTw tf f Sc) :
    ∃ y n' v, (∃ d3', K_m_allSeen_28 D rip 0 d3 d4 d5 cx f g n b l t z = K_m_allSeen_28 D rip (Int32.ofNat Sc) d3' d4 d5 cx (jup f 15 y) (jup g 26 v) n' b l t z) ∧ ∀ i, i < Sc → v i = jset (csees tf q qa S.1 S.2 (mwnd f g (S.1 0)) i) C := by
  have hP := hA.2.1
  have hC : C ≤ 30 := hP.1.2.1
  have hS6 : Sc ≤ 6 := hP.1.2.2.2.2.2.1
  have h12 : g 1 2 = Int32.ofNat Sc := hP.2.1.2.2.1.trans hP.1.2.2.2.2.1
  have hgg : ∀ v k, k < 26 → jup g 26 v k = g k := fun v k hk => jup_ne (by omega)
  -- one scare
  have inner : ∀ (i : Nat) (y : Int32) (n' : Nat → Nat → Int64) (v : Nat → Int32), i < Sc → ∀ k, k ≤ C → ∃ y2 n2, K_m_allSeen_41 D rip (Int32.ofNat i) 0 d4 d5 cx (jup f 15 y) (jup g 26 (jup v i 0)) n' b l t z = K_m_allSeen_41 D rip (Int32.ofNat i) (Int32.ofNat k) d4 d5 cx (jup f 15 y2) (jup g 26 (jup v i (jset (csees tf q qa S.1 S.2 (mwnd f g (S.1 0)) i) k))) n2 b l t z := by
    intro i y n' v hi k
    induction k with
    | zero => intro _; exact ⟨y, n', rfl⟩
    | succ k ih =>
      intro hk
      obtain ⟨y2, n2, he⟩ := ih (by omega)
      have hlt : Int32.ofNat k < Int32.ofNat C := jlt_t (by omega) (by omega)
      obtain ⟨y3, n3, hs⟩ := M_isSeen (D := D) (c := k) (i := i) (tf := tf) (cx := cx) (n := n2) (b := b) (l := l) (t := t) (z := z) (rAt_f (y := y2) (rAt_g hA (hgg (jup v i (jset (csees tf q qa S.1 S.2 (mwnd f g (S.1 0)) i) k))))) (rTw_f (y := y2) hT) (by omega) hi
      rw [mwnd_f, mwnd_g' (hgg _), jup_jup] at hs
      have hs1 : K_m_isSeen D 0 (Int32.ofNat i) (Int32.ofNat k) cx (jup f 15 y2) (jup g 26 (jup v i (jset (csees tf q qa S.1 S.2 (mwnd f g (S.1 0)) i) k))) n2 b l t z = _ := hs
      refine ⟨y3, n3, ?_⟩
      rw [he, L_m_allSeen_41, M_cells (rPl_congr hP (fun k hk => hgg _ k (by omega)))]
      simp (disch := omega) only [jbO_some, jbO_none, jbO_ite, jk_some, jk_none, E_m_allSeen_44, hlt, if_true, jout_f, if_false, jclamp, hs1, E_m_allSeen_55, E_m_allSeen_61, jsucc, jset, jup_same, jup_jup, Int32.or_zero]
      cases hc : csees tf q qa S.1 S.2 (mwnd f g (S.1 0)) i k with
      | true => simp
      | false => simp
  have key : ∀ k, k ≤ Sc → ∃ y n' v, (∃ d3', K_m_allSeen_28 D rip 0 d3 d4 d5 cx f g n b l t z = K_m_allSeen_28 D rip (Int32.ofNat k) d3' d4 d5 cx (jup f 15 y) (jup g 26 v) n' b l t z) ∧ ∀ i, i < k → v i = jset (csees tf q qa S.1 S.2 (mwnd f g (S.1 0)) i) C := by
    intro k
    induction k with
    | zero => intro _; exact ⟨f 15, n, g 26, ⟨d3, by rw [jup_self, jup_self]; rfl⟩, fun i hi => absurd hi (by omega)⟩
    | succ k ih =>
      intro hk
      obtain ⟨y, n', v, ⟨d3', he⟩, hv⟩ := ih (by omega)
      obtain ⟨y2, n2, hin⟩ := inner k y n' v (by omega) C (Nat.le_refl C)
      have hlt : Int32.ofNat k < Int32.ofNat Sc := jlt_t (by omega) (by omega)
      refine ⟨y2, n2, jup v k (jset (csees tf q qa S.1 S.2 (mwnd f g (S.1 0)) k) C), ⟨some (.int (Int32.ofNat C)), ?_⟩, ?_⟩
      · rw [he, L_m_allSeen_28, hgg v 1 (by omega), h12, if_pos hlt]
        simp (disch := omega) only [jout_f, if_false, jclamp, jup_same, jup_jup]
        rw [hin, L_m_allSeen_41, M_cells (rPl_congr hP (fun k hk => hgg _ k (by omega)))]
        simp only [jbO_some, jbO_none, jbO_ite, jk_some, jk_none, E_m_allSeen_44, show ¬ (Int32.ofNat C < Int32.ofNat C) from jlt_n (by omega) (by omega), if_false, jsucc]
      · intro i hi
        by_cases hik : i = k
        · subst hik; rw [jup_same]
        · rw [jup_ne hik]; exact hv i (by omega)
  exact key Sc (Nat.le_refl Sc)
theorem A_allSeen {D : Nat} {f : Nat → Int32} {g : Nat → Nat → Int32} {n2 : Nat → Nat → Int64} {p : Nat → Nat → Int32} {pa : Nat → Nat → Nat → Int32} {s : Nat → Nat → Int32} {sa : Nat → Nat → Nat → Int32} {sw : Bool} {rp : Value} {mf : Nat → Int32} {mg : Nat → Nat → Int32} {mn : Nat → Nat → Int64} {mb : Nat → Nat → Int32} {ml : Nat → Int64} (h : RR f g p pa s sa sw mf mg mb) : ∀ (t : List jE) (z : Nat × Nat × Nat × (Nat → Int32)), ∃ r : Int32, ∃ f' g' n2' p' pa' s' sa' sw' rp', K_c_allSeen D f g n2 p pa s sa sw rp t z = some (.inl (some (.int r)), (jX f' g' n2' p' pa' s' sa' sw' rp' t, z)) ∧ ∀ (cx : jCX) (t1 : List jE) (z1 : Nat × Nat × Nat × (Nat → Int32)), ∃ mf' mg' mn' mb' ml', K_m_allSeen D cx mf mg mn mb ml t1 z1 = some (.inl (some (.int r)), (jXt cx (jY mf' mg' mn' mb' ml' t1), z1)) ∧ RR f' g' p' pa' s' sa' sw' mf' mg' mb' := by
  intro t z
  obtain ⟨C, Sc, T, hP, hC, hS6, hT, hT2, hjn, hmn, hfr, hTw, hAt, hW, hw2, hm15⟩ := RR_ex (n2 := n2) (rp := rp) (mn := mn) (ml := ml) h
  have hS := hP.1.2.2.2.2.1
  obtain ⟨-, -, -, -, -, -, c20, -, -⟩ := fr0 hfr
  obtain ⟨n2', v, hlk, hv⟩ := S_c_look (D := D) (f := f) (g := g) (n2 := n2) (p := p) (pa := pa) (s := s) (sa := sa) (sw := sw) (rp := rp) (t := t) (z := z) hP.1 hm15
  have hrip := jripe_cut hC hfr.2.2.2.1
  refine ⟨jbest (jset (jripe (s 0, sa 0)) C) v Sc (2 ^ Sc), f, jup g 12 v, n2', p, pa, s, sa, sw, rp, ?_, fun cx t z => ?_⟩
  · simp (disch := omega) only [E_c_allSeen, hlk, jbO_some, jbO_none, jbO_ite, jk_some, jk_none, E_c_allSeen_2, S_s_ripe, E_c_allSeen_5, hrip]
    rw [S_allSeen_10 hS hS6, jup_same]
  · obtain ⟨y, n', v', ⟨d3', he⟩, hv'⟩ := M_allSeen_28 (D := D) (tf := f) (rip := jset (jripe (s 0, sa 0)) C) (d3 := none) (d4 := none) (d5 := none) (cx := cx) (n := mn) (b := mb) (l := ml) (t := t) (z := z) hAt hTw
    have h12 : mg 1 2 = Int32.ofNat Sc := hP.2.1.2.2.1.trans hS
    rw [hw2] at hv'
    refine ⟨jup (jup mf 0 0) 15 y, jup mg 26 v', n', mb, ml, ?_, ?_⟩
    · rw [E_m_allSeen, M_ripe hP c20, he, L_m_allSeen_28, jup_ne (by omega), h12, if_neg (jlt_n (by omega) (by omega)), M_allSeen_71 (by rw [jup_ne (by omega)]; exact h12) hS6, jup_same, jbest_congr (w := v) (fun i hi => (hv' i hi).trans (hv i hi).symm)]
    · exact RR_congr h (by intro k hk; simp (disch := omega) only [jup_ne]) (by intro k hk; simp (disch := omega) only [jup_ne]) rfl rfl (by constructor <;> simp (disch := omega) only [jup_ne]) (by constructor <;> simp (disch := omega) only [jup_ne]) (by intro k hk; simp (disch := omega) only [jup_ne]) ((jq1.hi (fun k hk => jup_ne (by omega)))) rfl (f' := f) (g' := jup g 12 v) (s' := s) (sa' := sa) (p' := p) (pa' := pa) (sw' := sw) (mf' := jup (jup mf 0 0) 15 y) (mg' := jup mg 26 v') (mb' := mb)

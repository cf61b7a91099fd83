-- CALL BY CALL: tried
theorem rSt_tw {C Sc F : Nat} {S : jS} {e0 p0 c0 w u : Int32} {g : Nat → Nat → Int32} (h : rSt C Sc S e0 p0 c0 (-1) F g) (hS6 : Sc ≤ 6) (hu : (w = 1 ∧ u = 63) ∨ (¬ w = 1 ∧ u = S.1 2)) : rSt C Sc (jup S.1 2 u, S.2) e0 p0 c0 w F g := by
  have hb := rSt_bits h (by decide) hS6
  obtain ⟨a1, a2, a3, a4, a5, a6, a7, a8, a9⟩ := h
  refine ⟨?_, ?_, ?_, ?_, ?_, ?_, ?_, ?_, ?_⟩ <;> dsimp only <;> (try simp (disch := omega) only [jup_ne, jup_same])
  · exact a1
  · exact a2
  · exact a3
  · exact a4
  · exact a5
  · intro i hi
    rw [jbit10 (by omega), jbit0 (by omega)]
    rcases hu with ⟨h1, h2⟩ | ⟨h1, h2⟩
    · have h63 : ∀ i, i < 6 → bt 63 i = true := by decide +kernel
      rw [h2, h63 i (by omega)]
      simp [h1]
    · rw [h2, hb i hi]; simp [h1]
  · exact a7
  · exact a8
  · exact a9
def jtf (f : Nat → Int32) (a b c d e : Int32) : Nat → Int32 := jup (jup (jup (jup (jup f 16 a) 17 b) 18 c) 19 d) 20 e
theorem jclr {f : Nat → Int32} {a b c d e : Int32} (h : jneu f) : jup (jup (jup (jup (jup (jup (jtf f a b c d e) 16 0) 17 0) 18 0) 19 0) 20 0) 21 0 = f := by
  obtain ⟨-, -, h16, h17, h18, h19, h20, h21⟩ := h
  funext k
  unfold jtf
  by_cases k21 : k = 21
  · subst k21; rw [jup_same, h21]
  rw [jup_ne k21]
  by_cases k20 : k = 20
  · subst k20; rw [jup_same, h20]
  rw [jup_ne k20]
  by_cases k19 : k = 19
  · subst k19; rw [jup_same, h19]
  rw [jup_ne k19]
  by_cases k18 : k = 18
  · subst k18; rw [jup_same, h18]
  rw [jup_ne k18]
  by_cases k17 : k = 17
  · subst k17; rw [jup_same, h17]
  rw [jup_ne k17]
  by_cases k16 : k = 16
  · subst k16; rw [jup_same, h16]
  rw [jup_ne k16, jup_ne k20, jup_ne k19, jup_ne k18, jup_ne k17, jup_ne k16]
theorem A_tried {D : Nat} {w x v : Int32} {f : Nat → Int32} {g : Nat → Nat → Int32} {n2 : Nat → Nat → Int64} {p : Nat → Nat → Int32} {pa : Nat → Nat → Nat → Int32} {s : Nat → Nat → Int32} {sa : Nat → Nat → Nat → Int32} {sw : Bool} {rp : Value} {mf : Nat → Int32} {mg : Nat → Nat → Int32} {mn : Nat → Nat → Int64} {mb : Nat → Nat → Int32} {ml : Nat → Int64} (h : RR f g p pa s sa sw mf mg mb) : ∀ (t : List jE) (z : Nat × Nat × Nat × (Nat → Int32)), ∃ r : Int32, ∃ f' g' n2' p' pa' s' sa' sw' rp', K_c_tried D w x v f g n2 p pa s sa sw rp t z = some (.inl (some (.int r)), (jX f' g' n2' p' pa' s' sa' sw' rp' t, z)) ∧ ∀ (cx : jCX) (t1 : List jE) (z1 : Nat × Nat × Nat × (Nat → Int32)), ∃ mf' mg' mn' mb' ml', K_m_tried D w x v cx mf mg mn mb ml t1 z1 = some (.inl (some (.int r)), (jXt cx (jY mf' mg' mn' mb' ml' t1), z1)) ∧ RR f' g' p' pa' s' sa' sw' mf' mg' mb' := by
  intro t z
  obtain ⟨C, Sc, T, hP, hC, hS6, hT, hT2, hjn, hmn, hfr, hTw, hAt, hW, -, hm15⟩ := RR_ex (n2 := n2) (rp := rp) (mn := mn) (ml := ml) h
  have hr := RR_congr h (by intro k hk; simp (disch := omega) only [jup_ne]) (by intro k hk; simp (disch := omega) only [jup_ne]) rfl rfl (by constructor <;> simp (disch := omega) only [jup_ne]) (by constructor <;> simp (disch := omega) only [jup_ne]) (by intro k hk; simp (disch := omega) only [jup_ne]) (jq1.rf) rfl (f' := f) (g' := g) (s' := s) (sa' := sa) (p' := p) (pa' := pa) (sw' := sw) (mf' := jup mf 0 0) (mg' := mg) (mb' := mb)
  have hS := hP.1.2.2.2.2.1
  have h10' : ¬ (1 : Int32) = 0 := by decide
  have hsc := fun {x} => S_p_hasScare (D := D) (w := sw) (x := x) (f := f) (g := g) (n2 := n2) (p := p) (pa := pa) (s := s) (sa := sa) (sw := sw) (rp := rp) (t := t) (z := z) hS hS6
  have hms := fun {x cx t z} => M_isScare (D := D) (x := x) (cx := cx) (f := jup mf 0 0) (g := mg) (n := mn) (b := mb) (l := ml) (t := t) (z := z) hP
  have ex : (K_c_tried D w x v f g n2 p pa s sa sw rp t z = some (.inl (some (.int (-1))), (jX f g n2 p pa s sa sw rp t, z))) → (∀ cx t z, K_m_tried D w x v cx mf mg mn mb ml t z = some (.inl (some (.int (-1))), (jXt cx (jY (jup mf 0 0) mg mn mb ml t), z))) → ∃ r f' g' n2' p' pa' s' sa' sw' rp', K_c_tried D w x v f g n2 p pa s sa sw rp t z = some (.inl (some (.int r)), (jX f' g' n2' p' pa' s' sa' sw' rp' t, z)) ∧ ∀ cx t1 z1, ∃ mf' mg' mn' mb' ml', K_m_tried D w x v cx mf mg mn mb ml t1 z1 = some (.inl (some (.int r)), (jXt cx (jY mf' mg' mn' mb' ml' t1), z1)) ∧ RR f' g' p' pa' s' sa' sw' mf' mg' mb' := fun h1 h2 => ⟨-1, f, g, n2, p, pa, s, sa, sw, rp, h1, fun cx t z => ⟨jup mf 0 0, mg, mn, mb, ml, h2 cx t z, hr⟩⟩
  -- what the reference says where something is out of its bounds
  have hmbad : (v < 1 ∨ 9 < v ∨ w < 0 ∨ 5 < w ∨ (w = 2 ∧ jout x Sc) ∨ (¬ w = 2 ∧ ¬ x = 0)) → ∀ cx t z, K_m_tried D w x v cx mf mg mn mb ml t z = some (.inl (some (.int (-1))), (jXt cx (jY (jup mf 0 0) mg mn mb ml t), z)) := by
    intro hbad cx t z
    have h20 : ∀ u, (u = 0 ∨ v < 1 ∨ 9 < v) → K_m_tried_20 D w x v none u cx (jup mf 0 0) mg mn mb ml t z = some (.inl (some (.int (-1))), (jXt cx (jY (jup mf 0 0) mg mn mb ml t), z)) := by
      intro u hu
      rw [E_m_tried_20]
      by_cases hu0 : u = 0
      · rw [if_pos hu0]
      rw [if_neg hu0, E_m_isDays]
      by_cases h1 : v < 1
      · simp only [if_pos h1, jbO_some, jbO_none, jbO_ite, jk_some, jk_none, E_m_tried_25, if_true]
      · by_cases h2 : 9 < v
        · simp only [if_neg h1, if_pos h2, jbO_some, jbO_none, jbO_ite, jk_some, jk_none, E_m_tried_25, if_true]
        · exact absurd hu (by simp [hu0, h1, h2])
    rw [E_m_tried]
    by_cases hw2 : w = 2
    · rw [if_pos hw2, hms]
      simp only [jbO_some, jbO_none, jbO_ite, jk_some, jk_none, E_m_tried_9]
      by_cases ho : jout x Sc
      · simp only [if_pos ho, jbO_some, jbO_none, jbO_ite, jk_some, jk_none, E_m_tried_9]; exact h20 0 (Or.inl rfl)
      · simp only [if_neg ho, jbO_some, jbO_none, jbO_ite, jk_some, jk_none, E_m_tried_9]
        have hw0 : ¬ w < 0 := by rw [hw2]; decide
        have hw5 : ¬ 5 < w := by rw [hw2]; decide
        exact h20 1 (by
          rcases hbad with q | q | q | q | q | q
          · exact Or.inr (Or.inl q)
          · exact Or.inr (Or.inr q)
          · exact absurd q hw0
          · exact absurd q hw5
          · exact absurd q.2 ho
          · exact absurd hw2 q.1)
    · rw [if_neg hw2]
      by_cases hw0 : w < 0
      · rw [if_pos hw0, E_m_tried_19]; exact h20 0 (Or.inl rfl)
      rw [if_neg hw0]
      by_cases hw5 : 5 < w
      · rw [if_pos hw5, E_m_tried_19]; exact h20 0 (Or.inl rfl)
      rw [if_neg hw5]
      by_cases hx0 : x = 0
      · rw [if_pos hx0]
        exact h20 1 (by
          rcases hbad with q | q | q | q | q | q
          · exact Or.inr (Or.inl q)
          · exact Or.inr (Or.inr q)
          · exact absurd q hw0
          · exact absurd q hw5
          · exact absurd q.1 hw2
          · exact absurd hx0 q.2)
      · rw [if_neg hx0, E_m_tried_19]; exact h20 0 (Or.inl rfl)
  by_cases h0 : v < 1
  · exact ex (by simp only [E_c_tried, h0, if_true]) (hmbad (Or.inl h0))
  by_cases h9 : 9 < v
  · exact ex (by simp only [E_c_tried, h0, h9, if_true, if_false]) (hmbad (Or.inr (Or.inl h9)))
  by_cases hw0 : w < 0
  · exact ex (by simp only [E_c_tried, h0, h9, hw0, if_true, if_false]) (hmbad (Or.inr (Or.inr (Or.inl hw0))))
  by_cases hw5 : 5 < w
  · exact ex (by simp only [E_c_tried, h0, h9, hw0, hw5, if_true, if_false]) (hmbad (Or.inr (Or.inr (Or.inr (Or.inl hw5)))))
  obtain ⟨n, hn1, hn, rfl⟩ : ∃ n, 1 ≤ n ∧ n ≤ 9 ∧ v = Int32.ofNat n := by
    rcases jcases v with hneg | ⟨k, hk, rfl⟩
    · exact absurd (Int32.lt_trans hneg (by decide)) h0
    · refine ⟨k, ?_, ?_, rfl⟩
      · rw [show (1 : Int32) = Int32.ofNat 1 from rfl, jltn (by omega) (by omega)] at h0; omega
      · rw [show (9 : Int32) = Int32.ofNat 9 from rfl, jltn (by omega) hk] at h9; omega
  generalize hTS : jtry (s 2, sa 2) (s 0, sa 0) = TS
  have ht2 : TS.1 2 = s 0 2 := by
    rw [← hTS]; unfold jtry; dsimp only; simp (disch := omega) only [jup_ne]
    exact (jcpS_eq (A := (s 2, sa 2)) (B := (s 0, sa 0))).1 2 (by omega)
  have hf1 : K_s_follow20 D f g n2 p pa s sa sw rp t z = some (.inl none, (jX f g n2 p pa (jup s 2 TS.1) (jup sa 2 TS.2) sw rp t, z)) := by rw [S_s_follow20, hTS]
  -- what comes of it, once all is in bounds
  have main : ∀ (a b c d e u : Int32), K_c_tried D w x (Int32.ofNat n) f g n2 p pa s sa sw rp t z = jbO (K_h_passDays D 2 (Int32.ofNat n) (jtf f a b c d e) g n2 p pa (jup s 2 (jup TS.1 2 u)) (jup sa 2 TS.2) sw rp t z) (jk D 132 91 ([some (.ref 0), some (.int w), some (.int x), some (.int (Int32.ofNat n)), some (.ref 44)], []) []) →
      (∀ cx t z, K_m_tried D w x (Int32.ofNat n) cx mf mg mn mb ml t z = K_m_tried_20 D w x (Int32.ofNat n) none 1 cx (jup mf 0 0) mg mn mb ml t z) →
      rTw (jtf f a b c d e) (jup (jup (jup mf 0 0) 19 w) 20 x) Sc → ((w = 1 ∧ u = 63) ∨ (¬ w = 1 ∧ u = TS.1 2)) →
      ∃ r f' g' n2' p' pa' s' sa' sw' rp', K_c_tried D w x (Int32.ofNat n) f g n2 p pa s sa sw rp t z = some (.inl (some (.int r)), (jX f' g' n2' p' pa' s' sa' sw' rp' t, z)) ∧ ∀ cx t1 z1, ∃ mf' mg' mn' mb' ml', K_m_tried D w x (Int32.ofNat n) cx mf mg mn mb ml t1 z1 = some (.inl (some (.int r)), (jXt cx (jY mf' mg' mn' mb' ml' t1), z1)) ∧ RR f' g' p' pa' s' sa' sw' mf' mg' mb' := by
    intro a b c d e u hcx hmx hTw' hu
    have hT1 : jtm (jup TS.1 2 u, TS.2) T := by rw [← hTS]; exact jtm_2 (jtry_tm hT)
    obtain ⟨n2a, hcl⟩ := S_h_passDays (D := D) (j := 2) (T := T) (nd := n) (f := jtf f a b c d e) (g := g) (n2 := n2) (p := p) (pa := pa) (s := jup s 2 (jup TS.1 2 u)) (sa := jup sa 2 TS.2) (sw := sw) (rp := rp) (t := t) (z := z) (by omega) (by rw [jup_same, jup_same]; exact hT1) hP.1 (by unfold jtf; simp (disch := omega) only [jup_ne]; exact hm15) (by omega) hn1
    rw [jup_same, jup_same, jup_jup, jup_jup] at hcl
    generalize hres : cN (jtf f a b c d e) (g 2) (p (jq sw)) (pa (jq sw)) C Sc (jup TS.1 2 u, TS.2) (n * 12 - T % 12) = res at hcl
    refine ⟨res.1 3, f, g, n2a, p, pa, jup s 2 res.1, jup sa 2 res.2, sw, rp, ?_, fun cx t1 z1 => ?_⟩
    · rw [hcx, hcl]
      simp only [jbO_some, jbO_none, jbO_ite, jk_some, jk_none, E_c_tried_91, E_q_clear, E_c_tried_93, jup_same, jclr hjn]
    · obtain ⟨g1, hcp, hfo1, hc10⟩ := M_copies (D := D) (A := 1) (B := 0) (cx := cx) (f := jup (jup (jup mf 0 0) 19 w) 20 x) (g := mg) (n := mn) (b := mb) (l := ml) (t := t1) (z := z1) (by omega) (by omega) (by omega)
      have hcp1 : K_m_copies D 1 0 cx (jup (jup (jup mf 0 0) 19 w) 20 x) mg mn mb ml t1 z1 = _ := hcp
      have hf19 : (jup (jup (jup mf 0 0) 19 w) 20 x) 19 = w := by rw [jup_ne (by omega), jup_same]
      have hst1 : rSt C Sc (jup TS.1 2 u, TS.2) (s 0 3) (s 0 4) (s 0 5) ((jup (jup (jup mf 0 0) 19 w) 20 x) 19) 1 g1 := by
        rw [hf19]
        refine rSt_tw ?_ hS6 hu
        rw [← hTS]
        exact jtry_st hC hS6 (hc10.st hC hS6 hfr.1)
      obtain ⟨y, n', g2, hru, hfo2, -, hst2⟩ := M_runs (D := D) (T := T) (nd := n) (tf := jtf f a b c d e) (w9 := g 2) (cx := cx) (f := jup (jup (jup mf 0 0) 19 w) 20 x) (g := g1) (n := mn) (b := mb) (l := ml) (t := t1) (z := z1) (hfo1.pl hP) hst1 (by simp (disch := omega) only [jup_ne]; exact Or.inl hmn.1) hTw' hT1 (by omega) (by omega) hn1 (by rw [hfo1.2.1 14 (by omega) (by omega) 0 (by omega)]; exact hfr.1.1.trans hT.1) (fun dd hd1 hd2 => by
        rw [mwnd_g hfo1]
        have := hW (g 2) 0 dd (by omega)
        unfold mwnd cwnd jtf at *
        simp (disch := omega) only [jup_ne] at this ⊢
        exact this)
      rw [hres] at hst2
      have hfo := hfo1.tr hfo2
      have e16 : g2 16 1 - g2 16 0 = res.1 3 := by
        rw [hst2.2.2.1, hfo.2.1 16 (by omega) (by omega) 0 (by omega), hfr.1.2.2.1]; exact jsubc
      refine ⟨jup (jup (jup (jup (jup (jup mf 0 0) 19 w) 20 x) 15 y) 19 (-1)) 20 (-1), g2, n', mb, ml, ?_, ?_⟩
      · rw [hmx, E_m_tried_20, if_neg (by decide), E_m_isDays, if_neg h0, if_neg h9]
        simp only [jbO_some, jbO_none, jbO_ite, jk_some, jk_none, E_m_tried_25, h10', if_false, hcp1, E_m_tried_38, hru, E_m_tried_41, e16]
      · refine RR_congr h (fun k hk => rfl) (fun k hk => rfl) rfl rfl (by constructor <;> rw [jup_ne (by omega)]) (by constructor <;> rw [jup_ne (by omega)]) ?_ (jq1.of hfo) rfl
        intro k hk
        by_cases k20 : k = 20
        · subst k20; rw [jup_same]; exact hmn.2.2.symm
        by_cases k19 : k = 19
        · subst k19; rw [jup_ne (by omega), jup_same]; exact hmn.2.1.symm
        · simp (disch := omega) only [jup_ne]
  by_cases hw2 : w = 2
  · rcases jout_dec x Sc (by omega) with ho | ⟨i, hi, rfl⟩
    · exact ex (by simp +decide only [E_c_tried, h0, h9, hw2, if_true, if_false, hsc, if_pos ho, jbO_some, jbO_none, jbO_ite, jk_some, jk_none, E_c_tried_18]) (hmbad (Or.inr (Or.inr (Or.inr (Or.inr (Or.inl ⟨hw2, ho⟩))))))
    have hno : ¬ jout (Int32.ofNat i) Sc := jout_n hi (by omega)
    refine main 0 (1 <<< (Int32.ofNat i &&& 31)) 0 0 0 (TS.1 2) ?_ ?_ ?_ (Or.inr ⟨by rw [hw2]; decide, rfl⟩)
    · subst hw2
      simp +decide only [E_c_tried, h0, h9, if_true, if_false, hsc, if_neg hno, jbO_some, jbO_none, jbO_ite, jk_some, jk_none, E_c_tried_18, E_c_tried_24, hf1, E_c_tried_33, E_c_tried_39, E_c_tried_50, E_c_tried_60, E_c_tried_68, E_c_tried_76, E_c_tried_84, jup_same, jup_jup, jtf]
    · intro cx t z
      rw [E_m_tried, if_pos hw2, hms, if_neg hno]
      simp only [jbO_some, jbO_none, jbO_ite, jk_some, jk_none, E_m_tried_9]
    · subst hw2
      refine ⟨?_, ?_, ?_, ?_, ?_⟩
      · unfold jtf; simp (disch := omega) only [jup_ne, jup_same]; decide
      · intro j hj
        unfold jtf
        simp (disch := omega) only [jup_ne, jup_same]
        rw [jbit0 (by omega), b_one i (by omega) (by omega), jeqn (by omega) (by omega)]
        by_cases hji : j = i
        · subst hji; simp
        · simp only [hji, decide_false, true_and, true_iff]; exact fun q => hji q.symm
      · unfold jtf; simp (disch := omega) only [jup_ne, jup_same]; decide
      · unfold jtf; simp (disch := omega) only [jup_ne, jup_same]; decide
      · unfold jtf; simp (disch := omega) only [jup_ne, jup_same]; decide
  by_cases hx0 : x = 0
  rotate_left
  · exact ex (by simp only [E_c_tried, h0, h9, hw0, hw5, hw2, hx0, if_false]) (hmbad (Or.inr (Or.inr (Or.inr (Or.inr (Or.inr ⟨hw2, hx0⟩))))))
  have hmx : ∀ cx t z, K_m_tried D w x (Int32.ofNat n) cx mf mg mn mb ml t z = K_m_tried_20 D w x (Int32.ofNat n) none 1 cx (jup mf 0 0) mg mn mb ml t z := by
    intro cx t z
    rw [E_m_tried, if_neg hw2, if_neg hw0, if_neg hw5, if_pos hx0]
  obtain ⟨k, hk5, rfl⟩ : ∃ k, k ≤ 5 ∧ w = Int32.ofNat k := by
    rcases jcases w with hneg | ⟨k, hk, rfl⟩
    · exact absurd hneg hw0
    · refine ⟨k, ?_, rfl⟩
      rw [show (5 : Int32) = Int32.ofNat 5 from rfl, jltn (by omega) hk] at hw5; omega
  subst hx0
  have hw' : ∀ (a c d e : Int32), (Int32.ofNat k = 0 ↔ ¬ a = 0) → ((if Int32.ofNat k = 3 then (1 : Int32) else 0) = c) → (Int32.ofNat k = 4 ↔ ¬ d = 0) → (Int32.ofNat k = 5 ↔ ¬ e = 0) → rTw (jtf f a 0 c d e) (jup (jup (jup mf 0 0) 19 (Int32.ofNat k)) 20 0) Sc := by
    intro a c d e q1 q3 q4 q5
    refine ⟨?_, ?_, ?_, ?_, ?_⟩
    · unfold jtf; simp (disch := omega) only [jup_ne, jup_same]; exact q1
    · intro j hj
      unfold jtf
      simp (disch := omega) only [jup_ne, jup_same]
      rw [jbit0 (by omega), b_0]
      constructor
      · intro _ hh; exact hw2 hh.1
      · intro _; rfl
    · unfold jtf; simp (disch := omega) only [jup_ne, jup_same]; exact q3
    · unfold jtf; simp (disch := omega) only [jup_ne, jup_same]; exact q4
    · unfold jtf; simp (disch := omega) only [jup_ne, jup_same]; exact q5
  rcases (show k = 0 ∨ k = 1 ∨ k = 2 ∨ k = 3 ∨ k = 4 ∨ k = 5 by omega) with rfl | rfl | rfl | rfl | rfl | rfl
  · refine main 1 0 0 0 0 (TS.1 2) ?_ hmx (hw' _ _ _ _ (by decide) (by decide) (by decide) (by decide)) (Or.inr ⟨by decide, rfl⟩)
    simp +decide only [E_c_tried, h0, h9, if_true, if_false, jbO_some, jbO_none, jbO_ite, jk_some, jk_none, E_c_tried_24, hf1, E_c_tried_33, E_c_tried_39, E_c_tried_50, E_c_tried_60, E_c_tried_68, E_c_tried_76, E_c_tried_84, jup_same, jup_jup, jtf]
  · refine main 0 0 0 0 0 63 ?_ hmx (hw' _ _ _ _ (by decide) (by decide) (by decide) (by decide)) (Or.inl ⟨by decide, rfl⟩)
    simp +decide only [E_c_tried, h0, h9, if_true, if_false, jbO_some, jbO_none, jbO_ite, jk_some, jk_none, E_c_tried_24, hf1, E_c_tried_33, E_c_tried_39, E_c_tried_50, E_c_tried_60, E_c_tried_68, E_c_tried_76, E_c_tried_84, jup_same, jup_jup, jtf]
  · exact absurd rfl hw2
  · refine main 0 0 1 0 0 (TS.1 2) ?_ hmx (hw' _ _ _ _ (by decide) (by decide) (by decide) (by decide)) (Or.inr ⟨by decide, rfl⟩)
    simp +decide only [E_c_tried, h0, h9, if_true, if_false, jbO_some, jbO_none, jbO_ite, jk_some, jk_none, E_c_tried_24, hf1, E_c_tried_33, E_c_tried_39, E_c_tried_50, E_c_tried_60, E_c_tried_68, E_c_tried_76, E_c_tried_84, jup_same, jup_jup, jtf]
  · refine main 0 0 0 1 0 (TS.1 2) ?_ hmx (hw' _ _ _ _ (by decide) (by decide) (by decide) (by decide)) (Or.inr ⟨by decide, rfl⟩)
    simp +decide only [E_c_tried, h0, h9, if_true, if_false, jbO_some, jbO_none, jbO_ite, jk_some, jk_none, E_c_tried_24, hf1, E_c_tried_33, E_c_tried_39, E_c_tried_50, E_c_tried_60, E_c_tried_68, E_c_tried_76, E_c_tried_84, jup_same, jup_jup, jtf]
  · refine main 0 0 0 0 1 (TS.1 2) ?_ hmx (hw' _ _ _ _ (by decide) (by decide) (by decide) (by decide)) (Or.inr ⟨by decide, rfl⟩)
    simp +decide only [E_c_tried, h0, h9, if_true, if_false, jbO_some, jbO_none, jbO_ite, jk_some, jk_none, E_c_tried_24, hf1, E_c_tried_33, E_c_tried_39, E_c_tried_50, E_c_tried_60, E_c_tried_68, E_c_tried_76, E_c_tried_84, jup_same, jup_jup, jtf]

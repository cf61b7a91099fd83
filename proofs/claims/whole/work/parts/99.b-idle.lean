-- CALL BY CALL: idle
theorem jCr_pos {C c : Nat} {S : jS} (h : jCr C S) (hc : c < C) : (0 < S.2 0 c) = (jripe S c = true) := by
  unfold jripe; rw [decide_eq_true_eq]
/-- whether one of the first n is so -/
def jany (P : Nat → Bool) : Nat → Bool
  | 0 => false
  | n + 1 => jany P n || P n
theorem jany_f {P : Nat → Bool} : ∀ {n : Nat}, jany P n = false ↔ ∀ c, c < n → P c = false
  | 0 => ⟨fun _ c hc => absurd hc (by omega), fun _ => rfl⟩
  | n + 1 => by
    unfold jany
    rw [Bool.or_eq_false_iff, jany_f]
    constructor
    · intro ⟨h1, h2⟩ c hc
      by_cases hcn : c = n
      · subst hcn; exact h2
      · exact h1 c (by omega)
    · intro h; exact ⟨fun c hc => h c (by omega), h n (by omega)⟩
theorem M_seesCrop {D i : Nat} {C Sc : Nat} {tf q : Nat → Int32} {qa : Nat → Nat → Int32} {S : jS} {cx : jCX} {f : Nat → Int32} {g : Nat → Nat → Int32} {n : Nat → Nat → Int64} {b : Nat → Nat → Int32} {l : Nat → Int64} {t : List jE} {z : Nat × Nat × Nat × (Nat → Int32)} (hA : rAt q qa C Sc S 0 0 0 0 f g) (hT : rTw tf f Sc) (hi : i < Sc) :
    ∃ y n', K_m_seesCrop D (Int32.ofNat i) cx f g n b l t z = some (.inl (some (.int (if jany (fun c => jripe S c && csees tf q qa S.1 S.2 (mwnd f g (S.1 0)) i c) C then 1 else 0))), (jXt cx (jY (jup f 15 y) g n' b l t), z)) := by
  have hP := hA.2.1
  have hC : C ≤ 30 := hP.1.2.1
  have c20 : ∀ c, c < C → g 20 c = S.2 0 c := by
    intro c hc
    have := hA.2.2.1.2.2.2.2.2.2.1 c hc
    rwa [Nat.mul_zero, Nat.zero_add] at this
  generalize hQ : (fun c => jripe S c && csees tf q qa S.1 S.2 (mwnd f g (S.1 0)) i c) = Q
  have hQk : ∀ k, Q k = (jripe S k && csees tf q qa S.1 S.2 (mwnd f g (S.1 0)) i k) := by intro k; rw [← hQ]
  rw [E_m_seesCrop]
  have key : ∀ k, k ≤ C → (∃ y n', K_m_seesCrop_2 D (Int32.ofNat i) 0 cx f g n b l t z = some (.inl (some (.int 1)), (jXt cx (jY (jup f 15 y) g n' b l t), z)) ∧ jany Q C = true) ∨ ∃ y n', K_m_seesCrop_2 D (Int32.ofNat i) 0 cx f g n b l t z = K_m_seesCrop_2 D (Int32.ofNat i) (Int32.ofNat k) cx (jup f 15 y) g n' b l t z ∧ jany Q k = false := by
    intro k
    induction k with
    | zero => intro _; exact Or.inr ⟨f 15, n, by rw [jup_self]; rfl, rfl⟩
    | succ k ih =>
      intro hk
      rcases ih (by omega) with h | ⟨y, n', he, hj⟩
      · exact Or.inl h
      have hlt : Int32.ofNat k < Int32.ofNat C := jlt_t (by omega) (by omega)
      have e20 := c20 k (by omega)
      have hA' : rAt q qa C Sc S 0 0 0 0 (jup f 15 y) g := by
        obtain ⟨a1, a2, a3, a4, a5, a6⟩ := hA
        refine ⟨a1, a2, ?_, a4, a5, ?_⟩
        · rw [jup_ne (by omega)]; exact a3
        · rw [jup_ne (by omega)]; exact a6
      obtain ⟨y2, n2, hs⟩ := M_isSeen (D := D) (c := k) (i := i) (tf := tf) (cx := cx) (n := n') (b := b) (l := l) (t := t) (z := z) hA' (rTw_f (y := y) hT) (by omega) hi
      rw [mwnd_f, jup_jup] at hs
      have hs1 : K_m_isSeen D 0 (Int32.ofNat i) (Int32.ofNat k) cx (jup f 15 y) g n' b l t z = _ := hs
      rw [he, L_m_seesCrop_2, M_cells hP]
      simp (disch := omega) only [jbO_some, jbO_none, jbO_ite, jk_some, jk_none, E_m_seesCrop_5, hlt, if_true, jout_f, if_false, jclamp, e20, E_m_seesCrop_19, jsucc]
      by_cases hr : 0 < S.2 0 k
      · rw [if_pos hr, hs1]
        simp only [jbO_some, jbO_none, jbO_ite, jk_some, jk_none, E_m_seesCrop_16, E_m_seesCrop_19, jsucc]
        by_cases hc : csees tf q qa S.1 S.2 (mwnd f g (S.1 0)) i k = true
        · refine Or.inl ⟨y2, n2, ?_, ?_⟩
          · rw [if_pos hc]; simp
          · cases hj2 : jany Q C with
            | true => rfl
            | false =>
              have := jany_f.mp hj2 k (by omega)
              rw [hQk, hc] at this
              simp [jripe, hr] at this
        · refine Or.inr ⟨y2, n2, ?_, ?_⟩
          · rw [if_neg hc]; simp
          · unfold jany; rw [hj, hQk]; simp [hc]
      · rw [if_neg hr]
        refine Or.inr ⟨y, n', rfl, ?_⟩
        unfold jany; rw [hj, hQk]; simp [jripe, hr]
  rcases key C (Nat.le_refl C) with ⟨y, n', he, hj⟩ | ⟨y, n', he, hj⟩
  · refine ⟨y, n', ?_⟩
    rw [he, hj]; rfl
  · refine ⟨y, n', ?_⟩
    rw [he, hj, L_m_seesCrop_2, M_cells hP]
    simp only [jbO_some, jbO_none, jbO_ite, jk_some, jk_none, E_m_seesCrop_5, show ¬ (Int32.ofNat C < Int32.ofNat C) from jlt_n (by omega) (by omega), if_false]
    rfl
theorem A_idle {D : Nat} {f : Nat → Int32} {g : Nat → Nat → Int32} {n2 : Nat → Nat → Int64} {p : Nat → Nat → Int32} {pa : Nat → Nat → Nat → Int32} {s : Nat → Nat → Int32} {sa : Nat → Nat → Nat → Int32} {sw : Bool} {rp : Value} {mf : Nat → Int32} {mg : Nat → Nat → Int32} {mn : Nat → Nat → Int64} {mb : Nat → Nat → Int32} {ml : Nat → Int64} (h : RR f g p pa s sa sw mf mg mb) : ∀ (t : List jE) (z : Nat × Nat × Nat × (Nat → Int32)), ∃ r : Int32, ∃ f' g' n2' p' pa' s' sa' sw' rp', K_c_idle D f g n2 p pa s sa sw rp t z = some (.inl (some (.int r)), (jX f' g' n2' p' pa' s' sa' sw' rp' t, z)) ∧ ∀ (cx : jCX) (t1 : List jE) (z1 : Nat × Nat × Nat × (Nat → Int32)), ∃ mf' mg' mn' mb' ml', K_m_idle D cx mf mg mn mb ml t1 z1 = some (.inl (some (.int r)), (jXt cx (jY mf' mg' mn' mb' ml' t1), z1)) ∧ RR f' g' p' pa' s' sa' sw' mf' mg' mb' := by
  intro t z
  obtain ⟨C, Sc, T, hP, hC, hS6, hT, hT2, hjn, hmn, hfr, hTw, hAt, hW, hw2, hm15⟩ := RR_ex (n2 := n2) (rp := rp) (mn := mn) (ml := ml) h
  have hS := hP.1.2.2.2.2.1
  generalize hwv : cwnd f (g 2) (p (jq sw)) (pa (jq sw)) (s 0 0) = wv at hw2
  generalize hQ : (fun i => !jany (fun c => jripe (s 0, sa 0) c && csees f (p (jq sw)) (pa (jq sw)) (s 0) (sa 0) wv i c) C) = Q
  have hQk : ∀ k, Q k = !jany (fun c => jripe (s 0, sa 0) c && csees f (p (jq sw)) (pa (jq sw)) (s 0) (sa 0) wv k c) C := by intro k; rw [← hQ]
  have hrip := jripe_cut hC hfr.2.2.2.1
  have hcl : ∀ k, k ≤ Sc → ∃ n2', K_c_idle D f g n2 p pa s sa sw rp t z = K_c_idle_8 D (jset (jripe (s 0, sa 0)) C) (jset Q k) (Int32.ofNat k) f g n2' p pa s sa sw rp t z := by
    intro k
    induction k with
    | zero =>
      intro _
      refine ⟨n2, ?_⟩
      simp (disch := omega) only [E_c_idle, S_s_ripe, jbO_some, jbO_none, jbO_ite, jk_some, jk_none, E_c_idle_3, hrip]
      rfl
    | succ k ih =>
      intro hk
      obtain ⟨n2', he⟩ := ih (by omega)
      have hlt : Int32.ofNat k < Int32.ofNat Sc := jlt_t (by omega) (by omega)
      obtain ⟨nm, st, hs⟩ := S_h_seenBy0 (D := D) (j := 0) (i := k) (f := f) (g := g) (n2 := n2') (p := p) (pa := pa) (s := s) (sa := sa) (sw := sw) (rp := rp) (t := t) (z := z) (by omega) (by omega) hP.1 hm15
      rw [hwv] at hs
      refine ⟨jup (jup n2' 0 nm) 1 st, ?_⟩
      rw [he, L_c_idle_8, hS, if_pos hlt, hs]
      simp (disch := omega) only [jbO_some, jbO_none, jbO_ite, jk_some, jk_none, E_c_idle_19, E_c_idle_28, jsucc, jset_and, jset_0, jset]
      rw [hQk]
      cases hj : jany (fun c => jripe (s 0, sa 0) c && csees f (p (jq sw)) (pa (jq sw)) (s 0) (sa 0) wv k c) C with
      | true =>
        rw [if_neg, if_neg (by decide)]
        intro hall
        have : jany (fun c => jripe (s 0, sa 0) c && csees f (p (jq sw)) (pa (jq sw)) (s 0) (sa 0) wv k c) C = false := jany_f.mpr (fun c hc => by have := hall c hc; rw [Bool.and_comm]; exact this)
        rw [this] at hj; exact absurd hj (by decide)
      | false =>
        rw [if_pos, if_pos (by decide)]
        intro c hc
        have := jany_f.mp hj c hc
        rw [Bool.and_comm]; exact this
  obtain ⟨n2', hcf⟩ := hcl Sc (Nat.le_refl Sc)
  have hlast : ¬ Int32.ofNat Sc < Int32.ofNat Sc := jlt_n (by omega) (by omega)
  refine ⟨jset Q Sc, f, g, n2', p, pa, s, sa, sw, rp, ?_, fun cx t z => ?_⟩
  · rw [hcf, L_c_idle_8, hS, if_neg hlast]
  · have hml : ∀ k, k ≤ Sc → ∃ y n', K_m_idle D cx mf mg mn mb ml t z = K_m_idle_7 D (jset Q k) (Int32.ofNat k) cx (jup (jup mf 0 0) 15 y) mg n' mb ml t z := by
      intro k
      induction k with
      | zero => intro _; exact ⟨(jup mf 0 0) 15, mn, by rw [jup_self, E_m_idle]; rfl⟩
      | succ k ih =>
        intro hk
        obtain ⟨y, n', he⟩ := ih (by omega)
        have hlt : Int32.ofNat k < Int32.ofNat Sc := jlt_t (by omega) (by omega)
        obtain ⟨y2, n2, hs⟩ := M_seesCrop (D := D) (i := k) (tf := f) (cx := cx) (n := n') (b := mb) (l := ml) (t := t) (z := z) (rAt_f (y := y) hAt) (rTw_f (y := y) hTw) (by omega)
        rw [mwnd_f, jup_jup] at hs
        dsimp only at hs
        rw [hw2] at hs
        refine ⟨y2, n2, ?_⟩
        rw [he, L_m_idle_7, hP.2.1.2.2.1, hS, if_pos hlt, hs]
        simp only [jbO_some, jbO_none, jbO_ite, jk_some, jk_none, E_m_idle_17, E_m_idle_23, jsucc, jset, hQk]
        cases hj : jany (fun c => jripe (s 0, sa 0) c && csees f (p (jq sw)) (pa (jq sw)) (s 0) (sa 0) wv k c) C with
        | true => simp
        | false => simp
    obtain ⟨y, n', hmf⟩ := hml Sc (Nat.le_refl Sc)
    refine ⟨jup (jup mf 0 0) 15 y, mg, n', mb, ml, ?_, ?_⟩
    · rw [hmf, L_m_idle_7, hP.2.1.2.2.1, hS, if_neg hlast]
    · exact RR_congr h (by intro k hk; simp (disch := omega) only [jup_ne]) (by intro k hk; simp (disch := omega) only [jup_ne]) rfl rfl (by constructor <;> simp (disch := omega) only [jup_ne]) (by constructor <;> simp (disch := omega) only [jup_ne]) (by intro k hk; simp (disch := omega) only [jup_ne]) (jq1.rf) rfl (f' := f) (g' := g) (s' := s) (sa' := sa) (p' := p) (pa' := pa) (sw' := sw) (mf' := jup (jup mf 0 0) 15 y) (mg' := mg) (mb' := mb)

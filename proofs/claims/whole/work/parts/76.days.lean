-- DAYS: hours one behind another, on both sides; copies
/-- the hours since the start, by day and hour -/
def jtm (S : jS) (T : Nat) : Prop := S.1 0 = Int32.ofNat (T / 12) ∧ S.1 1 = Int32.ofNat (T % 12)
theorem ctick_tm {S : jS} {T : Nat} (h : jtm S T) : jtm (ctick S) (T + 1) := by
  obtain ⟨h0, h1⟩ := h
  unfold ctick
  have e : S.1 1 + 1 = Int32.ofNat (T % 12 + 1) := by rw [h1, jsucc]
  by_cases h12 : T % 12 + 1 < 12
  · rw [e, if_pos (show Int32.ofNat (T % 12 + 1) < 12 from jlt_t (b := 12) h12 (by omega))]
    refine ⟨?_, ?_⟩
    · dsimp only; rw [jup_ne (by omega), h0]; congr 1; omega
    · dsimp only; rw [jup_same]; congr 1; omega
  · rw [e, if_neg (show ¬ Int32.ofNat (T % 12 + 1) < 12 from jlt_n (b := 12) (by omega) (by omega))]
    refine ⟨?_, ?_⟩
    · dsimp only; rw [jup_ne (by omega), jup_same, h0, jsucc]; congr 1; omega
    · dsimp only; rw [jup_same]; show Int32.ofNat 0 = _; congr 1; omega
theorem cS_tm {tf q : Nat → Int32} {qa : Nat → Nat → Int32} {wv : Int32} {C Sc : Nat} {S : jS} {T : Nat} (h : jtm S T) : jtm (cS tf q qa wv C Sc S) (T + 1) := by
  obtain ⟨h0, h1⟩ := h
  unfold cS cS3
  apply ctick_tm
  have t0 : (cS1 tf q qa wv Sc S).1 0 = S.1 0 := by unfold cS1; dsimp only; rw [jup_ne (by omega)]
  have t1 : (cS1 tf q qa wv Sc S).1 1 = S.1 1 := by unfold cS1; dsimp only; rw [jup_ne (by omega)]
  refine ⟨?_, ?_⟩
  · dsimp only
    unfold cS2
    split
    · rw [t0]; exact h0
    · split
      · dsimp only; rw [jup_ne (by omega), t0]; exact h0
      · dsimp only; rw [jup_ne (by omega), t0]; exact h0
  · dsimp only
    unfold cS2
    split
    · rw [t1]; exact h1
    · split
      · dsimp only; rw [jup_ne (by omega), t1]; exact h1
      · dsimp only; rw [jup_ne (by omega), t1]; exact h1
/-- n hours -/
def cN (tf w9 q : Nat → Int32) (qa : Nat → Nat → Int32) (C Sc : Nat) (S : jS) : Nat → jS
  | 0 => S
  | n + 1 => cS tf q qa (cwnd tf w9 q qa ((cN tf w9 q qa C Sc S n).1 0)) C Sc (cN tf w9 q qa C Sc S n)
theorem cN_tm {tf w9 q : Nat → Int32} {qa : Nat → Nat → Int32} {C Sc : Nat} {S : jS} {T : Nat} (h : jtm S T) : ∀ n, jtm (cN tf w9 q qa C Sc S n) (T + n)
  | 0 => h
  | n + 1 => cS_tm (cN_tm h n)
theorem S_h_pass0 {D j T : Nat} {C Sc : Nat} {f : Nat → Int32} {g : Nat → Nat → Int32} {n2 : Nat → Nat → Int64} {p : Nat → Nat → Int32} {pa : Nat → Nat → Nat → Int32} {s : Nat → Nat → Int32} {sa : Nat → Nat → Nat → Int32} {sw : Bool} {rp : Value} {t : List jE} {z : Nat × Nat × Nat × (Nat → Int32)} (hj : j < 3) (hT : jtm (s j, sa j) T) (hPl : jPl (p (jq sw)) (pa (jq sw)) C Sc) (hm : f 15 < 0) :
    ∃ n2', K_h_pass D j f g n2 p pa s sa sw rp t z = some (.inl none, (jX f g n2' p pa (jup s j (cS f (p (jq sw)) (pa (jq sw)) (cwnd f (g 2) (p (jq sw)) (pa (jq sw)) (s j 0)) C Sc (s j, sa j)).1) (jup sa j (cS f (p (jq sw)) (pa (jq sw)) (cwnd f (g 2) (p (jq sw)) (pa (jq sw)) (s j 0)) C Sc (s j, sa j)).2) sw rp t, z)) := by
  obtain ⟨n2', m', he, hmr⟩ := S_h_pass (D := D) (f := f) (g := g) (n2 := n2) (p := p) (pa := pa) (s := s) (sa := sa) (sw := sw) (rp := rp) (t := t) (z := z) hj hT.2 (Nat.mod_lt T (by omega)) hPl (Or.inl hm)
  have hm' : m' = g 3 := by
    funext idx
    rcases hmr idx with h | ⟨row, hr, hf, -⟩
    · exact h
    · rw [hf] at hm; exact absurd hm (jnonneg (by omega))
  rw [hm', jup_self] at he
  exact ⟨n2', he⟩
theorem S_h_passDays {D j T nd : Nat} {C Sc : Nat} {f : Nat → Int32} {g : Nat → Nat → Int32} {n2 : Nat → Nat → Int64} {p : Nat → Nat → Int32} {pa : Nat → Nat → Nat → Int32} {s : Nat → Nat → Int32} {sa : Nat → Nat → Nat → Int32} {sw : Bool} {rp : Value} {t : List jE} {z : Nat × Nat × Nat × (Nat → Int32)} (hj : j < 3) (hT : jtm (s j, sa j) T) (hPl : jPl (p (jq sw)) (pa (jq sw)) C Sc) (hm : f 15 < 0) (hn : nd < 1000) (hn1 : 1 ≤ nd) :
    ∃ n2', K_h_passDays D j (Int32.ofNat nd) f g n2 p pa s sa sw rp t z = some (.inl none, (jX f g n2' p pa (jup s j (cN f (g 2) (p (jq sw)) (pa (jq sw)) C Sc (s j, sa j) (nd * 12 - T % 12)).1) (jup sa j (cN f (g 2) (p (jq sw)) (pa (jq sw)) C Sc (s j, sa j) (nd * 12 - T % 12)).2) sw rp t, z)) := by
  have hmod : T % 12 < 12 := Nat.mod_lt T (by omega)
  have hlast : Int32.ofNat nd * 12 - s j 1 = Int32.ofNat (nd * 12 - T % 12) := by
    have : s j 1 = Int32.ofNat (T % 12) := hT.2
    rw [this, jofmull, ← Int32.ofNat_sub (nd * 12) (T % 12) (by omega)]
  rw [E_h_passDays hj, hlast]
  generalize hL : nd * 12 - T % 12 = L
  have key : ∀ k, k ≤ L → ∃ n2', K_h_passDays_9 D j (some (.int (Int32.ofNat nd))) (Int32.ofNat L) 0 f g n2 p pa s sa sw rp t z = K_h_passDays_9 D j (some (.int (Int32.ofNat nd))) (Int32.ofNat L) (Int32.ofNat k) f g n2' p pa (jup s j (cN f (g 2) (p (jq sw)) (pa (jq sw)) C Sc (s j, sa j) k).1) (jup sa j (cN f (g 2) (p (jq sw)) (pa (jq sw)) C Sc (s j, sa j) k).2) sw rp t z := by
    intro k
    induction k with
    | zero =>
      intro _
      refine ⟨n2, ?_⟩
      simp only [cN, jup_self]; rfl
    | succ k ih =>
      intro hk
      obtain ⟨n2', he⟩ := ih (by omega)
      obtain ⟨n3, hp⟩ := S_h_pass0 (D := D) (j := j) (T := T + k) (f := f) (g := g) (n2 := n2') (p := p) (pa := pa) (s := jup s j (cN f (g 2) (p (jq sw)) (pa (jq sw)) C Sc (s j, sa j) k).1) (sa := jup sa j (cN f (g 2) (p (jq sw)) (pa (jq sw)) C Sc (s j, sa j) k).2) (sw := sw) (rp := rp) (t := t) (z := z) hj (by rw [jup_same, jup_same]; exact cN_tm hT k) hPl hm
      rw [jup_same, jup_same] at hp
      refine ⟨n3, ?_⟩
      rw [he, L_h_passDays_9 hj, if_pos (jlt_t (by omega) (by omega)), hp]
      simp only [jbO_some, jbO_none, jbO_ite, jk_some, jk_none, E_h_passDays_15 hj, jsucc, jup_jup]
      rfl
  obtain ⟨n2', he⟩ := key L (Nat.le_refl L)
  refine ⟨n2', ?_⟩
  rw [he, L_h_passDays_9 hj, if_neg (jlt_n (by omega) (by omega))]
theorem M_runs {D T nd : Nat} {C Sc : Nat} {tf w9 q : Nat → Int32} {qa : Nat → Nat → Int32} {S : jS} {e0 p0 c0 : Int32} {cx : jCX} {f : Nat → Int32} {g : Nat → Nat → Int32} {n : Nat → Nat → Int64} {b : Nat → Nat → Int32} {l : Nat → Int64} {t : List jE} {z : Nat × Nat × Nat × (Nat → Int32)} (hP : rPl q qa C Sc g) (hS : rSt C Sc S e0 p0 c0 (f 19) 1 g) (hfr : f 16 = -1 ∨ ∃ m, m < 2147483648 ∧ f 16 = Int32.ofNat m) (hTw : rTw tf f Sc) (hT : jtm S T) (hT2 : T < 100000) (hn : nd < 1000) (hn1 : 1 ≤ nd)
    (hd0 : g 14 0 = Int32.ofNat (T / 12)) (hW : ∀ d, T / 12 ≤ d → d < T / 12 + nd → mwnd f g (Int32.ofNat d) = cwnd tf w9 q qa (Int32.ofNat d)) :
    ∃ y n' g', K_m_runs D (Int32.ofNat nd) cx f g n b l t z = some (.inl none, (jXt cx (jY (jup f 15 y) g' n' b l t), z)) ∧ jfo 1 g g' ∧ g' 19 = g 19 ∧ rSt C Sc (cN tf w9 q qa C Sc S (nd * 12 - T % 12)) e0 p0 c0 (f 19) 1 g' := by
  have hmod : T % 12 < 12 := Nat.mod_lt T (by omega)
  rw [E_m_runs, hd0, jofadd]
  generalize hL : nd * 12 - T % 12 = L
  have key : ∀ k, k ≤ L → ∃ y n' g', K_m_runs_7 D (some (.int (Int32.ofNat nd))) (Int32.ofNat (T / 12 + nd)) cx f g n b l t z = K_m_runs_7 D (some (.int (Int32.ofNat nd))) (Int32.ofNat (T / 12 + nd)) cx (jup f 15 y) g' n' b l t z ∧ jfo 1 g g' ∧ g' 19 = g 19 ∧ rSt C Sc (cN tf w9 q qa C Sc S k) e0 p0 c0 (f 19) 1 g' := by
    intro k
    induction k with
    | zero =>
      intro _
      refine ⟨f 15, n, g, ?_, jfo.rf, rfl, hS⟩
      rw [jup_self]
    | succ k ih =>
      intro hk
      obtain ⟨y, n1, g1, he, hfo, h19, hst⟩ := ih (by omega)
      have htm := cN_tm (tf := tf) (w9 := w9) (q := q) (qa := qa) (C := C) (Sc := Sc) hT k
      have hAt : rAt q qa C Sc (cN tf w9 q qa C Sc S k) e0 p0 c0 1 (jup f 15 y) g1 := by
        refine ⟨by omega, hfo.pl hP, ?_, ⟨_, htm.1, by omega⟩, ⟨_, htm.2, Nat.mod_lt _ (by omega)⟩, ?_⟩
        · rw [jup_ne (by omega)]; exact hst
        · rw [jup_ne (by omega)]; exact hfr
      obtain ⟨y2, n2, g2, hp, hfo2, h192, hst2⟩ := M_passes (D := D) (tf := tf) (cx := cx) (n := n1) (b := b) (l := l) (t := t) (z := z) hAt (rTw_f (y := y) hTw)
      have hwv : mwnd (jup f 15 y) g1 ((cN tf w9 q qa C Sc S k).1 0) = cwnd tf w9 q qa ((cN tf w9 q qa C Sc S k).1 0) := by
        rw [mwnd_f, mwnd_g hfo, htm.1]
        exact hW _ (by omega) (by omega)
      rw [hwv, jup_ne (by omega)] at hst2
      rw [jup_jup] at hp
      have hp1 : K_m_passes D 1 cx (jup f 15 y) g1 n1 b l t z = _ := hp
      refine ⟨y2, n2, g2, ?_, hfo.tr hfo2, h192.trans h19, hst2⟩
      have hday : g1 14 1 = Int32.ofNat ((T + k) / 12) := hst.1.trans htm.1
      rw [he, L_m_runs_7, hday, if_pos (jlt_t (by omega) (by omega)), hp1]
      simp only [jbO_some, jbO_none, jbO_ite, jk_some, jk_none, E_m_runs_16]
  obtain ⟨y, n1, g1, he, hfo, h19, hst⟩ := key L (Nat.le_refl L)
  refine ⟨y, n1, g1, ?_, hfo, h19, hst⟩
  have hday : g1 14 1 = Int32.ofNat ((T + L) / 12) := hst.1.trans (cN_tm hT L).1
  rw [he, L_m_runs_7, hday, if_neg (jlt_n (by omega) (by omega))]

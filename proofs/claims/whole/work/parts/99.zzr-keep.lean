-- CALL BY CALL: keeping
theorem S_j_fill_memo {D : Nat} {v : Int32} {f : Nat → Int32} {g : Nat → Nat → Int32} {n2 : Nat → Nat → Int64} {p : Nat → Nat → Int32} {pa : Nat → Nat → Nat → Int32} {s : Nat → Nat → Int32} {sa : Nat → Nat → Nat → Int32} {sw : Bool} {rp : Value} {t : List jE} {z : Nat × Nat × Nat × (Nat → Int32)} : K_j_fill_memo D v f g n2 p pa s sa sw rp t z = some (.inl none, (jX f (jup g 3 (jfil v 6480 (g 3))) n2 p pa s sa sw rp t, z)) := by
  rw [E_j_fill_memo]
  have key : ∀ k, k ≤ 6480 → K_j_fill_memo_5 D v 0 (Int32.ofNat 6480) f g n2 p pa s sa sw rp t z = K_j_fill_memo_5 D v (Int32.ofNat k) (Int32.ofNat 6480) f (jup g 3 (jfil v k (g 3))) n2 p pa s sa sw rp t z := by
    intro k
    induction k with
    | zero =>
      intro _
      have : jfil v 0 (g 3) = g 3 := by funext i; simp [jfil]
      rw [this, jup_self]; rfl
    | succ k ih =>
      intro hk
      have hx : jup (jfil v k (g 3)) k v = jfil v (k + 1) (g 3) := by
        funext i
        by_cases h : i = k
        · subst h; simp [jup, jfil]
        · by_cases h2 : i < k
          · simp [jup, jfil, h, h2, show i < k + 1 by omega]
          · simp [jup, jfil, h, h2, show ¬ i < k + 1 by omega]
      rw [ih (by omega), L_j_fill_memo_5, if_pos (jlt_t (by omega) (by omega)), if_neg (jout_n (by omega) (by omega)), jclamp (show k < 2147483648 by omega), jup_same, jup_jup, hx, jsucc]
  rw [key 6480 (Nat.le_refl 6480), L_j_fill_memo_5, if_neg (jlt_n (by omega) (by omega))]
theorem mwnd_16 {f f' : Nat → Int32} {g : Nat → Nat → Int32} {d : Int32} (h : f' 16 = f 16) : mwnd f' g d = mwnd f g d := by unfold mwnd; rw [h]
theorem rTw_1920 {tf f f' : Nat → Int32} {Sc : Nat} (h19 : f' 19 = f 19) (h20 : f' 20 = f 20) (h : rTw tf f Sc) : rTw tf f' Sc := by unfold rTw at h ⊢; rw [h19, h20]; exact h
def mkp (M bits x : Nat) : Prop := x < bits ∧ jpcn x 12 ≤ M
/-- what the reference holds as best -/
def minv (ev : Nat → Nat) (P : Nat → Prop) (a c : Int32) : Prop := (a = -1 ∧ ∀ x, ¬ P x) ∨ ∃ best, best < 4096 ∧ a = Int32.ofNat best ∧ c = Int32.ofNat (ev best) ∧ P best ∧ ∀ x, P x → jlx ev best x
theorem minv_no {ev : Nat → Nat} {M bits : Nat} {a c : Int32} (hne : M < jpcn bits 12) (h : minv ev (mkp M bits) a c) : minv ev (mkp M (bits + 1)) a c := by
  have hP : ∀ x, mkp M (bits + 1) x → mkp M bits x := by
    rintro x ⟨p1, p2⟩
    refine ⟨?_, p2⟩
    by_cases hx : x = bits
    · subst hx; omega
    · omega
  rcases h with ⟨h1, h2⟩ | ⟨best, h0, h1, h2, h3, h4⟩
  · exact Or.inl ⟨h1, fun x q => h2 x (hP x q)⟩
  · exact Or.inr ⟨best, h0, h1, h2, ⟨by have := h3.1; omega, h3.2⟩, fun x q => h4 x (hP x q)⟩
theorem M_lay_12 {D T nd i C Sc M L : Nat} {tf w9 q : Nat → Int32} {qa : Nat → Nat → Int32} {A0 S0 : jS} {ev : Nat → Nat} {f0 : Nat → Int32} {mg : Nat → Nat → Int32} {cx : jCX} {b : Nat → Nat → Int32} {l : Nat → Int64} {t : List jE} {z : Nat × Nat × Nat × (Nat → Int32)} (hP : rPl q qa C Sc mg) (hS : rSt C Sc S0 0 0 0 (f0 19) 0 mg) (h19 : ¬ f0 19 = 1) (hfr : f0 16 = -1 ∨ ∃ m, m < 2147483648 ∧ f0 16 = Int32.ofNat m) (hTw : rTw tf f0 Sc) (hT : jtm S0 T) (hT2 : T < 100000) (hnd : nd ≤ 3) (hnd1 : 1 ≤ nd) (hi : i < Sc) (hL : nd * 12 - T % 12 = L)
    (hW : ∀ d, d < 2147483648 → mwnd f0 mg (Int32.ofNat d) = cwnd tf w9 q qa (Int32.ofNat d)) (hM : M ≤ 3) (hev : ∀ x, ev x ≤ 2970) (hva : ∀ k, k < 4096 → (cN tf w9 q qa C Sc (jsb (jtry A0 S0) i k) L).1 3 = Int32.ofNat (ev k)) :
    ∀ (n0 : Nat → Nat → Int64), ∃ (f' : Nat → Int32) (g' : Nat → Nat → Int32) (n' : Nat → Nat → Int64), K_m_layKeeping_12 D (Int32.ofNat i) (Int32.ofNat nd) (Int32.ofNat M) 0 none cx (jup f0 21 (-1)) mg n0 b l t z = some (.inl none, (jXt cx (jY f' g' n' b l t), z)) ∧ (∀ x, x ≠ 15 → x ≠ 21 → x ≠ 22 → f' x = f0 x) ∧ jfo 1 mg g' ∧ minv ev (mkp M 4096) (f' 21) (f' 22) := by
  have hC : C ≤ 30 := hP.1.2.1
  have hS6 : Sc ≤ 6 := hP.1.2.2.2.2.2.1
  intro n0
  generalize hQ0 : K_m_layKeeping_12 D (Int32.ofNat i) (Int32.ofNat nd) (Int32.ofNat M) 0 none cx (jup f0 21 (-1)) mg n0 b l t z = Q0
  have key : ∀ k, k ≤ 4096 → ∃ (f' : Nat → Int32) (g' : Nat → Nat → Int32) (n' : Nat → Nat → Int64) (d5 : Option Value), Q0 = K_m_layKeeping_12 D (Int32.ofNat i) (Int32.ofNat nd) (Int32.ofNat M) (Int32.ofNat k) d5 cx f' g' n' b l t z ∧ (∀ x, x ≠ 15 → x ≠ 21 → x ≠ 22 → f' x = f0 x) ∧ jfo 1 mg g' ∧ minv ev (mkp M k) (f' 21) (f' 22) := by
    intro k
    induction k with
    | zero =>
      intro _
      exact ⟨jup f0 21 (-1), mg, n0, none, hQ0.symm, fun x _ h _ => jup_ne h, jfo.rf, Or.inl ⟨jup_same, fun x q => absurd q.1 (Nat.not_lt_zero x)⟩⟩
    | succ k ih =>
      intro hk
      obtain ⟨f1, g1, n1, d5, he, hf1, hfo1, hin⟩ := ih (by omega)
      have hlt : Int32.ofNat k < 4096 := jlt_t (b := 4096) (by omega) (by omega)
      have hpc := jpcn_le (k := k) (n := 12)
      rw [L_m_layKeeping_12, if_pos hlt, M_bits12 (show k < 4096 by omega), jbO_some, jk_some, E_m_layKeeping_17] at he
      by_cases hps : M < jpcn k 12
      · rw [if_pos (jlt_t hps (by omega)), E_m_layKeeping_69, jsucc] at he
        exact ⟨f1, g1, n1, d5, he, hf1, hfo1, minv_no hps hin⟩
      obtain ⟨g2, hcp, hfo2, hc10⟩ := M_copies (D := D) (A := 1) (B := 0) (cx := cx) (f := f1) (g := g1) (n := n1) (b := b) (l := l) (t := t) (z := z) (by omega) (by omega) (by omega)
      have hcp1 : K_m_copies D 1 0 cx f1 g1 n1 b l t z = _ := hcp
      have hc2 : jcop 1 0 mg g2 := (hfo1.cop (show 0 ≠ 1 by omega)).tr hc10
      have hfo3 := hfo1.tr hfo2
      have e19 : f1 19 = f0 19 := hf1 19 (by omega) (by omega) (by omega)
      have e16 : f1 16 = f0 16 := hf1 16 (by omega) (by omega) (by omega)
      have hst : rSt C Sc (jsb (jtry A0 S0) i k) (S0.1 3) (S0.1 4) (S0.1 5) (f1 19) 1 (jup g2 23 (jup (g2 23) (6 * 1 + i) (Int32.ofNat k))) := by
        rw [e19]
        exact rSt_ro (jtry_st (A := A0) hC hS6 (hc2.st hC hS6 hS))
      have hfo4 : jfo 1 mg (jup g2 23 (jup (g2 23) (6 * 1 + i) (Int32.ofNat k))) := hfo3.tr (jfo_23 (by omega))
      have hTb : jtm (jsb (jtry A0 S0) i k) T := by
        have : jtm (jtry A0 S0) T := jtry_tm hT
        exact this
      obtain ⟨yy, n3, g3, hru, hfo5, -, hst3⟩ := M_runs (D := D) (T := T) (nd := nd) (tf := tf) (w9 := w9) (cx := cx) (f := f1) (n := n1) (b := b) (l := l) (t := t) (z := z) (hfo4.pl hP) hst (by rw [e16]; exact hfr) (rTw_1920 e19 (hf1 20 (by omega) (by omega) (by omega)) hTw) hTb hT2 (by omega) hnd1 (by rw [hfo4.2.1 14 (by omega) (by omega) 0 (by omega)]; exact hS.1.trans hT.1) (fun d hd1 hd2 => by rw [mwnd_16 e16, mwnd_g hfo4]; exact hW d (by omega))
      have hfo6 := hfo4.tr hfo5
      have hits : g3 16 1 - g3 16 0 = Int32.ofNat (ev k) := by
        have a1 : g3 16 1 = S0.1 3 + (cN tf w9 q qa C Sc (jsb (jtry A0 S0) i k) (nd * 12 - T % 12)).1 3 := hst3.2.2.1
        have a2 : g3 16 0 = 0 + S0.1 3 := by rw [hfo6.2.1 16 (by omega) (by omega) 0 (by omega)]; exact hS.2.2.1
        rw [a1, a2, jsubc, hL]; exact hva k (by omega)
      have hi138 : (6 : Int32) + Int32.ofNat i = Int32.ofNat (6 * 1 + i) := jofadd (a := 6)
      rw [if_neg (jlt_n (by omega) (by omega)), hcp1, jbO_some, jk_none, E_m_layKeeping_24, hi138, E_m_layKeeping_30, if_neg (jout_n (by omega) (by omega)), jclamp (show 6 * 1 + i < 2147483648 by omega), hru, jbO_some, jk_none, E_m_layKeeping_34, hits] at he
      have f21 : (jup f1 15 yy) 21 = f1 21 := jup_ne (by omega)
      have f22 : (jup f1 15 yy) 22 = f1 22 := jup_ne (by omega)
      rw [f21, f22] at he
      have hkk : mkp M (k + 1) k := ⟨by omega, by omega⟩
      have hup : ∀ x, mkp M (k + 1) x → x = k ∨ mkp M k x := by
        rintro x ⟨p1, p2⟩
        by_cases hx : x = k
        · exact Or.inl hx
        · exact Or.inr ⟨by omega, p2⟩
      -- the new one is taken
      have htake : (∀ x, mkp M k x → jlx ev k x) → K_m_layKeeping_63 D (Int32.ofNat i) (Int32.ofNat nd) (Int32.ofNat M) (Int32.ofNat k) (Int32.ofNat (ev k)) cx (jup f1 15 yy) g3 n3 b l t z = Q0 → ∃ (f' : Nat → Int32) (g' : Nat → Nat → Int32) (n' : Nat → Nat → Int64) (d5 : Option Value), Q0 = K_m_layKeeping_12 D (Int32.ofNat i) (Int32.ofNat nd) (Int32.ofNat M) (Int32.ofNat (k + 1)) d5 cx f' g' n' b l t z ∧ (∀ x, x ≠ 15 → x ≠ 21 → x ≠ 22 → f' x = f0 x) ∧ jfo 1 mg g' ∧ minv ev (mkp M (k + 1)) (f' 21) (f' 22) := by
        intro hmin h63
        rw [E_m_layKeeping_63, E_m_layKeeping_69, jsucc] at h63
        refine ⟨_, g3, n3, _, h63.symm, fun x a c d => ?_, hfo6, Or.inr ⟨k, by omega, ?_, ?_, hkk, fun x hx => ?_⟩⟩
        · rw [jup_ne d, jup_ne c, jup_ne a]; exact hf1 x a c d
        · rw [jup_ne (by omega), jup_same]
        · rw [jup_same]
        · rcases hup x hx with rfl | q
          · exact Or.inr ⟨rfl, Or.inr ⟨rfl, Nat.le_refl _⟩⟩
          · exact hmin x q
      have hkeep : ∀ best, best < 4096 → f1 21 = Int32.ofNat best → f1 22 = Int32.ofNat (ev best) → mkp M k best → (∀ x, mkp M k x → jlx ev best x) → jlx ev best k → ∀ d, K_m_layKeeping_69 D (Int32.ofNat i) (Int32.ofNat nd) (Int32.ofNat M) (Int32.ofNat k) d cx (jup f1 15 yy) g3 n3 b l t z = Q0 → ∃ (f' : Nat → Int32) (g' : Nat → Nat → Int32) (n' : Nat → Nat → Int64) (d5 : Option Value), Q0 = K_m_layKeeping_12 D (Int32.ofNat i) (Int32.ofNat nd) (Int32.ofNat M) (Int32.ofNat (k + 1)) d5 cx f' g' n' b l t z ∧ (∀ x, x ≠ 15 → x ≠ 21 → x ≠ 22 → f' x = f0 x) ∧ jfo 1 mg g' ∧ minv ev (mkp M (k + 1)) (f' 21) (f' 22) := by
        intro best hb4 h21 h22 hpb hmin hbk d h69
        rw [E_m_layKeeping_69, jsucc] at h69
        refine ⟨_, g3, n3, d, h69.symm, fun x a c d => ?_, hfo6, Or.inr ⟨best, hb4, ?_, ?_, ⟨by have := hpb.1; omega, hpb.2⟩, fun x hx => ?_⟩⟩
        · rw [jup_ne a]; exact hf1 x a c d
        · rw [f21]; exact h21
        · rw [f22]; exact h22
        · rcases hup x hx with rfl | q
          · exact hbk
          · exact hmin x q
      rcases hin with ⟨h1, h2⟩ | ⟨best, hb4, h1, h2, h3, h4⟩
      · rw [if_pos h1] at he
        exact htake (fun x q => absurd q (h2 x)) he.symm
      · have hne1 : ¬ f1 21 = -1 := by rw [h1, jnot_one (by omega)]; exact fun q => q
        have eb := hev best
        have ek := hev k
        rw [if_neg hne1, h2] at he
        by_cases hlt2 : ev best < ev k
        · rw [if_pos (jlt_t hlt2 (by omega))] at he
          exact hkeep best hb4 h1 h2 h3 h4 (Or.inl hlt2) _ he.symm
        rw [if_neg (jlt_n (by omega) (by omega))] at he
        by_cases heq : ev k = ev best
        rotate_left
        · rw [if_neg (fun r => heq (jofinj (by omega) (by omega) r))] at he
          refine htake (fun x hx => ?_) he.symm
          rcases h4 x hx with d | ⟨d, -⟩
          · left; omega
          · left; omega
        have hpb := jpcn_le (k := best) (n := 12)
        rw [if_pos (by rw [heq]), M_bits12 (show k < 4096 by omega), jbO_some, jk_some, E_m_layKeeping_58, f21, h1, M_bits12 hb4, jbO_some, jk_some, E_m_layKeeping_61] at he
        by_cases hfew : jpcn k 12 < jpcn best 12
        · rw [if_pos (jlt_t hfew (by omega))] at he
          refine htake (fun x hx => ?_) he.symm
          have := h4 x hx
          unfold jlx at this ⊢
          omega
        · rw [if_neg (jlt_n (by omega) (by omega))] at he
          refine hkeep best hb4 h1 h2 h3 h4 ?_ _ he.symm
          have := h3.1
          unfold jlx
          omega
  obtain ⟨f1, g1, n1, d5, he, hf1, hfo1, hin⟩ := key 4096 (Nat.le_refl _)
  refine ⟨f1, g1, n1, ?_, hf1, hfo1, hin⟩
  rw [he, L_m_layKeeping_12, if_neg (by decide)]

-- CALL BY CALL: feed
def jbyte (a : Int32) (k : Nat) : Int32 := (a >>> (Int32.ofNat (24 - 8 * k) &&& 31)) &&& 255
theorem jb255 (x : Int32) : ∃ b : Nat, b < 256 ∧ (x &&& 255) = Int32.ofNat b := by
  have h : x.toBitVec.toNat &&& 255 ≤ 255 := Nat.and_le_right
  refine ⟨x.toBitVec.toNat &&& 255, by omega, ?_⟩
  apply Int32.toBitVec_inj.mp
  apply BitVec.eq_of_toNat_eq
  rw [Int32.toBitVec_and, BitVec.toNat_and, show (255 : Int32).toBitVec.toNat = 255 by decide, show (Int32.ofNat (x.toBitVec.toNat &&& 255)).toBitVec = BitVec.ofNat 32 (x.toBitVec.toNat &&& 255) from rfl, BitVec.toNat_ofNat, Nat.mod_eq_of_lt (by omega)]
/-- bytes of five words put behind what stands -/
def jfeed (w : Nat → Int32) (h : Nat → Int32) (tl n : Nat) : Nat → Int32 := fun q => if tl ≤ q ∧ q < tl + n then jbyte (w ((q - tl) / 4)) ((q - tl) % 4) else h q
theorem jfeed_0 {w h : Nat → Int32} {tl : Nat} : jfeed w h tl 0 = h := by
  funext q; unfold jfeed; rw [if_neg (by omega)]
theorem jfeed_s {w h : Nat → Int32} {tl n : Nat} : jup (jfeed w h tl n) (tl + n) (jbyte (w (n / 4)) (n % 4)) = jfeed w h tl (n + 1) := by
  funext q
  by_cases hq : q = tl + n
  · subst hq
    rw [jup_same]; unfold jfeed; rw [if_pos (by omega), show tl + n - tl = n by omega]
  · rw [jup_ne hq]; unfold jfeed
    by_cases h1 : tl ≤ q ∧ q < tl + n
    · rw [if_pos h1, if_pos (by omega)]
    · rw [if_neg h1, if_neg (by omega)]
theorem S_c_put {D tl n : Nat} {w h0 : Nat → Int32} {f : Nat → Int32} {g : Nat → Nat → Int32} {n2 : Nat → Nat → Int64} {p : Nat → Nat → Int32} {pa : Nat → Nat → Nat → Int32} {s : Nat → Nat → Int32} {sa : Nat → Nat → Nat → Int32} {sw : Bool} {rp : Value} {t : List jE} {z : Nat × Nat × Nat × (Nat → Int32)} (hn : n % 4 = 0) (hb : tl + n + 4 ≤ 700) : K_c_put D (w (n / 4)) (jup f 0 (Int32.ofNat (tl + n))) (jup g 0 (jfeed w h0 tl n)) n2 p pa s sa sw rp t z = some (.inl none, (jX (jup f 0 (Int32.ofNat (tl + n + 4))) (jup g 0 (jfeed w h0 tl (n + 4))) n2 p pa s sa sw rp t, z)) := by
  have one : ∀ (j : Nat) (x2 : Int32), j < 4 → ¬ x2 < 0 → x2 = Int32.ofNat (24 - 8 * j) → K_c_put_2 D (w (n / 4)) x2 (jup f 0 (Int32.ofNat (tl + n + j))) (jup g 0 (jfeed w h0 tl (n + j))) n2 p pa s sa sw rp t z = K_c_put_2 D (w (n / 4)) (x2 + (-8)) (jup f 0 (Int32.ofNat (tl + n + (j + 1)))) (jup g 0 (jfeed w h0 tl (n + (j + 1)))) n2 p pa s sa sw rp t z := by
    intro j x2 hj hx hx2
    have hl : Int32.ofNat (tl + n + j) < 700 := jlt_t (b := 700) (by omega) (by omega)
    have hjo : ¬ jout (Int32.ofNat (tl + n + j)) 700 := jout_n (by omega) (by omega)
    have hs := jfeed_s (w := w) (h := h0) (tl := tl) (n := n + j)
    rw [show (n + j) / 4 = n / 4 by omega, show (n + j) % 4 = j by omega, show tl + (n + j) = tl + n + j by omega] at hs
    rw [L_c_put_2, if_neg hx, jup_same, if_pos hl, if_neg hjo, jclamp (by omega), jsucc, jup_jup, jup_same, jup_jup]
    have hby : ((w (n / 4) >>> (x2 &&& 31)) &&& 255) = jbyte (w (n / 4)) j := by rw [hx2]; rfl
    rw [hby, hs]
    rfl
  rw [E_c_put]
  have s0 := one 0 24 (by omega) (by decide) (by decide)
  have s1 := one 1 (24 + (-8)) (by omega) (by decide) (by decide)
  have s2 := one 2 (24 + (-8) + (-8)) (by omega) (by decide) (by decide)
  have s3 := one 3 (24 + (-8) + (-8) + (-8)) (by omega) (by decide) (by decide)
  refine s0.trans (s1.trans (s2.trans (s3.trans ?_)))
  rw [L_c_put_2, if_pos (by decide)]
theorem A_feed {D : Nat} {a0 a1 a2 a3 a4 : Int32} {f : Nat → Int32} {g : Nat → Nat → Int32} {n2 : Nat → Nat → Int64} {p : Nat → Nat → Int32} {pa : Nat → Nat → Nat → Int32} {s : Nat → Nat → Int32} {sa : Nat → Nat → Nat → Int32} {sw : Bool} {rp : Value} {mf : Nat → Int32} {mg : Nat → Nat → Int32} {mn : Nat → Nat → Int64} {mb : Nat → Nat → Int32} {ml : Nat → Int64} (h : RR f g p pa s sa sw mf mg mb) : ∀ (t : List jE) (z : Nat × Nat × Nat × (Nat → Int32)), ∃ r : Int32, ∃ f' g' n2' p' pa' s' sa' sw' rp', K_c_feed D a0 a1 a2 a3 a4 f g n2 p pa s sa sw rp t z = some (.inl (some (.int r)), (jX f' g' n2' p' pa' s' sa' sw' rp' t, z)) ∧ ∀ (cx : jCX) (t1 : List jE) (z1 : Nat × Nat × Nat × (Nat → Int32)), ∃ mf' mg' mn' mb' ml', K_m_feed D a0 a1 a2 a3 a4 cx mf mg mn mb ml t1 z1 = some (.inl (some (.int r)), (jXt cx (jY mf' mg' mn' mb' ml' t1), z1)) ∧ RR f' g' p' pa' s' sa' sw' mf' mg' mb' := by
  intro t z
  have hr := RR_congr h (by intro k hk; simp (disch := omega) only [jup_ne]) (by intro k hk; simp (disch := omega) only [jup_ne]) rfl rfl (by constructor <;> simp (disch := omega) only [jup_ne]) (by constructor <;> simp (disch := omega) only [jup_ne]) (by intro k hk; simp (disch := omega) only [jup_ne]) (jq1.rf) rfl (f' := f) (g' := g) (s' := s) (sa' := sa) (p' := p) (pa' := pa) (sw' := sw) (mf' := jup mf 0 0) (mg' := mg) (mb' := mb)
  obtain ⟨C, Sc, h1, h2, h3, h4, h5, h6, h7, h8, ⟨tl, t1, t2, t3, t4⟩, h10, h11⟩ := id h
  by_cases hbig : 680 < tl
  · refine ⟨-1, f, g, n2, p, pa, s, sa, sw, rp, ?_, fun cx t z => ⟨jup mf 0 0, mg, mn, mb, ml, ?_, hr⟩⟩
    · have : (700 : Int32) < f 0 + 20 := by rw [t2, show (20 : Int32) = Int32.ofNat 20 from rfl, jofadd]; exact jlt_t (a := 700) (by omega) (by omega)
      rw [E_c_feed, if_pos this]
    · have : (680 : Int32) < mf 1 := by rw [t3]; exact jlt_t (a := 680) (by omega) (by omega)
      rw [E_m_feed, if_pos this]
  have hc0 : ¬ (700 : Int32) < f 0 + 20 := by rw [t2, show (20 : Int32) = Int32.ofNat 20 from rfl, jofadd]; exact jlt_n (b := tl + 20) (a := 700) (by omega) (by omega)
  have hm0 : ¬ (680 : Int32) < mf 1 := by rw [t3]; exact jlt_n (b := tl) (a := 680) (by omega) (by omega)
  let w : Nat → Int32 := fun k => if k = 0 then a0 else if k = 1 then a1 else if k = 2 then a2 else if k = 3 then a3 else a4
  have p0 := S_c_put (D := D) (tl := tl) (n := 0) (w := w) (h0 := g 0) (f := f) (g := g) (n2 := n2) (p := p) (pa := pa) (s := s) (sa := sa) (sw := sw) (rp := rp) (t := t) (z := z) (by omega) (by omega)
  have p1 := S_c_put (D := D) (tl := tl) (n := 4) (w := w) (h0 := g 0) (f := f) (g := g) (n2 := n2) (p := p) (pa := pa) (s := s) (sa := sa) (sw := sw) (rp := rp) (t := t) (z := z) (by omega) (by omega)
  have p2 := S_c_put (D := D) (tl := tl) (n := 8) (w := w) (h0 := g 0) (f := f) (g := g) (n2 := n2) (p := p) (pa := pa) (s := s) (sa := sa) (sw := sw) (rp := rp) (t := t) (z := z) (by omega) (by omega)
  have p3 := S_c_put (D := D) (tl := tl) (n := 12) (w := w) (h0 := g 0) (f := f) (g := g) (n2 := n2) (p := p) (pa := pa) (s := s) (sa := sa) (sw := sw) (rp := rp) (t := t) (z := z) (by omega) (by omega)
  have p4 := S_c_put (D := D) (tl := tl) (n := 16) (w := w) (h0 := g 0) (f := f) (g := g) (n2 := n2) (p := p) (pa := pa) (s := s) (sa := sa) (sw := sw) (rp := rp) (t := t) (z := z) (by omega) (by omega)
  rw [jfeed_0, jup_self, Nat.add_zero, ← t2, jup_self] at p0
  have p0' : K_c_put D a0 f g n2 p pa s sa sw rp t z = _ := p0
  have p1' : K_c_put D a1 (jup f 0 (Int32.ofNat (tl + 4))) (jup g 0 (jfeed w (g 0) tl 4)) n2 p pa s sa sw rp t z = _ := p1
  have p2' : K_c_put D a2 (jup f 0 (Int32.ofNat (tl + 8))) (jup g 0 (jfeed w (g 0) tl 8)) n2 p pa s sa sw rp t z = _ := p2
  have p3' : K_c_put D a3 (jup f 0 (Int32.ofNat (tl + 12))) (jup g 0 (jfeed w (g 0) tl 12)) n2 p pa s sa sw rp t z = _ := p3
  have p4' : K_c_put D a4 (jup f 0 (Int32.ofNat (tl + 16))) (jup g 0 (jfeed w (g 0) tl 16)) n2 p pa s sa sw rp t z = _ := p4
  refine ⟨Int32.ofNat (tl + 20), jup f 0 (Int32.ofNat (tl + 20)), jup g 0 (jfeed w (g 0) tl 20), n2, p, pa, s, sa, sw, rp, ?_, fun cx t1 z1 => ?_⟩
  · rw [E_c_feed, if_neg hc0, p0']
    simp only [jbO_some, jbO_none, jbO_ite, jk_some, jk_none, E_c_feed_11]
    rw [show tl + 0 + 4 = tl + 4 from rfl, show (0 + 4 : Nat) = 4 from rfl, p1']
    simp only [jbO_some, jbO_none, jbO_ite, jk_some, jk_none, E_c_feed_14]
    rw [show tl + 4 + 4 = tl + 8 from rfl, show (4 + 4 : Nat) = 8 from rfl, p2']
    simp only [jbO_some, jbO_none, jbO_ite, jk_some, jk_none, E_c_feed_17]
    rw [show tl + 8 + 4 = tl + 12 from rfl, show (8 + 4 : Nat) = 12 from rfl, p3']
    simp only [jbO_some, jbO_none, jbO_ite, jk_some, jk_none, E_c_feed_20]
    rw [show tl + 12 + 4 = tl + 16 from rfl, show (12 + 4 : Nat) = 16 from rfl, p4']
    simp only [jbO_some, jbO_none, jbO_ite, jk_some, jk_none, E_c_feed_23, jup_same]
  · have key : ∀ k, k ≤ 20 → ∃ d7, K_m_feed_11 D a0 a1 a2 a3 a4 0 none cx (jup mf 0 0) mg mn mb ml t1 z1 = K_m_feed_11 D a0 a1 a2 a3 a4 (Int32.ofNat k) d7 cx (jup mf 0 0) (jup mg 0 (jfeed w (mg 0) tl k)) mn mb ml t1 z1 := by
      intro k
      induction k with
      | zero => intro _; exact ⟨none, by rw [jfeed_0, jup_self]; rfl⟩
      | succ k ih =>
        intro hk
        obtain ⟨d7, he⟩ := ih (by omega)
        refine ⟨some (.int (w (k / 4))), ?_⟩
        have e35 : K_m_feed_11 D a0 a1 a2 a3 a4 (Int32.ofNat k) d7 cx (jup mf 0 0) (jup mg 0 (jfeed w (mg 0) tl k)) mn mb ml t1 z1 = K_m_feed_35 D a0 a1 a2 a3 a4 (Int32.ofNat k) d7 (w (k / 4)) cx (jup mf 0 0) (jup mg 0 (jfeed w (mg 0) tl k)) mn mb ml t1 z1 := by
          rw [L_m_feed_11, if_pos (show Int32.ofNat k < 20 from jlt_t (b := 20) (by omega) (by omega))]
          by_cases k4 : k < 4
          · rw [if_pos (show Int32.ofNat k < 4 from jlt_t (b := 4) k4 (by omega)), show k / 4 = 0 by omega]; rfl
          rw [if_neg (show ¬ Int32.ofNat k < 4 from jlt_n (b := 4) (by omega) (by omega))]
          by_cases k8 : k < 8
          · rw [if_pos (show Int32.ofNat k < 8 from jlt_t (b := 8) k8 (by omega)), show k / 4 = 1 by omega]; rfl
          rw [if_neg (show ¬ Int32.ofNat k < 8 from jlt_n (b := 8) (by omega) (by omega))]
          by_cases k12 : k < 12
          · rw [if_pos (show Int32.ofNat k < 12 from jlt_t (b := 12) k12 (by omega)), show k / 4 = 2 by omega]; rfl
          rw [if_neg (show ¬ Int32.ofNat k < 12 from jlt_n (b := 12) (by omega) (by omega))]
          by_cases k16 : k < 16
          · rw [if_pos (show Int32.ofNat k < 16 from jlt_t (b := 16) k16 (by omega)), show k / 4 = 3 by omega]; rfl
          rw [if_neg (show ¬ Int32.ofNat k < 16 from jlt_n (b := 16) (by omega) (by omega)), show k / 4 = 4 by omega]; rfl
        have hsh : (24 : Int32) - 8 * (Int32.ofNat k - Int32.ofNat k / 4 * 4) = Int32.ofNat (24 - 8 * (k % 4)) := by
          rw [show (4 : Int32) = Int32.ofNat 4 from rfl, jofmod (by omega) (by omega), show (8 : Int32) = Int32.ofNat 8 from rfl, jofmul, show (24 : Int32) = Int32.ofNat 24 from rfl, ← Int32.ofNat_sub _ _ (by omega)]
        have hidx : (jup mf 0 0) 1 + Int32.ofNat k = Int32.ofNat (tl + k) := by rw [jup_ne (by omega), t3, jofadd]
        rw [he, e35, E_m_feed_35, hsh, hidx, E_m_feed_53, if_neg (jout_n (by omega) (by omega)), jclamp (by omega), jup_same, jup_jup, jsucc]
        have := jfeed_s (w := w) (h := mg 0) (tl := tl) (n := k)
        unfold jbyte at this
        rw [this]
    obtain ⟨d7, he⟩ := key 20 (Nat.le_refl 20)
    refine ⟨jup (jup mf 0 0) 1 (Int32.ofNat (tl + 20)), jup mg 0 (jfeed w (mg 0) tl 20), mn, mb, ml, ?_, ?_⟩
    · rw [E_m_feed, if_neg hm0, he, L_m_feed_11, if_neg (by decide)]
      have hidx : (jup mf 0 0) 1 + 20 = Int32.ofNat (tl + 20) := by rw [jup_ne (by omega), t3, show (20 : Int32) = Int32.ofNat 20 from rfl, jofadd]
      rw [hidx]
    · have hfrm : ∀ {S F}, rFr C Sc S F mg → rFr C Sc S F (jup mg 0 (jfeed w (mg 0) tl 20)) := by
        intro S F hh
        unfold rFr rSt at hh ⊢
        simp (disch := omega) only [jup_ne]
        exact hh
      obtain ⟨u, u1, u2, u3, u4, u5⟩ := h7
      refine ⟨C, Sc, ?_, h2, ?_, ?_, hfrm h5, ?_, ?_, ?_, ?_, ?_, ?_⟩
      · unfold rPl rLaw at h1 ⊢; simp (disch := omega) only [jup_ne]; exact h1
      · unfold jneu at h3 ⊢; simp (disch := omega) only [jup_ne]; exact h3
      · unfold mneu at h4 ⊢; simp (disch := omega) only [jup_ne]; exact h4
      · unfold rIm at h6 ⊢
        simp (disch := omega) only [jup_ne]
        exact ⟨h6.1, h6.2.1, fun hn => hfrm (h6.2.2 hn)⟩
      · refine ⟨u, u1, by simp (disch := omega) only [jup_ne]; exact u2, by simp (disch := omega) only [jup_ne]; exact u3, ?_, ?_⟩
        · intro k hk
          rw [jun_congr (jup_ne (by omega)) (jup_ne (by omega)) (jup_ne (by omega))]
          exact hfrm (u4 k hk)
        · rw [jup_ne (by omega)]; exact u5
      · unfold rNo at h8 ⊢
        simp (disch := omega) only [jup_ne]
        exact h8
      · refine ⟨tl + 20, by omega, jup_same, jup_same, ?_⟩
        intro i hi
        rw [jup_same, jup_same]
        unfold jfeed
        by_cases hin : tl ≤ i ∧ i < tl + 20
        · rw [if_pos hin, if_pos hin]
          exact ⟨rfl, jb255 _⟩
        · rw [if_neg hin, if_neg hin]
          exact t4 i (by omega)
      · simp (disch := omega) only [jup_ne]; exact h10
      · unfold rWd at h11 ⊢
        rw [jup_ne (by omega)]; exact h11

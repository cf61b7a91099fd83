-- FITS: the reference's hours
theorem jnr_congr {P : Nat → Bool} {G : Nat → Nat → Int32} {C kn : Nat} {g g' b : Nat → Nat → Int32} (hg : ∀ k, 30 ≤ k → k ≤ 33 → g' k = g k) (h : jnr P G C kn g b) : jnr P G C kn g' b := by
  unfold jnr at h ⊢
  rw [hg 30 (by omega) (by omega), hg 31 (by omega) (by omega), hg 32 (by omega) (by omega), hg 33 (by omega) (by omega)]
  exact h
theorem rSt_ro {C Sc F i : Nat} {S : jS} {e0 p0 c0 tw v : Int32} {g : Nat → Nat → Int32} (h : rSt C Sc S e0 p0 c0 tw F g) : rSt C Sc (S.1, jup S.2 2 (jup (S.2 2) i v)) e0 p0 c0 tw F (jup g 23 (jup (g 23) (6 * F + i) v)) := by
  obtain ⟨a1, a2, a3, a4, a5, a6, a7, a8, a9⟩ := h
  refine ⟨?_, ?_, ?_, ?_, ?_, ?_, ?_, ?_, ?_⟩ <;> dsimp only <;> simp (disch := omega) only [jup_ne, jup_same]
  · exact a1
  · exact a2
  · exact a3
  · exact a4
  · exact a5
  · exact a6
  · exact a7
  · exact a8
  · intro x hx
    obtain ⟨b1, b2, b3⟩ := a9 x hx
    refine ⟨?_, b2, b3⟩
    by_cases hxi : x = i
    · subst hxi; rw [jup_same, jup_same]
    · rw [jup_ne hxi, jup_ne (by omega)]; exact b1
theorem jfo_23 {F i : Nat} {v : Int32} {g : Nat → Nat → Int32} (hi : i < 6) : jfo F g (jup g 23 (jup (g 23) (6 * F + i) v)) := by
  refine ⟨fun k hk => jup_ne (by omega), fun k h1 h2 x hx => by rw [jup_ne (by omega)], fun x _ => by rw [jup_ne (by omega)], fun x _ => by rw [jup_ne (by omega)], fun k h1 h2 x hx => ?_⟩
  by_cases hk : k = 23
  · subst hk; rw [jup_same, jup_ne (by omega)]
  · rw [jup_ne hk]
theorem M_fitsHour {D last h i nn kn C Sc : Nat} {tf w9 q : Nat → Int32} {qa G : Nat → Nat → Int32} {P : Nat → Bool} {A : jS} {cx : jCX} {f : Nat → Int32} {g : Nat → Nat → Int32} {n : Nat → Nat → Int64} {b : Nat → Nat → Int32} {l : Nat → Int64} {t : List jE} {z : Nat × Nat × Nat × (Nat → Int32)} (hP : rPl q qa C Sc g) (hi : i < Sc) (h16 : f 16 = -1 ∨ ∃ m, m < 2147483648 ∧ f 16 = Int32.ofNat m) (hTw : rTw tf f Sc) (h19 : ¬ f 19 = 1) (hW : ∀ d, d < 2147483648 → mwnd f g (Int32.ofNat d) = cwnd tf w9 q qa (Int32.ofNat d)) (hl : last ≤ 48) (hk : kn ≤ 24) (hkn : (f 24 = -1 ∧ f 23 = Int32.ofNat kn) ∨ (¬ f 24 = -1 ∧ f 24 = Int32.ofNat kn)) (hR : jnr P G C kn g b) (hcut : ∀ i, kn ≤ i → P i = false) (hnn : kn ≤ nn) :
    ∃ y n' g', K_m_fitsHour D (Int32.ofNat i) (Int32.ofNat h) (Int32.ofNat last) cx f g n b l t z = some (.inl (some (.int (if (jfr tf w9 q qa C Sc P G nn (jfst i h (jbeg qa C A)) last).2 then 1 else 0))), (jXt cx (jY (jup f 15 y) g' n' b l t), z)) ∧ jfo 1 g g' := by
  have hC : C ≤ 30 := hP.1.2.1
  have hS6 : Sc ≤ 6 := hP.1.2.2.2.2.2.1
  obtain ⟨g1, hs, hfo1, -, hst1⟩ := M_starts (D := D) (F := 1) (C := C) (Sc := Sc) (A := A) (tw := f 19) (cx := cx) (f := f) (g := g) (n := n) (b := b) (l := l) (t := t) (z := z) (by omega) hP h19
  have hs1 : K_m_starts D 1 cx f g n b l t z = _ := hs
  have hst2 : rSt C Sc (jfst i h (jbeg qa C A)) 0 0 0 (f 19) 1 (jup g1 23 (jup (g1 23) (6 * 1 + i) (1 <<< (Int32.ofNat h &&& 31)))) := rSt_ro hst1
  have hfo2 : jfo 1 g (jup g1 23 (jup (g1 23) (6 * 1 + i) (1 <<< (Int32.ofNat h &&& 31)))) := hfo1.tr (jfo_23 (by omega))
  have hst : K_m_fitsHour D (Int32.ofNat i) (Int32.ofNat h) (Int32.ofNat last) cx f g n b l t z = K_m_fitsHour_14 D (some (.int (Int32.ofNat i))) (some (.int (Int32.ofNat h))) (Int32.ofNat last) 1 cx f (jup g1 23 (jup (g1 23) (6 * 1 + i) (1 <<< (Int32.ofNat h &&& 31)))) n b l t z := by
    rw [E_m_fitsHour, hs1]
    simp only [jbO_some, jbO_none, jbO_ite, jk_some, jk_none, E_m_fitsHour_3]
    rw [show (6 : Int32) + Int32.ofNat i = Int32.ofNat (6 * 1 + i) from jofadd (a := 6), E_m_fitsHour_11, if_neg (jout_n (by omega) (by omega)), jclamp (show 6 * 1 + i < 2147483648 by omega)]
  rw [hst]
  have hT0 : jtm (jfst i h (jbeg qa C A)) 0 := jbeg_tm
  generalize jfst i h (jbeg qa C A) = S at hst2 hT0 ⊢
  generalize jup g1 23 (jup (g1 23) (6 * 1 + i) (1 <<< (Int32.ofNat h &&& 31))) = g2 at hst2 hfo2 ⊢
  generalize hL0 : K_m_fitsHour_14 D (some (.int (Int32.ofNat i))) (some (.int (Int32.ofNat h))) (Int32.ofNat last) 1 cx f g2 n b l t z = L0
  have key : ∀ m, m ≤ last → (∃ y n' g', L0 = K_m_fitsHour_14 D (some (.int (Int32.ofNat i))) (some (.int (Int32.ofNat h))) (Int32.ofNat last) (Int32.ofNat (m + 1)) cx (jup f 15 y) g' n' b l t z ∧ jfo 1 g g' ∧ (jfr tf w9 q qa C Sc P G nn S m).2 = true ∧ rSt C Sc (jfr tf w9 q qa C Sc P G nn S m).1 0 0 0 (f 19) 1 g') ∨ (∃ y n' g', L0 = some (.inl (some (.int 0)), (jXt cx (jY (jup f 15 y) g' n' b l t), z)) ∧ jfo 1 g g' ∧ (jfr tf w9 q qa C Sc P G nn S m).2 = false) := by
    intro m
    induction m with
    | zero =>
      intro _
      exact Or.inl ⟨f 15, n, g2, by rw [← hL0, jup_self]; rfl, hfo2, rfl, hst2⟩
    | succ m ih =>
      intro hm2
      rcases ih (by omega) with ⟨y, n1, g3, he, hfo, hb, hst⟩ | ⟨y, n1, g3, he, hfo, hb⟩
      rotate_left
      · exact Or.inr ⟨y, n1, g3, he, hfo, by rw [jfr_f hb]; exact hb⟩
      obtain ⟨T', hT', ht⟩ := jfr_tm (tf := tf) (w9 := w9) (q := q) (qa := qa) (C := C) (Sc := Sc) (P := P) (G := G) (nn := nn) hT0 m
      rw [jfr_t hb]
      generalize (jfr tf w9 q qa C Sc P G nn S m).1 = R at hst ht
      have hAt : rAt q qa C Sc R 0 0 0 1 (jup f 15 y) g3 := by
        refine ⟨by omega, hfo.pl hP, ?_, ⟨_, ht.1, by omega⟩, ⟨_, ht.2, Nat.mod_lt _ (by omega)⟩, ?_⟩
        · rw [jup_ne (by omega)]; exact hst
        · rw [jup_ne (by omega)]; exact h16
      obtain ⟨y2, n2, g4, hp, hfo3, -, hst3⟩ := M_passes (D := D) (tf := tf) (cx := cx) (n := n1) (b := b) (l := l) (t := t) (z := z) hAt (rTw_f (y := y) hTw)
      have hwv : mwnd (jup f 15 y) g3 (R.1 0) = cwnd tf w9 q qa (R.1 0) := by
        rw [mwnd_f, mwnd_g hfo, ht.1]
        exact hW _ (by omega)
      rw [hwv, jup_ne (by omega)] at hst3
      rw [jup_jup] at hp
      have hp1 : K_m_passes D 1 cx (jup f 15 y) g3 n1 b l t z = _ := hp
      have hfo4 := hfo.tr hfo3
      generalize cS tf q qa (cwnd tf w9 q qa (R.1 0)) C Sc R = Q at hst3 ⊢
      have hs := M_isSo (D := D) (kn := kn) (C := C) (x := Int32.ofNat (m + 1)) (P := P) (G := G) (cr := Q.2 0) (cx := cx) (f := jup f 15 y2) (g := g4) (n := n2) (b := b) (l := l) (t := t) (z := z) hk hC (by rw [jup_ne (by omega), jup_ne (by omega)]; exact hkn) (jnr_congr (fun k h1 h2 => hfo4.1 k (by omega)) hR) (fun c hc => by have := hst3.2.2.2.2.2.2.1 c hc; exact this)
      have hag : jagr P G (Q.2 0) (Int32.ofNat (m + 1)) nn = jagr P G (Q.2 0) (Int32.ofNat (m + 1)) kn := by
        rw [show nn = kn + (nn - kn) by omega]; exact jagr_cut hcut _
      rw [L_m_fitsHour_14, if_neg (jlt_n (by omega) (by omega)), hp1] at he
      simp only [jbO_some, jbO_none, jbO_ite, jk_some, jk_none, E_m_fitsHour_20, hs, E_m_fitsHour_23, jsucc] at he
      rw [hag]
      by_cases ha : jagr P G (Q.2 0) (Int32.ofNat (m + 1)) kn = true
      · rw [if_pos ha, if_neg (by decide)] at he
        exact Or.inl ⟨y2, n2, g4, he, hfo4, ha, hst3⟩
      · rw [if_neg ha, if_pos rfl] at he
        exact Or.inr ⟨y2, n2, g4, he, hfo4, by simpa using ha⟩
  rcases key last (Nat.le_refl last) with ⟨y, n1, g3, he, hfo, hb, -⟩ | ⟨y, n1, g3, he, hfo, hb⟩
  · refine ⟨y, n1, g3, ?_, hfo⟩
    rw [he, L_m_fitsHour_14, if_pos (jlt_t (by omega) (by omega)), if_pos hb]
  · refine ⟨y, n1, g3, ?_, hfo⟩
    rw [he, if_neg (by rw [hb]; decide)]
theorem M_fits_82 {D last i nn kn C Sc : Nat} {tf w9 q : Nat → Int32} {qa G : Nat → Nat → Int32} {P : Nat → Bool} {A : jS} {cx : jCX} {f : Nat → Int32} {g : Nat → Nat → Int32} {n : Nat → Nat → Int64} {b : Nat → Nat → Int32} {l : Nat → Int64} {t : List jE} {z : Nat × Nat × Nat × (Nat → Int32)} (hP : rPl q qa C Sc g) (hi : i < Sc) (h16 : f 16 = -1 ∨ ∃ m, m < 2147483648 ∧ f 16 = Int32.ofNat m) (hTw : rTw tf f Sc) (h19 : ¬ f 19 = 1) (hW : ∀ d, d < 2147483648 → mwnd f g (Int32.ofNat d) = cwnd tf w9 q qa (Int32.ofNat d)) (hl : last ≤ 48) (hk : kn ≤ 24) (hkn : (f 24 = -1 ∧ f 23 = Int32.ofNat kn) ∨ (¬ f 24 = -1 ∧ f 24 = Int32.ofNat kn)) (hR : jnr P G C kn g b) (hcut : ∀ i, kn ≤ i → P i = false) (hnn : kn ≤ nn) :
    ∃ y n' g', K_m_fits_82 D (Int32.ofNat i) (Int32.ofNat last) 0 0 cx f g n b l t z = some (.inl (some (.int (jfz tf w9 q qa C Sc P G nn last i A 12).2)), (jXt cx (jY (jup f 15 y) g' n' b l t), z)) ∧ jfo 1 g g' := by
  have key : ∀ k, k ≤ 12 → ∃ y n' g', K_m_fits_82 D (Int32.ofNat i) (Int32.ofNat last) 0 0 cx f g n b l t z = K_m_fits_82 D (Int32.ofNat i) (Int32.ofNat last) (jfz tf w9 q qa C Sc P G nn last i A k).2 (Int32.ofNat k) cx (jup f 15 y) g' n' b l t z ∧ jfo 1 g g' := by
    intro k
    induction k with
    | zero =>
      intro _
      exact ⟨f 15, n, g, by rw [jup_self]; rfl, jfo.rf⟩
    | succ k ih =>
      intro hk2
      obtain ⟨y, n1, g1, he, hfo⟩ := ih (by omega)
      rw [jfz]
      generalize jfz tf w9 q qa C Sc P G nn last i A k = Z at he
      have hlt : Int32.ofNat k < 12 := jlt_t (b := 12) (by omega) (by omega)
      obtain ⟨y2, n2, g2, hh, hfo2⟩ := M_fitsHour (D := D) (last := last) (h := k) (i := i) (nn := nn) (kn := kn) (C := C) (Sc := Sc) (tf := tf) (w9 := w9) (q := q) (qa := qa) (G := G) (P := P) (A := Z.1) (cx := cx) (f := jup f 15 y) (g := g1) (n := n1) (b := b) (l := l) (t := t) (z := z) (hfo.pl hP) hi (by rw [jup_ne (by omega)]; exact h16) (rTw_f (y := y) hTw) (by rw [jup_ne (by omega)]; exact h19) (fun d hd => by rw [mwnd_f, mwnd_g hfo]; exact hW d hd) hl hk (by rw [jup_ne (by omega), jup_ne (by omega)]; exact hkn) (jnr_congr (fun k h1 h2 => hfo.1 k (by omega)) hR) hcut hnn
      rw [jup_jup] at hh
      refine ⟨y2, n2, g2, ?_, hfo.tr hfo2⟩
      rw [he, L_m_fits_82, if_pos hlt, hh]
      simp only [jbO_some, jbO_none, jbO_ite, jk_some, jk_none, E_m_fits_91]
      by_cases hb : (jfr tf w9 q qa C Sc P G nn (jfst i k (jbeg qa C Z.1)) last).2 = true
      · rw [if_pos hb, if_neg (by decide), E_m_fits_97, jsucc, if_pos hb]
      · rw [if_neg hb, if_pos rfl, E_m_fits_97, jsucc, if_neg hb, Int32.or_zero]
  obtain ⟨y, n1, g1, he, hfo⟩ := key 12 (Nat.le_refl 12)
  refine ⟨y, n1, g1, ?_, hfo⟩
  rw [he, L_m_fits_82, if_neg (by decide)]

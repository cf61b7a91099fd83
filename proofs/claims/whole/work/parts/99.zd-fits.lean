-- FITS: the hours of one try
def jfr (tf w9 q : Nat → Int32) (qa : Nat → Nat → Int32) (C Sc : Nat) (P : Nat → Bool) (G : Nat → Nat → Int32) (nn : Nat) (S : jS) : Nat → jS × Bool
  | 0 => (S, true)
  | m + 1 => if (jfr tf w9 q qa C Sc P G nn S m).2 then (cS tf q qa (cwnd tf w9 q qa ((jfr tf w9 q qa C Sc P G nn S m).1.1 0)) C Sc (jfr tf w9 q qa C Sc P G nn S m).1, jagr P G ((cS tf q qa (cwnd tf w9 q qa ((jfr tf w9 q qa C Sc P G nn S m).1.1 0)) C Sc (jfr tf w9 q qa C Sc P G nn S m).1).2 0) (Int32.ofNat (m + 1)) nn) else jfr tf w9 q qa C Sc P G nn S m
def jfst (i h : Nat) (S : jS) : jS := (S.1, jup S.2 2 (jup (S.2 2) i (1 <<< (Int32.ofNat h &&& 31))))
theorem jfr_t {tf w9 q : Nat → Int32} {qa : Nat → Nat → Int32} {C Sc : Nat} {P : Nat → Bool} {G : Nat → Nat → Int32} {nn : Nat} {S : jS} {m : Nat} (h : (jfr tf w9 q qa C Sc P G nn S m).2 = true) : jfr tf w9 q qa C Sc P G nn S (m + 1) = (cS tf q qa (cwnd tf w9 q qa ((jfr tf w9 q qa C Sc P G nn S m).1.1 0)) C Sc (jfr tf w9 q qa C Sc P G nn S m).1, jagr P G ((cS tf q qa (cwnd tf w9 q qa ((jfr tf w9 q qa C Sc P G nn S m).1.1 0)) C Sc (jfr tf w9 q qa C Sc P G nn S m).1).2 0) (Int32.ofNat (m + 1)) nn) := by
  rw [jfr, if_pos h]
theorem jfr_f {tf w9 q : Nat → Int32} {qa : Nat → Nat → Int32} {C Sc : Nat} {P : Nat → Bool} {G : Nat → Nat → Int32} {nn : Nat} {S : jS} {m : Nat} (h : (jfr tf w9 q qa C Sc P G nn S m).2 = false) : jfr tf w9 q qa C Sc P G nn S (m + 1) = jfr tf w9 q qa C Sc P G nn S m := by
  rw [jfr, if_neg (by rw [h]; decide)]
theorem jfr_f2 {tf w9 q : Nat → Int32} {qa : Nat → Nat → Int32} {C Sc : Nat} {P : Nat → Bool} {G : Nat → Nat → Int32} {nn : Nat} {S : jS} {m : Nat} (h : (jfr tf w9 q qa C Sc P G nn S m).2 = false) : ∀ k, (jfr tf w9 q qa C Sc P G nn S (m + k)).2 = false
  | 0 => h
  | k + 1 => by rw [← Nat.add_assoc, jfr_f (jfr_f2 h k)]; exact jfr_f2 h k
theorem jfr_tm {tf w9 q : Nat → Int32} {qa : Nat → Nat → Int32} {C Sc : Nat} {P : Nat → Bool} {G : Nat → Nat → Int32} {nn : Nat} {S : jS} {T : Nat} (h : jtm S T) : ∀ m, ∃ T', T' ≤ T + m ∧ jtm (jfr tf w9 q qa C Sc P G nn S m).1 T'
  | 0 => ⟨T, Nat.le_refl _, h⟩
  | m + 1 => by
    obtain ⟨T', hT', ht⟩ := jfr_tm (tf := tf) (w9 := w9) (q := q) (qa := qa) (C := C) (Sc := Sc) (P := P) (G := G) (nn := nn) h m
    by_cases hb : (jfr tf w9 q qa C Sc P G nn S m).2 = true
    · rw [jfr_t hb]; exact ⟨T' + 1, by omega, cS_tm ht⟩
    · rw [jfr_f (by simpa using hb)]; exact ⟨T', by omega, ht⟩
theorem S_fits_40 {D T nn last C Sc : Nat} {x1 x2 x4 x5 : Int32} {P : Nat → Bool} {f : Nat → Int32} {g : Nat → Nat → Int32} {n2 : Nat → Nat → Int64} {p : Nat → Nat → Int32} {pa : Nat → Nat → Nat → Int32} {s : Nat → Nat → Int32} {sa : Nat → Nat → Nat → Int32} {sw : Bool} {rp : Value} {t : List jE} {z : Nat × Nat × Nat × (Nat → Int32)} (hT : jtm (s 2, sa 2) T) (hPl : jPl (p (jq sw)) (pa (jq sw)) C Sc) (hm : f 15 < 0) (hl : last ≤ 48) (hn : nn ≤ 24) (h24 : f 24 = Int32.ofNat nn) (hP : ∀ i, i < 32 → bt x2 i = P i) (h9 : ∀ i, i < nn → ¬ g 7 i = 0 → ∃ c, c < 30 ∧ g 9 i = Int32.ofNat c) :
    ∃ n2' d7', K_c_fits_40 D x1 x2 (Int32.ofNat last) x4 x5 1 1 f g n2 p pa s sa sw rp t z = K_c_fits_60 D x1 x2 (Int32.ofNat last) x4 x5 (if (jfr f (g 2) (p (jq sw)) (pa (jq sw)) C Sc P g nn (s 2, sa 2) last).2 then 1 else 0) d7' f g n2' p pa (jup s 2 (jfr f (g 2) (p (jq sw)) (pa (jq sw)) C Sc P g nn (s 2, sa 2) last).1.1) (jup sa 2 (jfr f (g 2) (p (jq sw)) (pa (jq sw)) C Sc P g nn (s 2, sa 2) last).1.2) sw rp t z := by
  generalize hL0 : K_c_fits_40 D x1 x2 (Int32.ofNat last) x4 x5 1 1 f g n2 p pa s sa sw rp t z = L0
  have key : ∀ m, m ≤ last → ∃ n2' x7, L0 = K_c_fits_40 D x1 x2 (Int32.ofNat last) x4 x5 (if (jfr f (g 2) (p (jq sw)) (pa (jq sw)) C Sc P g nn (s 2, sa 2) m).2 then 1 else 0) x7 f g n2' p pa (jup s 2 (jfr f (g 2) (p (jq sw)) (pa (jq sw)) C Sc P g nn (s 2, sa 2) m).1.1) (jup sa 2 (jfr f (g 2) (p (jq sw)) (pa (jq sw)) C Sc P g nn (s 2, sa 2) m).1.2) sw rp t z ∧ ((jfr f (g 2) (p (jq sw)) (pa (jq sw)) C Sc P g nn (s 2, sa 2) m).2 = true → x7 = Int32.ofNat (m + 1)) := by
    intro m
    induction m with
    | zero =>
      intro _
      refine ⟨n2, 1, ?_, fun _ => rfl⟩
      rw [← hL0, jfr, jup_self, jup_self]; rfl
    | succ m ih =>
      intro hm2
      obtain ⟨n2', x7, he, hx⟩ := ih (by omega)
      by_cases hb : (jfr f (g 2) (p (jq sw)) (pa (jq sw)) C Sc P g nn (s 2, sa 2) m).2 = true
      rotate_left
      · have hb' : (jfr f (g 2) (p (jq sw)) (pa (jq sw)) C Sc P g nn (s 2, sa 2) m).2 = false := by simpa using hb
        rw [jfr_f hb']
        exact ⟨n2', x7, he, fun q => absurd q hb⟩
      obtain ⟨T', -, ht⟩ := jfr_tm (tf := f) (w9 := g 2) (q := p (jq sw)) (qa := pa (jq sw)) (C := C) (Sc := Sc) (P := P) (G := g) (nn := nn) hT m
      have hx7 := hx hb
      rw [jfr_t hb]
      rw [if_pos hb, hx7] at he
      generalize (jfr f (g 2) (p (jq sw)) (pa (jq sw)) C Sc P g nn (s 2, sa 2) m).1 = R at he ht
      obtain ⟨n3, hp⟩ := S_h_pass0 (D := D) (j := 2) (T := T') (f := f) (g := g) (n2 := n2') (p := p) (pa := pa) (s := jup s 2 R.1) (sa := jup sa 2 R.2) (sw := sw) (rp := rp) (t := t) (z := z) (by omega) (by rw [jup_same, jup_same]; exact ht) hPl hm
      rw [jup_same, jup_same, jup_jup, jup_jup, show ((R.1, R.2) : jS) = R from rfl] at hp
      generalize cS f (p (jq sw)) (pa (jq sw)) (cwnd f (g 2) (p (jq sw)) (pa (jq sw)) (R.1 0)) C Sc R = Q at hp
      have ha := S_n_agree (D := D) (j := 2) (nn := nn) (x1 := x2) (x2 := Int32.ofNat (m + 1)) (P := P) (f := f) (g := g) (n2 := n3) (p := p) (pa := pa) (s := jup s 2 Q.1) (sa := jup sa 2 Q.2) (sw := sw) (rp := rp) (t := t) (z := z) (by omega) hn h24 hP h9
      rw [jup_same] at ha
      refine ⟨n3, Int32.ofNat (m + 1 + 1), ?_, fun _ => rfl⟩
      rw [he, L_c_fits_40, if_neg (jlt_n (by omega) (by omega)), if_neg (by decide), hp]
      simp only [jbO_some, jbO_none, jbO_ite, jk_some, jk_none, E_c_fits_50, ha, E_c_fits_57, jsucc]
  obtain ⟨n2', x7, he, hx⟩ := key last (Nat.le_refl last)
  refine ⟨n2', some (.int x7), ?_⟩
  rw [he, L_c_fits_40]
  by_cases hb : (jfr f (g 2) (p (jq sw)) (pa (jq sw)) C Sc P g nn (s 2, sa 2) last).2 = true
  · rw [hx hb, if_pos (jlt_t (by omega) (by omega))]
  · rw [if_neg hb]
    by_cases hlt : Int32.ofNat last < x7
    · rw [if_pos hlt]
    · rw [if_neg hlt, if_pos rfl]
/-- the sequence of hours tried -/
def jfz (tf w9 q : Nat → Int32) (qa : Nat → Nat → Int32) (C Sc : Nat) (P : Nat → Bool) (G : Nat → Nat → Int32) (nn last i : Nat) (A : jS) : Nat → jS × Int32
  | 0 => (A, 0)
  | k + 1 => ((jfr tf w9 q qa C Sc P G nn (jfst i k (jbeg qa C (jfz tf w9 q qa C Sc P G nn last i A k).1)) last).1, if (jfr tf w9 q qa C Sc P G nn (jfst i k (jbeg qa C (jfz tf w9 q qa C Sc P G nn last i A k).1)) last).2 then (jfz tf w9 q qa C Sc P G nn last i A k).2 ||| (1 <<< (Int32.ofNat k &&& 31)) else (jfz tf w9 q qa C Sc P G nn last i A k).2)
theorem jbeg_tm {qa : Nat → Nat → Int32} {C i h : Nat} {A : jS} : jtm (jfst i h (jbeg qa C A)) 0 := by
  unfold jtm jfst jbeg
  dsimp only
  constructor
  · simp (disch := omega) only [jup_ne, jup_same]; rfl
  · simp (disch := omega) only [jup_ne, jup_same]; rfl
theorem S_fits_20 {D nn last C Sc i : Nat} {x2 : Int32} {d6 d7 : Option Value} {P : Nat → Bool} {f : Nat → Int32} {g : Nat → Nat → Int32} {n2 : Nat → Nat → Int64} {p : Nat → Nat → Int32} {pa : Nat → Nat → Nat → Int32} {s : Nat → Nat → Int32} {sa : Nat → Nat → Nat → Int32} {sw : Bool} {rp : Value} {t : List jE} {z : Nat × Nat × Nat × (Nat → Int32)} (hC : p (jq sw) 1 * p (jq sw) 2 = Int32.ofNat C) (hC30 : C ≤ 30) (hi : i < 6) (hPl : jPl (p (jq sw)) (pa (jq sw)) C Sc) (hm : f 15 < 0) (hl : last ≤ 48) (hn : nn ≤ 24) (h24 : f 24 = Int32.ofNat nn) (hP : ∀ i, i < 32 → bt x2 i = P i) (h9 : ∀ i, i < nn → ¬ g 7 i = 0 → ∃ c, c < 30 ∧ g 9 i = Int32.ofNat c) :
    ∃ n2', K_c_fits_20 D (Int32.ofNat i) x2 (Int32.ofNat last) 0 0 d6 d7 f g n2 p pa s sa sw rp t z = some (.inl (some (.int (jfz f (g 2) (p (jq sw)) (pa (jq sw)) C Sc P g nn last i (s 2, sa 2) 12).2)), (jX f g n2' p pa (jup s 2 (jfz f (g 2) (p (jq sw)) (pa (jq sw)) C Sc P g nn last i (s 2, sa 2) 12).1.1) (jup sa 2 (jfz f (g 2) (p (jq sw)) (pa (jq sw)) C Sc P g nn last i (s 2, sa 2) 12).1.2) sw rp t, z)) := by
  have key : ∀ k, k ≤ 12 → ∃ n2' d6' d7', K_c_fits_20 D (Int32.ofNat i) x2 (Int32.ofNat last) 0 0 d6 d7 f g n2 p pa s sa sw rp t z = K_c_fits_20 D (Int32.ofNat i) x2 (Int32.ofNat last) (jfz f (g 2) (p (jq sw)) (pa (jq sw)) C Sc P g nn last i (s 2, sa 2) k).2 (Int32.ofNat k) d6' d7' f g n2' p pa (jup s 2 (jfz f (g 2) (p (jq sw)) (pa (jq sw)) C Sc P g nn last i (s 2, sa 2) k).1.1) (jup sa 2 (jfz f (g 2) (p (jq sw)) (pa (jq sw)) C Sc P g nn last i (s 2, sa 2) k).1.2) sw rp t z := by
    intro k
    induction k with
    | zero =>
      intro _
      refine ⟨n2, d6, d7, ?_⟩
      rw [jfz, jup_self, jup_self]; rfl
    | succ k ih =>
      intro hk
      obtain ⟨n2', d6', d7', he⟩ := ih (by omega)
      rw [jfz]
      generalize jfz f (g 2) (p (jq sw)) (pa (jq sw)) C Sc P g nn last i (s 2, sa 2) k = Z at he
      have hlt : Int32.ofNat k < 12 := jlt_t (b := 12) (by omega) (by omega)
      have hb := S_s_begin (D := D) (j := 2) (C := C) (w := sw) (f := f) (g := g) (n2 := n2') (p := p) (pa := pa) (s := jup s 2 Z.1.1) (sa := jup sa 2 Z.1.2) (sw := sw) (rp := rp) (t := t) (z := z) (by omega) hC hC30
      rw [jup_same, jup_same, jup_jup, jup_jup, show ((Z.1.1, Z.1.2) : jS) = Z.1 from rfl] at hb
      generalize hB : jbeg (pa (jq sw)) C Z.1 = B at hb
      obtain ⟨n3, d8, h4⟩ := S_fits_40 (D := D) (T := 0) (nn := nn) (last := last) (C := C) (Sc := Sc) (x1 := Int32.ofNat i) (x2 := x2) (x4 := Z.2) (x5 := Int32.ofNat k) (P := P) (f := f) (g := g) (n2 := n2') (p := p) (pa := pa) (s := jup s 2 B.1) (sa := jup sa 2 (jfst i k B).2) (sw := sw) (rp := rp) (t := t) (z := z) (by rw [jup_same, jup_same, ← hB]; exact jbeg_tm) hPl hm hl hn h24 hP h9
      rw [jup_same, jup_same, jup_jup, jup_jup, show ((B.1, (jfst i k B).2) : jS) = jfst i k B from rfl] at h4
      generalize jfr f (g 2) (p (jq sw)) (pa (jq sw)) C Sc P g nn (jfst i k B) last = R at h4
      rw [he, L_c_fits_20, if_pos hlt, hb]
      simp only [jbO_some, jbO_none, jbO_ite, jk_some, jk_none, E_c_fits_28]
      rw [if_neg (jout_n hi (by omega)), jclamp (show i < 2147483648 by omega), jup_same, jup_jup]
      rw [show (jup B.2 2 (jup (B.2 2) i (1 <<< (Int32.ofNat k &&& 31)))) = (jfst i k B).2 from rfl, h4, E_c_fits_60]
      by_cases hr : R.2 = true
      · rw [if_pos hr, if_neg (by decide), E_c_fits_68, jsucc, if_pos hr]
        exact ⟨n3, some (.int 1), d8, rfl⟩
      · rw [if_neg hr, if_pos rfl, E_c_fits_68, jsucc, if_neg hr]
        exact ⟨n3, some (.int 0), d8, rfl⟩
  obtain ⟨n2', d6', d7', he⟩ := key 12 (Nat.le_refl 12)
  refine ⟨n2', ?_⟩
  rw [he, L_c_fits_20, if_neg (by decide)]

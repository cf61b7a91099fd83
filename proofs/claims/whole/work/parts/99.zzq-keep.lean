-- KEEPING: the class's two loops
def jlx (ev : Nat → Nat) (a c : Nat) : Prop := ev a < ev c ∨ (ev a = ev c ∧ (jpcn a 12 < jpcn c 12 ∨ (jpcn a 12 = jpcn c 12 ∧ a ≤ c)))
def kinv (ev : Nat → Nat) (P : Nat → Prop) (least best : Nat) : Prop := ((∀ x, ¬ P x) ∧ least = 2971 ∧ best = 0) ∨ (P best ∧ least = ev best ∧ ∀ x, P x → jlx ev best x)
def kp (size bits x : Nat) : Prop := x < 4096 ∧ (jpcn x 12 < size ∨ (jpcn x 12 = size ∧ x < bits))
theorem kinv_le {ev : Nat → Nat} {P : Nat → Prop} {least best : Nat} (hev : ∀ x, ev x ≤ 2970) (h : kinv ev P least best) : least ≤ 2971 := by
  rcases h with ⟨-, h, -⟩ | ⟨-, h, -⟩
  · omega
  · have := hev best; omega
theorem kinv_cg {ev : Nat → Nat} {P P' : Nat → Prop} {least best : Nat} (hP : ∀ x, P x ↔ P' x) (h : kinv ev P least best) : kinv ev P' least best := by
  rcases h with ⟨a, b, c⟩ | ⟨a, b, c⟩
  · exact Or.inl ⟨fun x q => a x ((hP x).mpr q), b, c⟩
  · exact Or.inr ⟨(hP best).mp a, b, fun x q => c x ((hP x).mpr q)⟩
theorem kinv_no {ev : Nat → Nat} {size bits least best : Nat} (hne : ¬ jpcn bits 12 = size) (h : kinv ev (kp size bits) least best) : kinv ev (kp size (bits + 1)) least best := by
  refine kinv_cg (fun x => ?_) h
  unfold kp
  constructor
  · rintro ⟨a, b⟩; exact ⟨a, by omega⟩
  · rintro ⟨a, b⟩
    refine ⟨a, ?_⟩
    rcases b with b | ⟨b, c⟩
    · exact Or.inl b
    · right
      refine ⟨b, ?_⟩
      by_cases hx : x = bits
      · subst hx; exact absurd b hne
      · omega
theorem kinv_lt {ev : Nat → Nat} {size bits least best : Nat} (hb : bits < 4096) (heq : jpcn bits 12 = size) (hl : ev bits < least) (h : kinv ev (kp size bits) least best) : kinv ev (kp size (bits + 1)) (ev bits) bits := by
  right
  refine ⟨⟨hb, Or.inr ⟨heq, by omega⟩⟩, rfl, fun x hx => ?_⟩
  by_cases hxb : x = bits
  · subst hxb; exact Or.inr ⟨rfl, Or.inr ⟨rfl, Nat.le_refl _⟩⟩
  · have hx' : kp size bits x := by
      obtain ⟨a, b⟩ := hx
      exact ⟨a, by omega⟩
    rcases h with ⟨a, -, -⟩ | ⟨-, b, c⟩
    · exact absurd hx' (a x)
    · left
      rcases c x hx' with d | ⟨d, -⟩ <;> omega
theorem kinv_ge {ev : Nat → Nat} {size bits least best : Nat} (hev : ∀ x, ev x ≤ 2970) (hb : bits < 4096) (heq : jpcn bits 12 = size) (hl : ¬ ev bits < least) (h : kinv ev (kp size bits) least best) : kinv ev (kp size (bits + 1)) least best := by
  rcases h with ⟨a, b, c⟩ | ⟨a, b, c⟩
  · have := hev bits; omega
  right
  refine ⟨⟨a.1, by have := a.2; omega⟩, b, fun x hx => ?_⟩
  by_cases hxb : x = bits
  · subst hxb
    obtain ⟨-, a2⟩ := a
    unfold jlx
    omega
  · refine c x ⟨hx.1, ?_⟩
    have := hx.2; omega
/-- the rota of one scare, tried -/
def jsb (B : jS) (i k : Nat) : jS := (B.1, jup B.2 2 (jup (B.2 2) i (Int32.ofNat k)))
theorem S_keep_37 {D T nd i C Sc L : Nat} {x3 : Int32} {A0 B : jS} {ev : Nat → Nat} {f : Nat → Int32} {g : Nat → Nat → Int32} {n2 : Nat → Nat → Int64} {p : Nat → Nat → Int32} {pa : Nat → Nat → Nat → Int32} {s : Nat → Nat → Int32} {sa : Nat → Nat → Nat → Int32} {sw : Bool} {rp : Value} {t : List jE} {z : Nat × Nat × Nat × (Nat → Int32)} (hA0 : (s 2, sa 2) = A0) (hB : jtry A0 (s 0, sa 0) = B) (hT : jtm (s 0, sa 0) T) (hPl : jPl (p (jq sw)) (pa (jq sw)) C Sc) (hq : ∃ r : Nat, r < 100 ∧ p (jq sw) 7 = Int32.ofNat r) (hi : i < 6) (hnd : nd ≤ 3) (hL : nd * 12 - T % 12 = L) (hnd1 : 1 ≤ nd)
    (hcr : ∀ k, jCr C (jsb B i k)) (hev : ∀ x, ev x ≤ 2970) (hva : ∀ k, k < 4096 → ∀ n, n ≤ L → ∃ e, (cN f (g 2) (p (jq sw)) (pa (jq sw)) C Sc (jsb B i k) n).1 3 = Int32.ofNat e ∧ e ≤ ev k ∧ (n = L → e = ev k)) :
    ∀ (size : Nat) (y : Int32) (n2 : Nat → Nat → Int64) (m : Nat → Int32) (X : jS) (least best : Nat), size < 13 → jnk X A0 → jmm f (p (jq sw)) (pa (jq sw)) (g 2) T (B.2 3) C Sc m → kinv ev (kp size 0) least best → best < 4096 →
      ∃ y' n2' m' X' least' best' d7, K_c_keeping_37 D (Int32.ofNat i) (Int32.ofNat nd) x3 (Int32.ofNat least) (Int32.ofNat best) (Int32.ofNat size) 0 (jup (jup f 14 1) 15 y) (jup g 3 m) n2 p pa (jup s 2 X.1) (jup sa 2 X.2) sw rp t z = K_c_keeping_28 D (Int32.ofNat i) (Int32.ofNat nd) x3 (Int32.ofNat least') (Int32.ofNat best') (Int32.ofNat (size + 1)) d7 (jup (jup f 14 1) 15 y') (jup g 3 m') n2' p pa (jup s 2 X'.1) (jup sa 2 X'.2) sw rp t z ∧
        jnk X' A0 ∧ jmm f (p (jq sw)) (pa (jq sw)) (g 2) T (B.2 3) C Sc m' ∧ kinv ev (kp (size + 1) 0) least' best' ∧ best' < 4096 := by
  have hC30 : C ≤ 30 := hPl.2.1
  have hS6 : Sc ≤ 6 := hPl.2.2.2.2.2.1
  intro size y n2 m X least best hsz hX hm hk hb
  generalize hQ0 : K_c_keeping_37 D (Int32.ofNat i) (Int32.ofNat nd) x3 (Int32.ofNat least) (Int32.ofNat best) (Int32.ofNat size) 0 (jup (jup f 14 1) 15 y) (jup g 3 m) n2 p pa (jup s 2 X.1) (jup sa 2 X.2) sw rp t z = Q0
  have key : ∀ k, k ≤ 4096 → ∃ y' n2' m' X' least' best', Q0 = K_c_keeping_37 D (Int32.ofNat i) (Int32.ofNat nd) x3 (Int32.ofNat least') (Int32.ofNat best') (Int32.ofNat size) (Int32.ofNat k) (jup (jup f 14 1) 15 y') (jup g 3 m') n2' p pa (jup s 2 X'.1) (jup sa 2 X'.2) sw rp t z ∧
      jnk X' A0 ∧ jmm f (p (jq sw)) (pa (jq sw)) (g 2) T (B.2 3) C Sc m' ∧ kinv ev (kp size k) least' best' ∧ best' < 4096 := by
    intro k
    induction k with
    | zero => intro _; exact ⟨y, n2, m, X, least, best, hQ0.symm, hX, hm, hk, hb⟩
    | succ k ih =>
      intro hk4
      obtain ⟨y', n2', m', X', least', best', he, hX', hm', hk', hb'⟩ := ih (by omega)
      have hlt : Int32.ofNat k < 4096 := jlt_t (b := 4096) (by omega) (by omega)
      have hle := kinv_le hev hk'
      have hpc := jpcn_le (k := k) (n := 12)
      rw [L_c_keeping_37, if_pos hlt, S_bitCount12 (show k < 4096 by omega), jbO_some, jk_some, E_c_keeping_42] at he
      by_cases hps : jpcn k 12 = size
      rotate_left
      · rw [if_neg (fun q => hps (jofinj (by omega) (by omega) q)), E_c_keeping_79, jsucc] at he
        exact ⟨y', n2', m', X', least', best', he, hX', hm', kinv_no hps hk', hb'⟩
      have hfo := S_s_follow20 (D := D) (f := jup (jup f 14 1) 15 y') (g := jup g 3 m') (n2 := n2') (p := p) (pa := pa) (s := jup s 2 X'.1) (sa := jup sa 2 X'.2) (sw := sw) (rp := rp) (t := t) (z := z)
      rw [jup_same, jup_same, jup_ne (show (0 : Nat) ≠ 2 by omega), jup_ne (show (0 : Nat) ≠ 2 by omega), show ((X'.1, X'.2) : jS) = X' from rfl, jtry_jnk hX', hB, jup_jup, jup_jup] at hfo
      have hs01 : (jup s 2 B.1) 0 1 = Int32.ofNat (T % 12) := by rw [jup_ne (by omega)]; exact hT.2
      have hLe : Int32.ofNat nd * 12 - Int32.ofNat (T % 12) = Int32.ofNat L := by
        have := Nat.mod_lt T (show 0 < 12 by omega)
        rw [jofmull, ← Int32.ofNat_sub (nd * 12) (T % 12) (by omega), hL]
      have hf16 : ∀ x, 16 ≤ x → (jup (jup f 14 1) 15 y') x = f x := fun x hx => by rw [jup_ne (by omega), jup_ne (by omega)]
      have hTb : jtm (jsb B i k) T := by
        have : jtm B T := by rw [← hB]; exact jtry_tm hT
        exact this
      obtain ⟨y2, n3, m3, kk, hkk, hp, hmm, hend⟩ := S_passHours (D := D) (T := T) (n := L) (C := C) (Sc := Sc) (lim := Int32.ofNat least') (gr := B.2 3) (f := jup (jup f 14 1) 15 y') (g := jup g 3 m') (n2 := n2') (p := p) (pa := pa) (s := jup s 2 (jsb B i k).1) (sa := jup sa 2 (jsb B i k).2) (sw := sw) (rp := rp) (t := t) (z := z) (by rw [jup_same, jup_same]; exact hTb) hPl (by rw [jup_ne (by omega), jup_same]; decide) (by omega) (by rw [jup_same, jup_same]; exact hcr k) hq (by rw [jup_same]; unfold jsb; dsimp only; rw [jup_ne (by omega)]) (by rw [jup_same, jup_ne (show (2 : Nat) ≠ 3 by omega)]; exact jmm_f hf16 hm')
      simp only [jup_same, jup_jup] at hp hmm hend
      rw [jup_ne (show (2 : Nat) ≠ 3 by omega)] at hp hmm hend
      rw [show (((jsb B i k).1, (jsb B i k).2) : jS) = jsb B i k from rfl, cN_f hf16] at hp hend
      have hmm' := jmm_f (tf := jup (jup f 14 1) 15 y') (tf' := f) (fun x hx => (hf16 x hx).symm) hmm
      obtain ⟨e, e1, e2, e3⟩ := hva k (by omega) kk hkk
      have hXn : jnk (cN f (g 2) (p (jq sw)) (pa (jq sw)) C Sc (jsb B i k) kk) A0 := by
        have hBA : jnk B A0 := by rw [← hB]; exact jtry_nk
        have hsb : jnk (jsb B i k) B := jnk_2 (by omega)
        exact (cN_jnk hC30 hS6 hTb kk).tr (hsb.tr hBA)
      have hjo : ¬ jout (Int32.ofNat i) 6 := jout_n hi (by omega)
      have hcl : (Int32.ofNat i).toNatClampNeg = i := jclamp (by omega)
      have hst : jup sa 2 (jup B.2 2 (jup (B.2 2) i (Int32.ofNat k))) = jup sa 2 (jsb B i k).2 := rfl
      have hst1 : jup s 2 B.1 = jup s 2 (jsb B i k).1 := rfl
      rw [if_pos (by rw [hps]), hfo, jbO_some, jk_none, E_c_keeping_49, if_neg hjo, hcl, hs01, hLe, jup_same, jup_jup, hst, hst1, hp, jbO_some, jk_none, E_c_keeping_68, jup_same, e1] at he
      have hev' := hev k
      by_cases hl : e < least'
      · have hkL : kk = L := by
          rcases hend with q | q
          · exact q
          · rw [e1] at q; exact absurd (jlt_t hl (by omega)) q
        have hee := e3 hkL
        subst hee
        rw [if_pos (jlt_t hl (by omega)), E_c_keeping_79, jsucc] at he
        exact ⟨y2, n3, m3, _, ev k, k, he, hXn, hmm', kinv_lt (by omega) hps hl hk', by omega⟩
      · rw [if_neg (jlt_n (by omega) (by omega)), E_c_keeping_79, jsucc] at he
        exact ⟨y2, n3, m3, _, least', best', he, hXn, hmm', kinv_ge hev (by omega) hps (by omega) hk', hb'⟩
  obtain ⟨y', n2', m', X', least', best', he, hX', hm', hk', hb'⟩ := key 4096 (Nat.le_refl _)
  refine ⟨y', n2', m', X', least', best', some (.int (Int32.ofNat 4096)), ?_, hX', hm', kinv_cg (fun x => ?_) hk', hb'⟩
  · rw [he, L_c_keeping_37, if_neg (by decide), jsucc]
  · unfold kp
    constructor
    · rintro ⟨a, b⟩; exact ⟨a, by omega⟩
    · rintro ⟨a, b⟩; exact ⟨a, by omega⟩

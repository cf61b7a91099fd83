-- CALL BY CALL: clash
def jbusy (S : jS) (i : Nat) : Bool := jon S i && !bt (S.1 2) i
def jov (q : Nat → Int32) (S : jS) (i : Nat) : Bool := jbusy S i && !decide (S.2 4 i < q 6)
theorem ctick_2 {S : jS} : (ctick S).2 2 = S.2 2 := by
  unfold ctick
  split
  · rfl
  · dsimp only; rw [jup_ne (by omega)]
theorem cS_r {tf q : Nat → Int32} {qa : Nat → Nat → Int32} {wv : Int32} {C Sc : Nat} {S : jS} : (cS tf q qa wv C Sc S).2 2 = S.2 2 := by
  unfold cS cS3
  rw [ctick_2]
  dsimp only
  rw [jup_ne (by omega)]
  unfold cS2
  split
  · unfold cS1; dsimp only; rw [jup_ne (by omega)]
  · split
    · unfold cS1; dsimp only; rw [jup_ne (by omega), jup_ne (by omega)]
    · unfold cS1; dsimp only; rw [jup_ne (by omega)]
theorem cfl_at {tf q : Nat → Int32} {wv : Int32} {S : jS} : ∀ {k i : Nat}, i < k → cfl tf q wv S k i = if cflap tf q S.1 S.2 wv i = 1 then S.2 4 i + 1 else S.2 4 i
  | 0, i, h => absurd h (by omega)
  | k + 1, i, h => by
    unfold cfl
    by_cases hi : i = k
    · subst hi
      split
      · rw [jup_same, cfl_ge (Nat.le_refl i)]
      · exact cfl_ge (Nat.le_refl i)
    · split
      · rw [jup_ne hi]; exact cfl_at (by omega)
      · exact cfl_at (by omega)
theorem cS_4 {tf q : Nat → Int32} {qa : Nat → Nat → Int32} {wv : Int32} {C Sc h : Nat} {S : jS} (hh : S.1 1 = Int32.ofNat h) (h12 : h + 1 < 12) : (cS tf q qa wv C Sc S).2 4 = cfl tf q wv S Sc := by
  have e4 : ∀ se cm, (cS2 q qa wv se cm (cS1 tf q qa wv Sc S)).2 4 = cfl tf q wv S Sc ∧ (cS2 q qa wv se cm (cS1 tf q qa wv Sc S)).1 1 = S.1 1 := by
    intro se cm
    unfold cS2
    split
    · unfold cS1; refine ⟨?_, ?_⟩ <;> dsimp only
      · rw [jup_same]
      · rw [jup_ne (by omega)]
    · split
      · unfold cS1; refine ⟨?_, ?_⟩ <;> dsimp only
        · rw [jup_ne (by omega), jup_same]
        · rw [jup_ne (by omega), jup_ne (by omega)]
      · unfold cS1; refine ⟨?_, ?_⟩ <;> dsimp only
        · rw [jup_same]
        · rw [jup_ne (by omega), jup_ne (by omega)]
  unfold cS cS3 ctick
  dsimp only
  rw [(e4 _ _).2, hh, jsucc, if_pos (show Int32.ofNat (h + 1) < 12 from jlt_t (b := 12) h12 (by omega))]
  dsimp only
  rw [jup_ne (by omega)]
  exact (e4 _ _).1
theorem cflap_busy {f q : Nat → Int32} {S : jS} {wv : Int32} {i : Nat} (hn : jneu f) (hi : i < 6) (ho : jov q S i = false) : (cflap f q S.1 S.2 wv i = 1) ↔ jbusy S i = true := by
  obtain ⟨-, -, -, h17, -, h19, h20, -⟩ := hn
  have h0 : ((f 17 >>> (Int32.ofNat i &&& 31)) &&& 1) = 0 := by rw [h17, jbit0 (by omega)]; exact b_0 i
  unfold cflap
  rw [if_pos h0, if_pos h19, h20, if_pos rfl]
  unfold jov jbusy jon at *
  by_cases hon : ((S.2 2 i >>> (S.1 1 &&& 31)) &&& 1) = 0
  · rw [if_pos hon]
    simp [hon]
    split <;> decide
  · rw [if_neg hon]
    by_cases hst : bt (S.1 2) i = false
    · rw [if_pos ((jbit0 (show i < 32 by omega)).mpr hst)]
      have hlt : S.2 4 i < q 6 := by simpa [hon, hst] using ho
      rw [if_pos hlt]
      simp [hon, hst]
    · rw [if_neg (fun hx => hst ((jbit0 (show i < 32 by omega)).mp hx))]
      have : bt (S.1 2) i = true := by simpa using hst
      simp [this]
      split <;> decide
theorem S_clash_hour {D h : Nat} {Sc : Nat} {S : jS} {A' : Nat → Int32} {B' : Nat → Nat → Int32} {x1 : Int32} {d3 : Option Value} {f : Nat → Int32} {g : Nat → Nat → Int32} {n2 : Nat → Nat → Int64} {p : Nat → Nat → Int32} {pa : Nat → Nat → Nat → Int32} {s : Nat → Nat → Int32} {sa : Nat → Nat → Nat → Int32} {sw : Bool} {rp : Value} {t : List jE} {z : Nat × Nat × Nat × (Nat → Int32)} (hS : p (jq sw) 3 = Int32.ofNat Sc) (hS6 : Sc ≤ 6) (hA : A' 2 = S.1 2) (hB : B' 2 = S.2 2) (hc : ∀ i, i < Sc → B' 4 i = S.2 4 i) (hh : S.1 1 = Int32.ofNat h) (h12 : h < 12) :
    (∃ i A B, i < Sc ∧ jov (p (jq sw)) S i = true ∧ (∀ j, j < i → jov (p (jq sw)) S j = false) ∧ K_c_clash_16 D x1 (Int32.ofNat h) d3 f g n2 p pa (jup s 2 A') (jup sa 2 B') sw rp t z = some (.inl (some (.int (if x1 = 0 then Int32.ofNat h else Int32.ofNat i))), (jX f g n2 p pa (jup s 2 A) (jup sa 2 B) sw rp t, z))) ∨
    ((∀ i, i < Sc → jov (p (jq sw)) S i = false) ∧ ∃ B d, K_c_clash_16 D x1 (Int32.ofNat h) d3 f g n2 p pa (jup s 2 A') (jup sa 2 B') sw rp t z = K_c_clash_16 D x1 (Int32.ofNat (h + 1)) d f g n2 p pa (jup s 2 (jup A' 1 (Int32.ofNat h))) (jup sa 2 B) sw rp t z ∧ B 2 = B' 2 ∧ ∀ i, i < Sc → B 4 i = if jbusy S i then S.2 4 i + 1 else S.2 4 i) := by
  have hstart : K_c_clash_16 D x1 (Int32.ofNat h) d3 f g n2 p pa (jup s 2 A') (jup sa 2 B') sw rp t z = K_c_clash_25 D x1 (Int32.ofNat h) 0 f g n2 p pa (jup s 2 (jup A' 1 (Int32.ofNat h))) (jup sa 2 B') sw rp t z := by
    rw [L_c_clash_16, if_pos (show Int32.ofNat h < 12 from jlt_t (b := 12) h12 (by omega)), jup_same, jup_jup]
  have key : ∀ k, k ≤ Sc → (∃ i A B, i < Sc ∧ jov (p (jq sw)) S i = true ∧ (∀ j, j < i → jov (p (jq sw)) S j = false) ∧ K_c_clash_25 D x1 (Int32.ofNat h) 0 f g n2 p pa (jup s 2 (jup A' 1 (Int32.ofNat h))) (jup sa 2 B') sw rp t z = some (.inl (some (.int (if x1 = 0 then Int32.ofNat h else Int32.ofNat i))), (jX f g n2 p pa (jup s 2 A) (jup sa 2 B) sw rp t, z))) ∨
      ((∀ i, i < k → jov (p (jq sw)) S i = false) ∧ ∃ B, K_c_clash_25 D x1 (Int32.ofNat h) 0 f g n2 p pa (jup s 2 (jup A' 1 (Int32.ofNat h))) (jup sa 2 B') sw rp t z = K_c_clash_25 D x1 (Int32.ofNat h) (Int32.ofNat k) f g n2 p pa (jup s 2 (jup A' 1 (Int32.ofNat h))) (jup sa 2 B) sw rp t z ∧ B 2 = B' 2 ∧ ∀ i, i < Sc → B 4 i = if i < k ∧ jbusy S i = true then S.2 4 i + 1 else S.2 4 i) := by
    intro k
    induction k with
    | zero => intro _; exact Or.inr ⟨fun i hi => absurd hi (by omega), B', rfl, rfl, fun i hi => by rw [hc i hi, if_neg (fun q => absurd q.1 (by omega))]⟩
    | succ k ih =>
      intro hk
      rcases ih (by omega) with hl | ⟨hno, B, he, hB2, hB4⟩
      · exact Or.inl hl
      have hlt : Int32.ofNat k < Int32.ofNat Sc := jlt_t (by omega) (by omega)
      have hon : ((B 2 k >>> ((jup A' 1 (Int32.ofNat h)) 1 &&& 31)) &&& 1) = ((S.2 2 k >>> (S.1 1 &&& 31)) &&& 1) := by rw [hB2, hB, jup_same, hh]
      have h2 : (jup A' 1 (Int32.ofNat h)) 2 = S.1 2 := by rw [jup_ne (by omega)]; exact hA
      have hBk : B 4 k = S.2 4 k := by rw [hB4 k (by omega), if_neg (fun q => absurd q.1 (by omega))]
      have hstep : ∀ (Bn : Nat → Nat → Int32), jov (p (jq sw)) S k = false → Bn 2 = B' 2 → (∀ i, i < Sc → Bn 4 i = if i < k + 1 ∧ jbusy S i = true then S.2 4 i + 1 else S.2 4 i) → K_c_clash_25 D x1 (Int32.ofNat h) 0 f g n2 p pa (jup s 2 (jup A' 1 (Int32.ofNat h))) (jup sa 2 B') sw rp t z = K_c_clash_25 D x1 (Int32.ofNat h) (Int32.ofNat (k + 1)) f g n2 p pa (jup s 2 (jup A' 1 (Int32.ofNat h))) (jup sa 2 Bn) sw rp t z →
          ((∀ i, i < k + 1 → jov (p (jq sw)) S i = false) ∧ ∃ B, K_c_clash_25 D x1 (Int32.ofNat h) 0 f g n2 p pa (jup s 2 (jup A' 1 (Int32.ofNat h))) (jup sa 2 B') sw rp t z = K_c_clash_25 D x1 (Int32.ofNat h) (Int32.ofNat (k + 1)) f g n2 p pa (jup s 2 (jup A' 1 (Int32.ofNat h))) (jup sa 2 B) sw rp t z ∧ B 2 = B' 2 ∧ ∀ i, i < Sc → B 4 i = if i < k + 1 ∧ jbusy S i = true then S.2 4 i + 1 else S.2 4 i) := by
        intro Bn q1 q2 q3 q4
        refine ⟨fun i hi => ?_, Bn, q4, q2, q3⟩
        by_cases hik : i = k
        · rw [hik]; exact q1
        · exact hno i (by omega)
      have hidle : jbusy S k = false → ∀ i, i < Sc → B 4 i = if i < k + 1 ∧ jbusy S i = true then S.2 4 i + 1 else S.2 4 i := by
        intro hbk i hi
        rw [hB4 i hi]
        by_cases hik : i = k
        · subst hik; rw [if_neg (fun q => absurd q.1 (by omega)), if_neg (fun q => by rw [hbk] at q; exact absurd q.2 (by decide))]
        · by_cases hb : jbusy S i = true
          · by_cases hl : i < k
            · rw [if_pos ⟨hl, hb⟩, if_pos ⟨by omega, hb⟩]
            · rw [if_neg (fun q => hl q.1), if_neg (fun q => by omega)]
          · rw [if_neg (fun q => hb q.2), if_neg (fun q => hb q.2)]
      by_cases hon0 : ((S.2 2 k >>> (S.1 1 &&& 31)) &&& 1) = 0
      · have hb0 : jbusy S k = false := by simp [jbusy, jon, hon0]
        refine Or.inr (hstep B (by simp [jov, hb0]) hB2 (hidle hb0) (he.trans ?_))
        rw [L_c_clash_25, hS, if_pos hlt, E_s_onRota (by omega)]
        simp (disch := omega) only [jout_f, if_false, jclamp, jup_same]
        have hon1 : ((B 2 k >>> (Int32.ofNat h &&& 31)) &&& 1) = 0 := by rw [hB2, hB, ← hh]; exact hon0
        simp only [hon1, if_true, jbO_some, jbO_none, jbO_ite, jk_some, jk_none, E_c_clash_34, E_c_clash_64, jsucc]
      have hon1 : ¬ ((B 2 k >>> (Int32.ofNat h &&& 31)) &&& 1) = 0 := by rw [hB2, hB, ← hh]; exact hon0
      by_cases hst : bt (S.1 2) k = false
      rotate_left
      · have hst2 : bt (S.1 2) k = true := by simpa using hst
        have hb0 : jbusy S k = false := by simp [jbusy, hst2]
        have hst3 : ¬ ((A' 2 >>> (Int32.ofNat k &&& 31)) &&& 1) = 0 := by rw [hA, jbit0 (by omega)]; exact hst
        refine Or.inr (hstep B (by simp [jov, hb0]) hB2 (hidle hb0) (he.trans ?_))
        rw [L_c_clash_25, hS, if_pos hlt, E_s_onRota (by omega)]
        simp +decide (disch := omega) only [jout_f, if_false, jclamp, jup_same, hon1, jbO_some, jbO_none, jbO_ite, jk_some, jk_none, E_c_clash_34, E_s_onStrike, jup_ne, hst3, E_c_clash_39, E_c_clash_64, jsucc]
      have hst3 : ((A' 2 >>> (Int32.ofNat k &&& 31)) &&& 1) = 0 := by rw [hA, jbit0 (by omega)]; exact hst
      have hb1 : jbusy S k = true := by simp [jbusy, jon, hon0, hst]
      by_cases hlt6 : S.2 4 k < p (jq sw) 6
      · have hBk6 : B 4 k < p (jq sw) 6 := by rw [hBk]; exact hlt6
        refine Or.inr (hstep (jup B 4 (jup (B 4) k (B 4 k + 1))) (by simp [jov, hlt6]) (by rw [jup_ne (by omega)]; exact hB2) ?_ (he.trans ?_))
        · intro i hi
          rw [jup_same]
          by_cases hik : i = k
          · subst hik; rw [jup_same, if_pos ⟨by omega, hb1⟩, hBk]
          · rw [jup_ne hik, hB4 i hi]
            by_cases hb : jbusy S i = true
            · by_cases hl : i < k
              · rw [if_pos ⟨hl, hb⟩, if_pos ⟨by omega, hb⟩]
              · rw [if_neg (fun q => hl q.1), if_neg (fun q => by omega)]
            · rw [if_neg (fun q => hb q.2), if_neg (fun q => hb q.2)]
        · rw [L_c_clash_25, hS, if_pos hlt, E_s_onRota (by omega)]
          simp +decide (disch := omega) only [jout_f, if_false, if_true, jclamp, jup_same, jup_jup, hon1, jbO_some, jbO_none, jbO_ite, jk_some, jk_none, E_c_clash_34, E_s_onStrike, jup_ne, hst3, E_c_clash_39, E_c_clash_64, jsucc, hBk6]
      · have hBk6 : ¬ B 4 k < p (jq sw) 6 := by rw [hBk]; exact hlt6
        refine Or.inl ⟨k, jup A' 1 (Int32.ofNat h), B, by omega, by simp [jov, hb1, hlt6], hno, he.trans ?_⟩
        rw [L_c_clash_25, hS, if_pos hlt, E_s_onRota (by omega)]
        simp +decide (disch := omega) only [jout_f, if_false, if_true, jclamp, jup_same, hon1, jbO_some, jbO_none, jbO_ite, jk_some, jk_none, E_c_clash_34, E_s_onStrike, jup_ne, hst3, E_c_clash_39, hBk6]
        split <;> rfl
  rw [hstart]
  rcases key Sc (Nat.le_refl Sc) with hl | ⟨hno, B, he, hB2, hB4⟩
  · exact Or.inl hl
  · refine Or.inr ⟨hno, B, some (.int (Int32.ofNat Sc)), ?_, hB2, ?_⟩
    · rw [he, L_c_clash_25, hS, if_neg (jlt_n (by omega) (by omega)), jsucc]
    · intro i hi
      rw [hB4 i hi]
      by_cases hb : jbusy S i = true
      · rw [if_pos ⟨hi, hb⟩, if_pos hb]
      · rw [if_neg (fun q => hb q.2), if_neg hb]

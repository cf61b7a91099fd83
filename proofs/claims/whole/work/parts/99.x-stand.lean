-- WHICH NOTES STAND: the class
/-- the notes struck once the last m of kn have been looked at -/
def jstr (k7 k9 : Nat → Int32) (kn : Nat) : Nat → Nat → Bool
  | 0 => fun _ => false
  | m + 1 => if jstr k7 k9 kn m (kn - 1 - m) = false ∧ k7 (kn - 1 - m) = 0 then (fun x => jstr k7 k9 kn m x || decide (x = (k9 (kn - 1 - m)).toNatClampNeg)) else jstr k7 k9 kn m
/-- a note that stands -/
def jsta (k7 k9 : Nat → Int32) (kn i : Nat) : Bool := decide (i < kn) && (!jstr k7 k9 kn (kn - 1 - i) i && !decide (k7 i = 0))
theorem S_n_standing {D kn : Nat} {f : Nat → Int32} {g : Nat → Nat → Int32} {n2 : Nat → Nat → Int64} {p : Nat → Nat → Int32} {pa : Nat → Nat → Nat → Int32} {s : Nat → Nat → Int32} {sa : Nat → Nat → Nat → Int32} {sw : Bool} {rp : Value} {t : List jE} {z : Nat × Nat × Nat × (Nat → Int32)} (hk : kn ≤ 24) (hkc : K_n_knownCount D f g n2 p pa s sa sw rp t z = some (.inl (some (.int (Int32.ofNat kn))), (jX f g n2 p pa s sa sw rp t, z))) (h9 : ∀ i, i < kn → g 7 i = 0 → ∃ j, j < 24 ∧ g 9 i = Int32.ofNat j) :
    ∃ x2, K_n_standing D f g n2 p pa s sa sw rp t z = some (.inl (some (.int x2)), (jX f g n2 p pa s sa sw rp t, z)) ∧ ∀ i, i < 32 → bt x2 i = jsta (g 7) (g 9) kn i := by
  rw [E_n_standing, hkc]
  simp only [jbO_some, jbO_none, jbO_ite, jk_some, jk_none, E_n_standing_6]
  have em : ∀ m, m < kn → Int32.ofNat (kn - m) - 1 = Int32.ofNat (kn - 1 - m) := by
    intro m hm
    rw [show (1 : Int32) = Int32.ofNat 1 from rfl, ← Int32.ofNat_sub _ _ (by omega)]
    congr 1; omega
  have key : ∀ m, m ≤ kn → ∃ x1 x2 d4, K_n_standing_9 D 0 0 (Int32.ofNat kn - 1) none f g n2 p pa s sa sw rp t z = K_n_standing_9 D x1 x2 (Int32.ofNat (kn - m) - 1) d4 f g n2 p pa s sa sw rp t z ∧ (∀ i, i < 32 → bt x1 i = jstr (g 7) (g 9) kn m i) ∧ ∀ i, i < 32 → bt x2 i = (decide (kn - m ≤ i) && jsta (g 7) (g 9) kn i) := by
    intro m
    induction m with
    | zero =>
      intro _
      refine ⟨0, 0, none, rfl, fun i _ => b_0 i, fun i hi => ?_⟩
      rw [b_0]; unfold jsta
      by_cases h : i < kn
      · simp [show ¬ kn ≤ i by omega]
      · simp [h]
    | succ m ih =>
      intro hm
      obtain ⟨x1, x2, d4, he, hx1, hx2⟩ := ih (by omega)
      have hi32 : kn - 1 - m < 32 := by omega
      have hj : ¬ jout (Int32.ofNat (kn - 1 - m)) 24 := jout_n (by omega) (by omega)
      have hcl : (Int32.ofNat (kn - 1 - m)).toNatClampNeg = kn - 1 - m := jclamp (by omega)
      have hnext : Int32.ofNat (kn - 1 - m) + (-1) = Int32.ofNat (kn - (m + 1)) - 1 := by
        rw [show kn - 1 - m = kn - (m + 1) by omega, Int32.sub_eq_add_neg]
      have hs : jsta (g 7) (g 9) kn (kn - 1 - m) = (!jstr (g 7) (g 9) kn m (kn - 1 - m) && !decide (g 7 (kn - 1 - m) = 0)) := by
        unfold jsta; rw [show kn - 1 - (kn - 1 - m) = m by omega]; simp; omega
      have hrest : ∀ i, i < 32 → i ≠ kn - 1 - m → (decide (kn - (m + 1) ≤ i) && jsta (g 7) (g 9) kn i) = (decide (kn - m ≤ i) && jsta (g 7) (g 9) kn i) := by
        intro i hi hne
        by_cases h : kn - m ≤ i
        · simp [h, show kn - (m + 1) ≤ i by omega]
        · simp [h, show ¬ kn - (m + 1) ≤ i by omega]
      have hsame : jsta (g 7) (g 9) kn (kn - 1 - m) = false → ∀ i, i < 32 → bt x2 i = (decide (kn - (m + 1) ≤ i) && jsta (g 7) (g 9) kn i) := by
        intro hf i hi
        by_cases hne : i = kn - 1 - m
        · rw [hx2 i hi, hne, hf]; simp
        · rw [hx2 i hi, hrest i hi hne]
      rw [em m (by omega)] at he
      have hstart : K_n_standing_9 D x1 x2 (Int32.ofNat (kn - 1 - m)) d4 f g n2 p pa s sa sw rp t z = K_n_standing_20 D x1 x2 (Int32.ofNat (kn - 1 - m)) d4 (if jstr (g 7) (g 9) kn m (kn - 1 - m) = false then 1 else 0) f g n2 p pa s sa sw rp t z := by
        rw [L_n_standing_9, if_neg (jnonneg (by omega))]
        have hb := jbit0 (x := x1) hi32
        by_cases hst : jstr (g 7) (g 9) kn m (kn - 1 - m) = false
        · rw [if_pos (hb.mpr (by rw [hx1 _ hi32]; exact hst)), if_pos hst]
        · rw [if_neg (fun q => hst (by rw [← hx1 _ hi32]; exact hb.mp q)), if_neg hst]
      by_cases hst : jstr (g 7) (g 9) kn m (kn - 1 - m) = false
      · rw [if_pos hst] at hstart
        by_cases h7 : g 7 (kn - 1 - m) = 0
        · obtain ⟨j, hj24, hj9⟩ := h9 (kn - 1 - m) (by omega) h7
          refine ⟨x1 ||| (1 <<< (Int32.ofNat j &&& 31)), x2, some (.int 1), ?_, ?_, hsame (by rw [hs, h7]; simp)⟩
          · rw [he, hstart, E_n_standing_20, if_neg (by decide), if_neg hj, if_pos (show g 7 (Int32.ofNat (kn - 1 - m)).toNatClampNeg = 0 by rw [hcl]; exact h7), if_neg hj, hcl, hj9, E_n_standing_46, hnext]
          · intro i hi
            rw [b_or, b_one j (by omega) hi, hx1 i hi, jstr, if_pos ⟨hst, h7⟩, hj9, jclamp (by omega)]
        · refine ⟨x1, x2 ||| (1 <<< (Int32.ofNat (kn - 1 - m) &&& 31)), some (.int 1), ?_, ?_, ?_⟩
          · rw [he, hstart, E_n_standing_20, if_neg (by decide), if_neg hj, if_neg (show ¬ g 7 (Int32.ofNat (kn - 1 - m)).toNatClampNeg = 0 by rw [hcl]; exact h7), E_n_standing_38, if_neg (by decide), E_n_standing_46, hnext]
          · intro i hi; rw [hx1 i hi, jstr, if_neg (fun q => h7 q.2)]
          · intro i hi
            rw [b_or, b_one _ hi32 hi]
            by_cases hne : i = kn - 1 - m
            · rw [hne, hs, hst]; simp [h7]; omega
            · rw [hx2 i hi, hrest i hi hne]; simp [hne]
      · rw [if_neg hst] at hstart
        refine ⟨x1, x2, some (.int 0), ?_, ?_, hsame (by rw [hs]; simp [hst])⟩
        · rw [he, hstart, E_n_standing_20, if_pos rfl, E_n_standing_38, if_pos rfl, E_n_standing_46, hnext]
        · intro i hi; rw [hx1 i hi, jstr, if_neg (fun q => hst q.1)]
  obtain ⟨x1, x2, d4, he, -, hx2⟩ := key kn (Nat.le_refl kn)
  refine ⟨x2, ?_, fun i hi => ?_⟩
  · rw [he, L_n_standing_9, Nat.sub_self, if_pos (by decide)]
  · rw [hx2 i hi]; simp

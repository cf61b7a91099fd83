-- READING: tokens compared, faults; what stands while an E is read
theorem rsg_inj : ∀ x, x ∈ rsg → ∀ y, y ∈ rsg → (x.1 = y.1 ↔ x.2 = y.2) := by decide +kernel
theorem wmp_inj : ∀ x, x < 22 → ∀ y, y < 22 → wmp x = wmp y → x = y := by decide +kernel
theorem wmp_lt : ∀ x, x < 22 → wmp x < 23 := by decide +kernel
theorem tk_sign {kd vl so va a c : Int32} (h : rTk kd vl so va) (hac : (a, c) ∈ rsg) : (kd = 5 ∧ vl = a) ↔ (so = 3 ∧ va = c) := by
  rcases h with ⟨h1, h2⟩ | ⟨h1, h2⟩ | ⟨h1, h2, -⟩ | ⟨h1, h2, -⟩ | ⟨h1, h2, -⟩ | ⟨h1, h2, h3⟩
  · subst h1 h2; exact ⟨fun q => absurd q.1 (by decide), fun q => absurd q.1 (by decide)⟩
  · subst h1 h2; exact ⟨fun q => absurd q.1 (by decide), fun q => absurd q.1 (by decide)⟩
  · subst h1 h2; exact ⟨fun q => absurd q.1 (by decide), fun q => absurd q.1 (by decide)⟩
  · subst h1 h2; exact ⟨fun q => absurd q.1 (by decide), fun q => absurd q.1 (by decide)⟩
  · subst h1 h2; exact ⟨fun q => absurd q.1 (by decide), fun q => absurd q.1 (by decide)⟩
  · have := rsg_inj _ h3 _ hac
    exact ⟨fun q => ⟨h2, this.mp q.2⟩, fun q => ⟨h1, this.mpr q.2⟩⟩
theorem tk_word {kd vl so va : Int32} {x : Nat} (h : rTk kd vl so va) (hx : x < 22) : (kd = 4 ∧ vl = Int32.ofNat x) ↔ (so = 0 ∧ va = Int32.ofNat (wmp x)) := by
  rcases h with ⟨h1, h2⟩ | ⟨h1, h2⟩ | ⟨h1, h2, -⟩ | ⟨h1, h2, -⟩ | ⟨h1, h2, y, hy, h3, h4⟩ | ⟨h1, h2, h3⟩
  · subst h1 h2; exact ⟨fun q => absurd q.1 (by decide), fun q => absurd q.1 (by decide)⟩
  · subst h1 h2; exact ⟨fun q => absurd q.1 (by decide), fun q => absurd q.1 (by decide)⟩
  · subst h1 h2; exact ⟨fun q => absurd q.1 (by decide), fun q => absurd q.1 (by decide)⟩
  · subst h1 h2; exact ⟨fun q => absurd q.1 (by decide), fun q => absurd q.1 (by decide)⟩
  · constructor
    · rintro ⟨-, q⟩
      refine ⟨h2, ?_⟩
      rw [h4, jofinj (by omega) (by omega) (h3.symm.trans q)]
    · rintro ⟨-, q⟩
      refine ⟨h1, ?_⟩
      rw [h3, wmp_inj y hy x hx (jofinj (by have := wmp_lt y hy; omega) (by have := wmp_lt x hx; omega) (h4.symm.trans q))]
  · subst h1 h2; exact ⟨fun q => absurd q.1 (by decide), fun q => absurd q.1 (by decide)⟩
theorem S_k_isSign {D : Nat} {a : Int32} {f : Nat → Int32} {g : Nat → Nat → Int32} {n2 : Nat → Nat → Int64} {p : Nat → Nat → Int32} {pa : Nat → Nat → Nat → Int32} {s : Nat → Nat → Int32} {sa : Nat → Nat → Nat → Int32} {sw : Bool} {rp : Value} {t : List jE} {z : Nat × Nat × Nat × (Nat → Int32)} : K_k_isSign D a f g n2 p pa s sa sw rp t z = some (.inl (some (.int (if f 11 = 5 ∧ f 12 = a then 1 else 0))), (jX f g n2 p pa s sa sw rp t, z)) := by
  rw [E_k_isSign]
  by_cases h1 : f 11 = 5
  · by_cases h2 : f 12 = a
    · rw [if_pos h1, if_pos h2, if_pos ⟨h1, h2⟩]
    · rw [if_pos h1, if_neg h2, if_neg (fun q => h2 q.2)]
  · rw [if_neg h1, if_neg (fun q => h1 q.1)]
theorem S_k_isWord {D : Nat} {a : Int32} {f : Nat → Int32} {g : Nat → Nat → Int32} {n2 : Nat → Nat → Int64} {p : Nat → Nat → Int32} {pa : Nat → Nat → Nat → Int32} {s : Nat → Nat → Int32} {sa : Nat → Nat → Nat → Int32} {sw : Bool} {rp : Value} {t : List jE} {z : Nat × Nat × Nat × (Nat → Int32)} : K_k_isWord D a f g n2 p pa s sa sw rp t z = some (.inl (some (.int (if f 11 = 4 ∧ f 12 = a then 1 else 0))), (jX f g n2 p pa s sa sw rp t, z)) := by
  rw [E_k_isWord]
  by_cases h1 : f 11 = 4
  · by_cases h2 : f 12 = a
    · rw [if_pos h1, if_pos h2, if_pos ⟨h1, h2⟩]
    · rw [if_pos h1, if_neg h2, if_neg (fun q => h2 q.2)]
  · rw [if_neg h1, if_neg (fun q => h1 q.1)]
theorem M_isSign {D : Nat} {a : Int32} {cx : jCX} {f : Nat → Int32} {g : Nat → Nat → Int32} {n : Nat → Nat → Int64} {b : Nat → Nat → Int32} {l : Nat → Int64} {t : List jE} {z : Nat × Nat × Nat × (Nat → Int32)} : K_m_isSign D a cx f g n b l t z = some (.inl (some (.int (if f 9 = 0 ∧ f 7 = 3 ∧ f 8 = a then 1 else 0))), (jXt cx (jY f g n b l t), z)) := by
  rw [E_m_isSign]
  by_cases h0 : f 9 = 0
  · by_cases h1 : f 7 = 3
    · by_cases h2 : f 8 = a
      · rw [if_pos h0, if_pos h1, if_pos h2, if_pos ⟨h0, h1, h2⟩]
      · rw [if_pos h0, if_pos h1, if_neg h2, if_neg (fun q => h2 q.2.2)]
    · rw [if_pos h0, if_neg h1, if_neg (fun q => h1 q.2.1)]
  · rw [if_neg h0, if_neg (fun q => h0 q.1)]
theorem M_isWord {D : Nat} {a : Int32} {cx : jCX} {f : Nat → Int32} {g : Nat → Nat → Int32} {n : Nat → Nat → Int64} {b : Nat → Nat → Int32} {l : Nat → Int64} {t : List jE} {z : Nat × Nat × Nat × (Nat → Int32)} : K_m_isWord D a cx f g n b l t z = some (.inl (some (.int (if f 9 = 0 ∧ f 7 = 0 ∧ f 8 = a then 1 else 0))), (jXt cx (jY f g n b l t), z)) := by
  rw [E_m_isWord]
  by_cases h0 : f 9 = 0
  · by_cases h1 : f 7 = 0
    · by_cases h2 : f 8 = a
      · rw [if_pos h0, if_pos h1, if_pos h2, if_pos ⟨h0, h1, h2⟩]
      · rw [if_pos h0, if_pos h1, if_neg h2, if_neg (fun q => h2 q.2.2)]
    · rw [if_pos h0, if_neg h1, if_neg (fun q => h1 q.2.1)]
  · rw [if_neg h0, if_neg (fun q => h0 q.1)]
-- the reference with a fault does nothing more
theorem B_isSign {D : Nat} {a : Int32} {cx : jCX} {f : Nat → Int32} {g : Nat → Nat → Int32} {n : Nat → Nat → Int64} {b : Nat → Nat → Int32} {l : Nat → Int64} {t : List jE} {z : Nat × Nat × Nat × (Nat → Int32)} (h : ¬ f 9 = 0) : K_m_isSign D a cx f g n b l t z = some (.inl (some (.int 0)), (jXt cx (jY f g n b l t), z)) := by
  rw [M_isSign, if_neg (fun q => h q.1)]
theorem B_isWord {D : Nat} {a : Int32} {cx : jCX} {f : Nat → Int32} {g : Nat → Nat → Int32} {n : Nat → Nat → Int64} {b : Nat → Nat → Int32} {l : Nat → Int64} {t : List jE} {z : Nat × Nat × Nat × (Nat → Int32)} (h : ¬ f 9 = 0) : K_m_isWord D a cx f g n b l t z = some (.inl (some (.int 0)), (jXt cx (jY f g n b l t), z)) := by
  rw [M_isWord, if_neg (fun q => h q.1)]
theorem B_wrong {D : Nat} {a : Int32} {cx : jCX} {f : Nat → Int32} {g : Nat → Nat → Int32} {n : Nat → Nat → Int64} {b : Nat → Nat → Int32} {l : Nat → Int64} {t : List jE} {z : Nat × Nat × Nat × (Nat → Int32)} (h : ¬ f 9 = 0) : K_m_wrong D a cx f g n b l t z = some (.inl none, (jXt cx (jY f g n b l t), z)) := by
  rw [E_m_wrong, if_neg h]
theorem M_wrong {D : Nat} {a : Int32} {cx : jCX} {f : Nat → Int32} {g : Nat → Nat → Int32} {n : Nat → Nat → Int64} {b : Nat → Nat → Int32} {l : Nat → Int64} {t : List jE} {z : Nat × Nat × Nat × (Nat → Int32)} (h : f 9 = 0) : K_m_wrong D a cx f g n b l t z = some (.inl none, (jXt cx (jY (jup (jup f 10 (f 6)) 9 a) g n b l t), z)) := by
  rw [E_m_wrong, if_pos h]
theorem B_goOn {D : Nat} {cx : jCX} {f : Nat → Int32} {g : Nat → Nat → Int32} {n : Nat → Nat → Int64} {b : Nat → Nat → Int32} {l : Nat → Int64} {t : List jE} {z : Nat × Nat × Nat × (Nat → Int32)} (h : ¬ f 9 = 0) : K_m_goOn D cx f g n b l t z = some (.inl none, (jXt cx (jY f g n b l t), z)) := by
  rw [E_m_goOn, if_neg h]
theorem B_knot {D : Nat} {cx : jCX} {f : Nat → Int32} {g : Nat → Nat → Int32} {n : Nat → Nat → Int64} {b : Nat → Nat → Int32} {l : Nat → Int64} {t : List jE} {z : Nat × Nat × Nat × (Nat → Int32)} (h : ¬ f 9 = 0) : K_m_knot D cx f g n b l t z = some (.inl none, (jXt cx (jY f g n b l t), z)) := by
  rw [E_m_knot, if_neg h]
theorem B_puts {D : Nat} {a c : Int32} {cx : jCX} {f : Nat → Int32} {g : Nat → Nat → Int32} {n : Nat → Nat → Int64} {b : Nat → Nat → Int32} {l : Nat → Int64} {t : List jE} {z : Nat × Nat × Nat × (Nat → Int32)} (h : ¬ f 9 = 0) : K_m_puts D a c cx f g n b l t z = some (.inl none, (jXt cx (jY f g n b l t), z)) := by
  rw [E_m_puts, if_neg h]
theorem B_primary {D : Nat} {cx : jCX} {f : Nat → Int32} {g : Nat → Nat → Int32} {n : Nat → Nat → Int64} {b : Nat → Nat → Int32} {l : Nat → Int64} {t : List jE} {z : Nat × Nat × Nat × (Nat → Int32)} (h : ¬ f 9 = 0) : K_m_primary D cx f g n b l t z = some (.inl none, (jXt cx (jY f g n b l t), z)) := by
  rw [E_m_primary, if_neg h]
theorem B_product {D : Nat} {cx : jCX} {f : Nat → Int32} {g : Nat → Nat → Int32} {n : Nat → Nat → Int64} {b : Nat → Nat → Int32} {l : Nat → Int64} {t : List jE} {z : Nat × Nat × Nat × (Nat → Int32)} (h : ¬ f 9 = 0) : K_m_product (D + 1) cx f g n b l t z = some (.inl none, (jXt cx (jY f g n b l t), z)) := by
  rw [E_m_product, B_primary h, jbO_some, jk_none, F_m_product_2, L_m_product_2, B_isSign h, jbO_some, jk_some, E_m_product_5, if_pos rfl, B_isSign h, jbO_some, jk_some, E_m_product_9, if_pos rfl]
theorem B_sum {D : Nat} {cx : jCX} {f : Nat → Int32} {g : Nat → Nat → Int32} {n : Nat → Nat → Int64} {b : Nat → Nat → Int32} {l : Nat → Int64} {t : List jE} {z : Nat × Nat × Nat × (Nat → Int32)} (h : ¬ f 9 = 0) : K_m_sum (D + 2) cx f g n b l t z = some (.inl none, (jXt cx (jY f g n b l t), z)) := by
  rw [E_m_sum, B_product h, jbO_some, jk_none, F_m_sum_2, L_m_sum_2, B_isSign h, jbO_some, jk_some, E_m_sum_5, if_pos rfl, B_isSign h, jbO_some, jk_some, E_m_sum_9, if_pos rfl]
theorem B_negation {D : Nat} {cx : jCX} {f : Nat → Int32} {g : Nat → Nat → Int32} {n : Nat → Nat → Int64} {b : Nat → Nat → Int32} {l : Nat → Int64} {t : List jE} {z : Nat × Nat × Nat × (Nat → Int32)} (h : ¬ f 9 = 0) : K_m_negation (D + 3) cx f g n b l t z = some (.inl none, (jXt cx (jY f g n b l t), z)) := by
  rw [E_m_negation, B_isWord h, jbO_some, jk_some, E_m_negation_3, if_pos rfl, B_sum h, jbO_some, jk_none, E_m_negation_17, if_neg h]
theorem B_conjunction {D : Nat} {cx : jCX} {f : Nat → Int32} {g : Nat → Nat → Int32} {n : Nat → Nat → Int64} {b : Nat → Nat → Int32} {l : Nat → Int64} {t : List jE} {z : Nat × Nat × Nat × (Nat → Int32)} (h : ¬ f 9 = 0) : K_m_conjunction (D + 4) cx f g n b l t z = some (.inl none, (jXt cx (jY f g n b l t), z)) := by
  rw [E_m_conjunction, B_negation h, jbO_some, jk_none, F_m_conjunction_2, L_m_conjunction_2, B_isWord h, jbO_some, jk_some, E_m_conjunction_5, if_pos rfl]
theorem B_product_2 {D : Nat} {d : Option Value} {cx : jCX} {f : Nat → Int32} {g : Nat → Nat → Int32} {n : Nat → Nat → Int64} {b : Nat → Nat → Int32} {l : Nat → Int64} {t : List jE} {z : Nat × Nat × Nat × (Nat → Int32)} (h : ¬ f 9 = 0) : K_m_product_2 D d cx f g n b l t z = some (.inl none, (jXt cx (jY f g n b l t), z)) := by
  rw [L_m_product_2, B_isSign h, jbO_some, jk_some, E_m_product_5, if_pos rfl, B_isSign h, jbO_some, jk_some, E_m_product_9, if_pos rfl]
theorem B_sum_2 {D : Nat} {d : Option Value} {cx : jCX} {f : Nat → Int32} {g : Nat → Nat → Int32} {n : Nat → Nat → Int64} {b : Nat → Nat → Int32} {l : Nat → Int64} {t : List jE} {z : Nat × Nat × Nat × (Nat → Int32)} (h : ¬ f 9 = 0) : K_m_sum_2 D d cx f g n b l t z = some (.inl none, (jXt cx (jY f g n b l t), z)) := by
  rw [L_m_sum_2, B_isSign h, jbO_some, jk_some, E_m_sum_5, if_pos rfl, B_isSign h, jbO_some, jk_some, E_m_sum_9, if_pos rfl]
theorem B_conjunction_2 {D : Nat} {cx : jCX} {f : Nat → Int32} {g : Nat → Nat → Int32} {n : Nat → Nat → Int64} {b : Nat → Nat → Int32} {l : Nat → Int64} {t : List jE} {z : Nat × Nat × Nat × (Nat → Int32)} (h : ¬ f 9 = 0) : K_m_conjunction_2 D cx f g n b l t z = some (.inl none, (jXt cx (jY f g n b l t), z)) := by
  rw [L_m_conjunction_2, B_isWord h, jbO_some, jk_some, E_m_conjunction_5, if_pos rfl]
theorem B_expression_2 {D : Nat} {cx : jCX} {f : Nat → Int32} {g : Nat → Nat → Int32} {n : Nat → Nat → Int64} {b : Nat → Nat → Int32} {l : Nat → Int64} {t : List jE} {z : Nat × Nat × Nat × (Nat → Int32)} (h : ¬ f 9 = 0) : K_m_expression_2 D cx f g n b l t z = some (.inl none, (jXt cx (jY f g n b l t), z)) := by
  rw [L_m_expression_2, B_isWord h, jbO_some, jk_some, E_m_expression_5, if_pos rfl]
theorem B_numeral {D : Nat} {a c : Int32} {cx : jCX} {f : Nat → Int32} {g : Nat → Nat → Int32} {n : Nat → Nat → Int64} {b : Nat → Nat → Int32} {l : Nat → Int64} {t : List jE} {z : Nat × Nat × Nat × (Nat → Int32)} (h : ¬ f 9 = 0) : K_m_numeral D a c cx f g n b l t z = some (.inl (some (.int a)), (jXt cx (jY f g n b l t), z)) := by
  rw [E_m_numeral, if_neg h]
/-- while the E of rule r is read: N characters; a0 knots stood before; op are open, kc knots taken, nd put, d stand on the stack -/
def rEx (N r a0 op kc nd d : Nat) (g : Nat → Nat → Int32) (f q : Nat → Int32) (qa : Nat → Nat → Int32) (mf : Nat → Int32) (mg : Nat → Nat → Int32) : Prop :=
  rTok N f mf ∧ rTp N g mg ∧ mf 9 = 0 ∧ (f 6 = Int32.ofNat r ∧ r < 3) ∧ (q 9 = Int32.ofNat kc ∧ mf 14 = Int32.ofNat kc ∧ kc ≤ 64) ∧ (q (10 + r) = Int32.ofNat nd ∧ mg 1 20 = Int32.ofNat (a0 + nd) ∧ a0 + nd ≤ kc) ∧
  (∀ k, k < nd → jtr (qa (8 + 2 * r) k) (qa (9 + 2 * r) k) (mg 12 (64 + (a0 + k))) (mg 13 (64 + (a0 + k)))) ∧ jdp (qa (8 + 2 * r)) (qa (9 + 2 * r)) nd = some d ∧ (mf 13 = Int32.ofNat op ∧ op ≤ 8)
/-- what reading an E leaves as it was -/
def xF (r a0 v : Nat) (f : Nat → Int32) (p : Nat → Nat → Int32) (pa : Nat → Nat → Nat → Int32) (mf : Nat → Int32) (mg : Nat → Nat → Int32) (f' : Nat → Int32) (p' : Nat → Nat → Int32) (pa' : Nat → Nat → Nat → Int32) (mf' : Nat → Int32) (mg' : Nat → Nat → Int32) : Prop :=
  (∀ k, k < 7 ∨ k = 9 ∨ 13 < k → f' k = f k) ∧ (∀ j, j ≠ v → p' j = p j ∧ pa' j = pa j) ∧ (∀ k, k ≠ 9 → k ≠ 10 + r → p' v k = p v k) ∧ (∀ k, k ≠ 8 + 2 * r → k ≠ 9 + 2 * r → pa' v k = pa v k) ∧
  (∀ k, k < 4 ∨ k = 11 ∨ k = 12 ∨ 14 < k → mf' k = mf k) ∧ (∀ k, k ≠ 1 → k ≠ 12 → k ≠ 13 → mg' k = mg k) ∧ (∀ i, i ≠ 20 → mg' 1 i = mg 1 i) ∧ (∀ i, i < 64 + a0 → mg' 12 i = mg 12 i ∧ mg' 13 i = mg 13 i) ∧ (f 10).toNatClampNeg ≤ (f' 10).toNatClampNeg ∧ (mf' 9 = 0 → mf 9 = 0 ∧ f' 7 = f 7 ∧ f' 8 = f 8 ∧ mf' 10 = mf 10)
theorem xF.rf {r a0 v : Nat} {f : Nat → Int32} {p : Nat → Nat → Int32} {pa : Nat → Nat → Nat → Int32} {mf : Nat → Int32} {mg : Nat → Nat → Int32} : xF r a0 v f p pa mf mg f p pa mf mg :=
  ⟨fun _ _ => rfl, fun _ _ => ⟨rfl, rfl⟩, fun _ _ _ => rfl, fun _ _ _ => rfl, fun _ _ => rfl, fun _ _ _ _ => rfl, fun _ _ => rfl, fun _ _ => ⟨rfl, rfl⟩, Nat.le_refl _, fun q => ⟨q, rfl, rfl, rfl⟩⟩
theorem xF.tr {r a0 v : Nat} {f f' f'' : Nat → Int32} {p p' p'' : Nat → Nat → Int32} {pa pa' pa'' : Nat → Nat → Nat → Int32} {mf mf' mf'' : Nat → Int32} {mg mg' mg'' : Nat → Nat → Int32} (h : xF r a0 v f p pa mf mg f' p' pa' mf' mg') (h' : xF r a0 v f' p' pa' mf' mg' f'' p'' pa'' mf'' mg'') : xF r a0 v f p pa mf mg f'' p'' pa'' mf'' mg'' :=
  ⟨fun k hk => (h'.1 k hk).trans (h.1 k hk), fun j hj => ⟨(h'.2.1 j hj).1.trans (h.2.1 j hj).1, (h'.2.1 j hj).2.trans (h.2.1 j hj).2⟩, fun k a b => (h'.2.2.1 k a b).trans (h.2.2.1 k a b), fun k a b => (h'.2.2.2.1 k a b).trans (h.2.2.2.1 k a b),
    fun k hk => (h'.2.2.2.2.1 k hk).trans (h.2.2.2.2.1 k hk), fun k a b c => (h'.2.2.2.2.2.1 k a b c).trans (h.2.2.2.2.2.1 k a b c), fun i a => (h'.2.2.2.2.2.2.1 i a).trans (h.2.2.2.2.2.2.1 i a), fun i a => ⟨(h'.2.2.2.2.2.2.2.1 i a).1.trans (h.2.2.2.2.2.2.2.1 i a).1, (h'.2.2.2.2.2.2.2.1 i a).2.trans (h.2.2.2.2.2.2.2.1 i a).2⟩, Nat.le_trans h.2.2.2.2.2.2.2.2.1 h'.2.2.2.2.2.2.2.2.1, fun q => by
      obtain ⟨a, b, c, d⟩ := h'.2.2.2.2.2.2.2.2.2 q
      obtain ⟨a2, b2, c2, d2⟩ := h.2.2.2.2.2.2.2.2.2 a
      exact ⟨a2, b.trans b2, c.trans c2, d.trans d2⟩⟩
theorem jdp_congr {kd vl kd' vl' : Nat → Int32} : ∀ {n : Nat}, (∀ k, k < n → kd' k = kd k ∧ vl' k = vl k) → jdp kd' vl' n = jdp kd vl n
  | 0, _ => rfl
  | n + 1, h => by
    unfold jdp
    rw [jdp_congr (n := n) (fun k hk => h k (by omega)), (h n (by omega)).1, (h n (by omega)).2]

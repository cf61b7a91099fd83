-- THE SMALL MACHINE's CELLS AS THE MACHINE's: cell k stands at B + k
def jcv (B : Nat) (EX : Nat → Nat) (v : Value) : Value := match v with
  | .ref r => .ref (B + r)
  | .retAddr k => .ref (EX k)
  | v => v
def jca (B : Nat) (a : vp_A) : vp_A := match a with
  | (n, .inr (.inr (.inr (.inr f)))) => (n, .inr (.inr (.inr (.inr fun i => (f i).map (B + ·)))))
  | a => a
def jce (cA : Nat → ClassId) (B : Nat) (EX : Nat → Nat) (c : jE) : va_E := match c with
  | .inl (t, a) => .inl (cA t, jca B a)
  | .inr (c, fs) => .inr (c, fs.map (jcv B EX))
def jws (cA : Nat → ClassId) (B : Nat) (EX : Nat → Nat) (l : List jE) : va_W := l.mapIdx fun k c => (B + k, jce cA B EX c)
def jtys (cA : Nat → ClassId) : List (ClassId × FieldType) := [(cA 0, .int), (cA 1, .long), (cA 2, .boolean), (cA 3, .object "CrowRota$Law")]
theorem jnth_eq {α : Type} : ∀ (l : List α) (i : Nat), jnth l i = l[i]?
  | [], i => by simp [jnth]
  | a :: l, 0 => by simp [jnth]
  | a :: l, i + 1 => by simp [jnth, jnth_eq l i]
section JW
variable {cA : Nat → ClassId} {B : Nat} {EX : Nat → Nat}
theorem jws_get {l : List jE} {r : Nat} {c : jE} (h : jnth l r = some c) : (jws cA B EX l)[r]? = some (B + r, jce cA B EX c) := by
  rw [jnth_eq] at h
  simp [jws, h]
theorem jws_at {l : List jE} {r : Nat} {q : Nat × va_E} (h : (jws cA B EX l)[r]? = some q) : q.1 = B + r ∧ r < l.length := by
  simp only [jws, List.getElem?_mapIdx, Option.map_eq_some_iff] at h
  obtain ⟨c, hc, rfl⟩ := h
  exact ⟨rfl, (List.getElem?_eq_some_iff.mp hc).1⟩
theorem jws_set {l : List jE} {r : Nat} {c : jE} : jws cA B EX (l.set r c) = (jws cA B EX l).set r (B + r, jce cA B EX c) := by
  apply List.ext_getElem?
  intro i
  simp only [jws, List.getElem?_mapIdx, List.getElem?_set, List.length_mapIdx]
  by_cases hi : r = i
  · subst hi
    by_cases hl : r < l.length
    · simp [hl]
    · simp [hl]
  · simp [hi]
theorem jws_app {l : List jE} {c : jE} : jws cA B EX (l ++ [c]) = jws cA B EX l ++ [(B + l.length, jce cA B EX c)] := by
  simp [jws, List.mapIdx_append]
theorem jws_len {l : List jE} : (jws cA B EX l).length = l.length := by simp [jws]
theorem jws_D {l : List jE} : va_D (fun q => B ≤ q) (jws cA B EX l) := by
  refine ⟨fun i j p q hp hq e => ?_, fun k q hq => ?_⟩
  · rw [(jws_at hp).1, (jws_at hq).1] at e
    omega
  · show B ≤ q.1
    rw [(jws_at hq).1]
    omega
theorem jcv_cat (v : Value) : (jcv B EX v).category = v.category := by
  cases v <;> rfl
theorem jcv_cats (S : List Value) : ((S.map (jcv B EX)).map fun v => v.category).sum = jcats S := by
  induction S with
  | nil => rfl
  | cons v S ih => simp only [List.map_cons, List.sum_cons, ih, jcv_cat, jcats]
theorem jce_iset {l : List jE} {r n : Nat} {i x : Int32} {f : Nat → Int32} (t : Nat) : (jws cA B EX l).set r (B + r, .inl (cA t, n, .inl (upd f i.toNatClampNeg x))) = jws cA B EX (l.set r (.inl (t, n, .inl (jup f i.toNatClampNeg x)))) := by
  rw [jws_set]; rfl
theorem jce_lset {l : List jE} {r n : Nat} {i : Int32} {x : Int64} {f : Nat → Int64} (t : Nat) : (jws cA B EX l).set r (B + r, .inl (cA t, n, .inr (.inl (vp_updL f i.toNatClampNeg x)))) = jws cA B EX (l.set r (.inl (t, n, .inr (.inl (jup f i.toNatClampNeg x))))) := by
  rw [jws_set]; rfl
theorem jce_qset {l : List jE} {r n : Nat} {i : Int32} {q : Nat} {f : Nat → Option Nat} (t : Nat) : (jws cA B EX l).set r (B + r, .inl (cA t, n, .inr (.inr (.inr (.inr (va_up (fun i => (f i).map (B + ·)) i.toNatClampNeg (some (B + q)))))))) = jws cA B EX (l.set r (.inl (t, n, .inr (.inr (.inr (.inr (jup f i.toNatClampNeg (some q)))))))) := by
  rw [jws_set]
  congr 2
  show _ = Sum.inl (cA t, n, Sum.inr (Sum.inr (Sum.inr (Sum.inr fun j => (jup f i.toNatClampNeg (some q) j).map (B + ·)))))
  congr 7
  funext j
  by_cases hj : j = i.toNatClampNeg
  · simp [va_up, jup, hj]
  · simp [va_up, jup, hj]
theorem jce_fset {l : List jE} {r c k : Nat} {fs : List Value} {v : Value} : (jws cA B EX l).set r (B + r, .inr (c, (fs.map (jcv B EX)).set k (jcv B EX v))) = jws cA B EX (l.set r (.inr (c, fs.set k v))) := by
  rw [jws_set, ← List.map_set]; rfl
end JW
/-- the locals -/
def jal (B : Nat) (EX : Nat → Nat) (L : jL) : List (Nat × Value) := (L.1.mapIdx fun i v => (i, v)).filterMap (fun q => q.2.map fun v => (q.1, jcv B EX v)) ++ (L.2.mapIdx fun i v => (i, v)).filterMap (fun q => q.2.map fun x => (q.1, Value.long x))
theorem jal_mem {B : Nat} {EX : Nat → Nat} {L : jL} {j : Nat} {w : Value} : (j, w) ∈ jal B EX L ↔ (∃ v, jnth L.1 j = some (some v) ∧ jcv B EX v = w) ∨ ∃ x, jnth L.2 j = some (some x) ∧ w = .long x := by
  simp only [jal, List.mem_append, List.mem_filterMap, jnth_eq]
  constructor
  · rintro (⟨q, hq, h⟩ | ⟨q, hq, h⟩)
    · obtain ⟨i, hi, rfl⟩ := List.mem_mapIdx.mp hq
      simp only [Option.map_eq_some_iff] at h
      obtain ⟨v, hv, e⟩ := h
      cases e
      exact Or.inl ⟨v, by rw [List.getElem?_eq_getElem hi, hv], rfl⟩
    · obtain ⟨i, hi, rfl⟩ := List.mem_mapIdx.mp hq
      simp only [Option.map_eq_some_iff] at h
      obtain ⟨v, hv, e⟩ := h
      cases e
      exact Or.inr ⟨v, by rw [List.getElem?_eq_getElem hi, hv], rfl⟩
  · rintro (⟨v, hv, e⟩ | ⟨x, hx, e⟩)
    · obtain ⟨hi, he⟩ := List.getElem?_eq_some_iff.mp hv
      exact Or.inl ⟨(j, some v), List.mem_mapIdx.mpr ⟨j, hi, by rw [he]⟩, by simp [e]⟩
    · obtain ⟨hi, he⟩ := List.getElem?_eq_some_iff.mp hx
      exact Or.inr ⟨(j, some x), List.mem_mapIdx.mpr ⟨j, hi, by rw [he]⟩, by simp [e]⟩
def jLok (B : Nat) (EX : Nat → Nat) (n : Nat) (L : jL) (ls : Array Slot) : Prop := lv_has ls n (jal B EX L) ∧ L.1.length = n ∧ ∀ j v, jnth L.1 j = some (some v) → v.category = 1
theorem jLok.at1 {B : Nat} {EX : Nat → Nat} {n : Nat} {L : jL} {ls : Array Slot} (h : jLok B EX n L ls) {i : Nat} {v : Value} (hi : jnth L.1 i = some (some v)) : ls[i]? = some (.val (jcv B EX v)) := h.1.2.2 (i, _) (jal_mem.mpr (Or.inl ⟨v, hi, rfl⟩))
theorem jLok.at2 {B : Nat} {EX : Nat → Nat} {n : Nat} {L : jL} {ls : Array Slot} (h : jLok B EX n L ls) {i : Nat} {x : Int64} (hi : jnth L.2 i = some (some x)) : ls[i]? = some (.val (.long x)) := h.1.2.2 (i, _) (jal_mem.mpr (Or.inr ⟨x, hi, rfl⟩))
theorem jnth_set {α : Type} (l : List α) (i j : Nat) (x y : α) (h : jnth (l.set i x) j = some y) : (i = j ∧ x = y) ∨ (i ≠ j ∧ jnth l j = some y) := by
  rw [jnth_eq, List.getElem?_set] at h
  by_cases hij : i = j
  · subst hij
    by_cases hl : i < l.length
    · simp [hl] at h; exact Or.inl ⟨rfl, h⟩
    · simp [hl] at h
  · simp [hij] at h
    exact Or.inr ⟨hij, by rw [jnth_eq]; exact h⟩
theorem jLok.st1 {B : Nat} {EX : Nat → Nat} {n : Nat} {L : jL} {ls ls' : Array Slot} (h : jLok B EX n L ls) {i : Nat} {v : Value} (hv : v.category = 1)
    (h' : lv_has ls' n ((i, jcv B EX v) :: (jal B EX L).filter (fun q => !(q.1 == i) && !(q.1 + 1 == i && q.2.category == 2)))) : jLok B EX n (jst1 L i v) ls' := by
  refine ⟨⟨h'.1, h'.2.1, fun q hq => h'.2.2 q ?_⟩, by simp [jst1, h.2.1], fun j w hw => ?_⟩
  · obtain ⟨j, w⟩ := q
    rcases jal_mem.mp hq with ⟨u, hu, rfl⟩ | ⟨x, hx, rfl⟩
    · rcases jnth_set _ _ _ _ _ hu with ⟨rfl, e⟩ | ⟨hne, hu⟩
      · cases e; exact List.mem_cons_self
      · refine List.mem_cons_of_mem _ (List.mem_filter.mpr ⟨jal_mem.mpr (Or.inl ⟨u, hu, rfl⟩), ?_⟩)
        have hc := h.2.2 j u hu
        simp [jcv_cat, hc, Ne.symm hne]
    · rcases jnth_set _ _ _ _ _ hx with ⟨_, e⟩ | ⟨hne, hx⟩
      · cases e
      · rcases jnth_set _ _ _ _ _ hx with ⟨_, e⟩ | ⟨hne2, hx⟩
        · cases e
        · refine List.mem_cons_of_mem _ (List.mem_filter.mpr ⟨jal_mem.mpr (Or.inr ⟨x, hx, rfl⟩), ?_⟩)
          simp only [Bool.and_eq_true, Bool.not_eq_true', beq_eq_false_iff_ne, Bool.and_eq_false_iff]
          exact ⟨fun e => hne2 e.symm, Or.inl (fun e => hne (by show i - 1 = j; have e2 : j + 1 = i := e; omega))⟩
  · rcases jnth_set _ _ _ _ _ hw with ⟨_, e⟩ | ⟨_, hw⟩
    · cases e; exact hv
    · exact h.2.2 j w hw
theorem jLok.st2 {B : Nat} {EX : Nat → Nat} {n : Nat} {L : jL} {ls ls' : Array Slot} (h : jLok B EX n L ls) {i : Nat} {x : Int64}
    (h' : lv_has ls' n ((i, .long x) :: (jal B EX L).filter (fun q => !(q.1 == i) && (!(q.1 == i + 1) && !(q.1 + 1 == i && q.2.category == 2))))) : jLok B EX n (jst2 L i x) ls' := by
  refine ⟨⟨h'.1, h'.2.1, fun q hq => h'.2.2 q ?_⟩, by simp [jst2, h.2.1], fun j w hw => ?_⟩
  · obtain ⟨j, w⟩ := q
    rcases jal_mem.mp hq with ⟨u, hu, rfl⟩ | ⟨y, hy, rfl⟩
    · rcases jnth_set _ _ _ _ _ hu with ⟨_, e⟩ | ⟨hne, hu⟩
      · cases e
      · rcases jnth_set _ _ _ _ _ hu with ⟨_, e⟩ | ⟨hne2, hu⟩
        · cases e
        · refine List.mem_cons_of_mem _ (List.mem_filter.mpr ⟨jal_mem.mpr (Or.inl ⟨u, hu, rfl⟩), ?_⟩)
          have hc := h.2.2 j u hu
          simp [jcv_cat, hc, Ne.symm hne, Ne.symm hne2]
    · rcases jnth_set _ _ _ _ _ hy with ⟨rfl, e⟩ | ⟨hne, hy⟩
      · cases e; exact List.mem_cons_self
      · rcases jnth_set _ _ _ _ _ hy with ⟨_, e⟩ | ⟨hne2, hy⟩
        · cases e
        · rcases jnth_set _ _ _ _ _ hy with ⟨_, e⟩ | ⟨hne3, hy⟩
          · cases e
          · refine List.mem_cons_of_mem _ (List.mem_filter.mpr ⟨jal_mem.mpr (Or.inr ⟨y, hy, rfl⟩), ?_⟩)
            simp only [Bool.and_eq_true, Bool.not_eq_true', beq_eq_false_iff_ne, Bool.and_eq_false_iff]
            exact ⟨fun e => hne e.symm, fun e => hne3 e.symm, Or.inl (fun e => hne2 (by show i - 1 = j; have e2 : j + 1 = i := e; omega))⟩
  · rcases jnth_set _ _ _ _ _ hw with ⟨_, e⟩ | ⟨_, hw⟩
    · cases e
    · rcases jnth_set _ _ _ _ _ hw with ⟨_, e⟩ | ⟨_, hw⟩
      · cases e
      · exact h.2.2 j w hw
/-- a method's start -/
theorem jlay_len (B : Nat) (EX : Nat → Nat) : ∀ args : List Value, (lg_sl (args.map (jcv B EX))).length = (jlay args).1.length ∧ (jlay args).2.length = (jlay args).1.length := by
  intro args
  induction args with
  | nil => exact ⟨rfl, rfl⟩
  | cons v r ih =>
    obtain ⟨h1, h2⟩ := ih
    cases v <;> simp [lg_sl, jlay, jcv, Value.category] at h1 h2 ⊢ <;> omega
theorem jlay_mem (B : Nat) (EX : Nat → Nat) : ∀ (args : List Value) (k : Nat) (j : Nat), (∀ v, jnth (jlay args).1 j = some (some v) → (k + j, jcv B EX v) ∈ lv_args k (args.map (jcv B EX)) ∧ v.category = 1) ∧ (∀ x, jnth (jlay args).2 j = some (some x) → (k + j, Value.long x) ∈ lv_args k (args.map (jcv B EX))) := by
  intro args
  induction args with
  | nil => intro k j; exact ⟨fun v h => by simp [jlay, jnth] at h, fun x h => by simp [jlay, jnth] at h⟩
  | cons v r ih =>
    intro k j
    have one : ∀ (hc : v.category = 1) (e1 : (jlay (v :: r)).1 = some v :: (jlay r).1) (e2 : (jlay (v :: r)).2 = none :: (jlay r).2),
        (∀ u, jnth (jlay (v :: r)).1 j = some (some u) → (k + j, jcv B EX u) ∈ lv_args k ((v :: r).map (jcv B EX)) ∧ u.category = 1) ∧ (∀ x, jnth (jlay (v :: r)).2 j = some (some x) → (k + j, Value.long x) ∈ lv_args k ((v :: r).map (jcv B EX))) := by
      intro hc e1 e2
      rw [e1, e2]
      have hst : (if (jcv B EX v).category = 2 then k + 2 else k + 1) = k + 1 := by rw [jcv_cat, hc]; rfl
      show (∀ u, jnth (some v :: (jlay r).1) j = some (some u) → (k + j, jcv B EX u) ∈ (k, jcv B EX v) :: lv_args (if (jcv B EX v).category = 2 then k + 2 else k + 1) (r.map (jcv B EX)) ∧ u.category = 1) ∧ (∀ x, jnth (none :: (jlay r).2) j = some (some x) → (k + j, Value.long x) ∈ (k, jcv B EX v) :: lv_args (if (jcv B EX v).category = 2 then k + 2 else k + 1) (r.map (jcv B EX)))
      rw [hst]
      cases j with
      | zero =>
        refine ⟨fun u h => ?_, fun x h => by simp [jnth] at h⟩
        simp only [jnth, Option.some.injEq] at h
        subst h
        exact ⟨List.mem_cons_self, hc⟩
      | succ j =>
        obtain ⟨h1, h2⟩ := ih (k + 1) j
        rw [show k + (j + 1) = k + 1 + j by omega]
        exact ⟨fun u h => ⟨List.mem_cons_of_mem _ (h1 u h).1, (h1 u h).2⟩, fun x h => List.mem_cons_of_mem _ (h2 x h)⟩
    cases v with
    | long x =>
      show (∀ u, jnth (none :: none :: (jlay r).1) j = some (some u) → (k + j, jcv B EX u) ∈ (k, Value.long x) :: lv_args (k + 2) (r.map (jcv B EX)) ∧ u.category = 1) ∧ (∀ y, jnth (some x :: none :: (jlay r).2) j = some (some y) → (k + j, Value.long y) ∈ (k, Value.long x) :: lv_args (k + 2) (r.map (jcv B EX)))
      match j with
      | 0 =>
        refine ⟨fun u h => by simp [jnth] at h, fun y h => ?_⟩
        simp only [jnth, Option.some.injEq] at h
        subst h
        exact List.mem_cons_self
      | 1 => exact ⟨fun u h => by simp [jnth] at h, fun y h => by simp [jnth] at h⟩
      | j + 2 =>
        obtain ⟨h1, h2⟩ := ih (k + 2) j
        rw [show k + (j + 2) = k + 2 + j by omega]
        exact ⟨fun u h => ⟨List.mem_cons_of_mem _ (h1 u h).1, (h1 u h).2⟩, fun y h => List.mem_cons_of_mem _ (h2 y h)⟩
    | double x =>
      show (∀ u, jnth (none :: none :: (jlay r).1) j = some (some u) → (k + j, jcv B EX u) ∈ (k, Value.double x) :: lv_args (k + 2) (r.map (jcv B EX)) ∧ u.category = 1) ∧ (∀ y, jnth (none :: none :: (jlay r).2) j = some (some y) → (k + j, Value.long y) ∈ (k, Value.double x) :: lv_args (k + 2) (r.map (jcv B EX)))
      match j with
      | 0 => exact ⟨fun u h => by simp [jnth] at h, fun y h => by simp [jnth] at h⟩
      | 1 => exact ⟨fun u h => by simp [jnth] at h, fun y h => by simp [jnth] at h⟩
      | j + 2 =>
        obtain ⟨h1, h2⟩ := ih (k + 2) j
        rw [show k + (j + 2) = k + 2 + j by omega]
        exact ⟨fun u h => ⟨List.mem_cons_of_mem _ (h1 u h).1, (h1 u h).2⟩, fun y h => List.mem_cons_of_mem _ (h2 y h)⟩
    | int x => exact one rfl rfl rfl
    | float x => exact one rfl rfl rfl
    | null => exact one rfl rfl rfl
    | ref x => exact one rfl rfl rfl
    | retAddr x => exact one rfl rfl rfl
theorem jnth_app {α : Type} (a b : List α) (j : Nat) (y : α) (h : jnth (a ++ b) j = some y) : jnth a j = some y ∨ y ∈ b := by
  rw [jnth_eq] at h
  by_cases hj : j < a.length
  · rw [List.getElem?_append_left hj] at h
    exact Or.inl (by rw [jnth_eq]; exact h)
  · rw [List.getElem?_append_right (by omega)] at h
    exact Or.inr (List.mem_of_getElem? h)
theorem jLok.entry (B : Nat) (EX : Nat → Nat) {args : List Value} {n n2 : Nat} (h : (jlay args).1.length ≤ n) : jLok B EX n (jpad (jlay args) n n2) ((lg_sl (args.map (jcv B EX)) ++ List.replicate (n - (lg_sl (args.map (jcv B EX))).length) Slot.unset).toArray) := by
  obtain ⟨e1, e2⟩ := jlay_len B EX args
  have h0 := lv_entry (args.map (jcv B EX)) (n := n) (by rw [e1]; exact h)
  have hm : ∀ (j : Nat) (v : Value), jnth (jpad (jlay args) n n2).1 j = some (some v) → jnth (jlay args).1 j = some (some v) := by
    intro j v hv
    rcases jnth_app _ _ _ _ hv with h1 | h1
    · exact h1
    · cases (List.mem_replicate.mp h1).2
  refine ⟨⟨h0.1, h0.2.1, fun q hq => h0.2.2 q ?_⟩, by simp [jpad]; omega, fun j v hv => ((jlay_mem B EX args 0 j).1 v (hm j v hv)).2⟩
  obtain ⟨j, w⟩ := q
  rcases jal_mem.mp hq with ⟨v, hv, rfl⟩ | ⟨x, hx, rfl⟩
  · have := ((jlay_mem B EX args 0 j).1 v (hm j v hv)).1
    rwa [Nat.zero_add] at this
  · have h1 : jnth (jlay args).2 j = some (some x) := by
      have h2 : jnth ((jlay args).2 ++ List.replicate (n - (jlay args).2.length) none) j = some (some x) := by
        rw [jnth_eq] at hx ⊢
        simp only [jpad] at hx
        rw [List.getElem?_take] at hx
        by_cases hj : j < n2
        · simpa [hj] using hx
        · simp [hj] at hx
      rcases jnth_app _ _ _ _ h2 with h3 | h3
      · exact h3
      · cases (List.mem_replicate.mp h3).2
    have := (jlay_mem B EX args 0 j).2 x h1
    rwa [Nat.zero_add] at this
